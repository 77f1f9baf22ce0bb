theorem mi_X9_act : MI yX9_act cX9_act 4 (some .int) 2 := ⟨by decide +kernel, (mw (i := 984) (by decide +kernel) rfl), (mw (i := 37) (by decide +kernel) rfl), by decide +kernel, by decide +kernel⟩
theorem mi_X9_copy : MI yX9_copy cX9_copy 4 (some .int) 2 := ⟨by decide +kernel, (mw (i := 1051) (by decide +kernel) rfl), (mw (i := 37) (by decide +kernel) rfl), by decide +kernel, by decide +kernel⟩
theorem mi_X9_copyWords : MI yX9_copyWords cX9_copyWords 4 (some .int) 2 := ⟨by decide +kernel, (mw (i := 1128) (by decide +kernel) rfl), (mw (i := 37) (by decide +kernel) rfl), by decide +kernel, by decide +kernel⟩
theorem mi_X9_count : MI yX9_count cX9_count 2 (some .int) 1 := ⟨by decide +kernel, (mw (i := 935) (by decide +kernel) rfl), (mw (i := 37) (by decide +kernel) rfl), by decide +kernel, by decide +kernel⟩
theorem mi_X9_gap : MI yX9_gap cX9_gap 1 (some .int) 0 := ⟨by decide +kernel, (mw (i := 1065) (by decide +kernel) rfl), (mw (i := 37) (by decide +kernel) rfl), by decide +kernel, by decide +kernel⟩
theorem mi_X9_has : MI yX9_has cX9_has 5 (some .boolean) 2 := ⟨by decide +kernel, (mw (i := 1769) (by decide +kernel) rfl), (mw (i := 37) (by decide +kernel) rfl), by decide +kernel, by decide +kernel⟩
theorem mi_X9_inputWord : MI yX9_inputWord cX9_inputWord 5 (some .long) 1 := ⟨by decide +kernel, (mw (i := 1183) (by decide +kernel) rfl), (mw (i := 37) (by decide +kernel) rfl), by decide +kernel, by decide +kernel⟩
theorem mi_X9_leaf : MI yX9_leaf cX9_leaf 3 (some .int) 2 := ⟨by decide +kernel, (mw (i := 1022) (by decide +kernel) rfl), (mw (i := 37) (by decide +kernel) rfl), by decide +kernel, by decide +kernel⟩
theorem mi_X9_lettersIn : MI yX9_lettersIn cX9_lettersIn 3 (some .int) 1 := ⟨by decide +kernel, (mw (i := 1015) (by decide +kernel) rfl), (mw (i := 37) (by decide +kernel) rfl), by decide +kernel, by decide +kernel⟩
theorem mi_X9_load : MI yX9_load cX9_load 5 (some .int) 1 := ⟨by decide +kernel, (mw (i := 464) (by decide +kernel) rfl), (mw (i := 37) (by decide +kernel) rfl), by decide +kernel, by decide +kernel⟩
theorem mi_X9_remember : MI yX9_remember cX9_remember 1 none 0 := ⟨by decide +kernel, (mw (i := 1147) (by decide +kernel) rfl), (mw (i := 37) (by decide +kernel) rfl), by decide +kernel, by decide +kernel⟩
theorem mi_X9_requireAct : MI yX9_requireAct cX9_requireAct 2 (some (.object "NotaryBook$Act")) 1 := ⟨by decide +kernel, (mw (i := 988) (by decide +kernel) rfl), (mw (i := 37) (by decide +kernel) rfl), by decide +kernel, by decide +kernel⟩
theorem mi_X9_requireBook : MI yX9_requireBook cX9_requireBook 1 none 0 := ⟨by decide +kernel, (mw (i := 939) (by decide +kernel) rfl), (mw (i := 37) (by decide +kernel) rfl), by decide +kernel, by decide +kernel⟩
theorem mi_X9_requireCopy : MI yX9_requireCopy cX9_requireCopy 2 (some (.object "NotaryBook$Copy")) 1 := ⟨by decide +kernel, (mw (i := 1055) (by decide +kernel) rfl), (mw (i := 37) (by decide +kernel) rfl), by decide +kernel, by decide +kernel⟩
theorem mi_X9_requireLeaf : MI yX9_requireLeaf cX9_requireLeaf 2 none 1 := ⟨by decide +kernel, (mw (i := 1026) (by decide +kernel) rfl), (mw (i := 37) (by decide +kernel) rfl), by decide +kernel, by decide +kernel⟩
theorem mi_X9_requireUpTo : MI yX9_requireUpTo cX9_requireUpTo 2 none 2 := ⟨by decide +kernel, (mw (i := 958) (by decide +kernel) rfl), (mw (i := 37) (by decide +kernel) rfl), by decide +kernel, by decide +kernel⟩
theorem mi_X9_requireWord : MI yX9_requireWord cX9_requireWord 2 (some .int) 2 := ⟨by decide +kernel, (mw (i := 1010) (by decide +kernel) rfl), (mw (i := 37) (by decide +kernel) rfl), by decide +kernel, by decide +kernel⟩
theorem mi_X9_rowAt : MI yX9_rowAt cX9_rowAt 2 (some (.object "NotaryBook$Book")) 2 := ⟨by decide +kernel, (mw (i := 1150) (by decide +kernel) rfl), (mw (i := 37) (by decide +kernel) rfl), by decide +kernel, by decide +kernel⟩
theorem mi_X9_shakenOut : MI yX9_shakenOut cX9_shakenOut 2 (some .int) 0 := ⟨by decide +kernel, (mw (i := 1116) (by decide +kernel) rfl), (mw (i := 37) (by decide +kernel) rfl), by decide +kernel, by decide +kernel⟩
theorem mi_X9_standingIf : MI yX9_standingIf cX9_standingIf 4 (some .int) 2 := ⟨by decide +kernel, (mw (i := 1133) (by decide +kernel) rfl), (mw (i := 37) (by decide +kernel) rfl), by decide +kernel, by decide +kernel⟩
theorem mi_X9_strike : MI yX9_strike cX9_strike 2 (some .int) 1 := ⟨by decide +kernel, (mw (i := 1142) (by decide +kernel) rfl), (mw (i := 37) (by decide +kernel) rfl), by decide +kernel, by decide +kernel⟩
theorem mi_X9_strikeClause : MI yX9_strikeClause cX9_strikeClause 2 (some .int) 1 := ⟨by decide +kernel, (mw (i := 1173) (by decide +kernel) rfl), (mw (i := 37) (by decide +kernel) rfl), by decide +kernel, by decide +kernel⟩
theorem mi_X9_unknownIf : MI yX9_unknownIf cX9_unknownIf 2 (some .int) 1 := ⟨by decide +kernel, (mw (i := 1108) (by decide +kernel) rfl), (mw (i := 37) (by decide +kernel) rfl), by decide +kernel, by decide +kernel⟩
theorem mi_X9_whyNotCopy : MI yX9_whyNotCopy cX9_whyNotCopy 3 (some .int) 2 := ⟨by decide +kernel, (mw (i := 1098) (by decide +kernel) rfl), (mw (i := 37) (by decide +kernel) rfl), by decide +kernel, by decide +kernel⟩
theorem mi_X9_whyNotSeal : MI yX9_whyNotSeal cX9_whyNotSeal 3 (some .int) 2 := ⟨by decide +kernel, (mw (i := 1093) (by decide +kernel) rfl), (mw (i := 37) (by decide +kernel) rfl), by decide +kernel, by decide +kernel⟩
theorem mi_X9_whyNotStrike : MI yX9_whyNotStrike cX9_whyNotStrike 2 (some .int) 1 := ⟨by decide +kernel, (mw (i := 1103) (by decide +kernel) rfl), (mw (i := 37) (by decide +kernel) rfl), by decide +kernel, by decide +kernel⟩
theorem mi_X9_word : MI yX9_word cX9_word 7 (some .int) 3 := ⟨by decide +kernel, (mw (i := 1007) (by decide +kernel) rfl), (mw (i := 37) (by decide +kernel) rfl), by decide +kernel, by decide +kernel⟩
theorem fl_RX9_73 : Fl RX9 73 5 0 .int false := ⟨RX5, TX5, 5, tyX5, rfl, by decide, rfl, lay_5, (mw (i := 354) (by decide +kernel) rfl), tyX5_ok, nmX5, tyX5_ok 0 (by decide), rfl, by decide, by decide⟩
theorem fl_RX9_76 : Fl RX9 76 9 2 .int false := ⟨RX9, TX9, 15, tyX9, rfl, by decide, rfl, lay_9, (mw (i := 417) (by decide +kernel) rfl), tyX9_ok, nmX9, tyX9_ok 2 (by decide), rfl, by decide, by decide⟩
theorem fl_RX9_77 : Fl RX9 77 5 1 .int false := ⟨RX5, TX5, 5, tyX5, rfl, by decide, rfl, lay_5, (mw (i := 356) (by decide +kernel) rfl), tyX5_ok, nmX5, tyX5_ok 1 (by decide), rfl, by decide, by decide⟩
theorem fl_RX9_85 : Fl RX9 85 9 4 .boolean false := ⟨RX9, TX9, 15, tyX9, rfl, by decide, rfl, lay_9, (mw (i := 419) (by decide +kernel) rfl), tyX9_ok, nmX9, tyX9_ok 4 (by decide), rfl, by decide, by decide⟩
theorem fl_RX9_92 : Fl RX9 92 1 2 .int false := ⟨RX1, TX1, 12, tyX1, rfl, by decide, rfl, lay_1, (mw (i := 267) (by decide +kernel) rfl), tyX1_ok, nmX1, tyX1_ok 2 (by decide), rfl, by decide, by decide⟩
theorem fl_RX9_102 : Fl RX9 102 1 0 .int false := ⟨RX1, TX1, 12, tyX1, rfl, by decide, rfl, lay_1, (mw (i := 261) (by decide +kernel) rfl), tyX1_ok, nmX1, tyX1_ok 0 (by decide), rfl, by decide, by decide⟩
theorem fl_RX9_105 : Fl RX9 105 1 1 .int false := ⟨RX1, TX1, 12, tyX1, rfl, by decide, rfl, lay_1, (mw (i := 264) (by decide +kernel) rfl), tyX1_ok, nmX1, tyX1_ok 1 (by decide), rfl, by decide, by decide⟩
theorem fl_RX9_108 : Fg RX9 108 1 9 := ⟨RX1, TX1, 12, rfl, by decide, rfl, lay_1, (mw (i := 283) (by decide +kernel) rfl)⟩
theorem fl_RX9_111 : Fl RX9 111 4 0 .int false := ⟨RX4, TX4, 4, tyX4, rfl, by decide, rfl, lay_4, (mw (i := 144) (by decide +kernel) rfl), tyX4_ok, nmX4, tyX4_ok 0 (by decide), rfl, by decide, by decide⟩
theorem fl_RX9_114 : Fg RX9 114 1 8 := ⟨RX1, TX1, 12, rfl, by decide, rfl, lay_1, (mw (i := 280) (by decide +kernel) rfl)⟩
theorem fl_RX9_118 : Fl RX9 118 8 0 .int false := ⟨RX8, TX8, 7, tyX8, rfl, by decide, rfl, lay_8, (mw (i := 101) (by decide +kernel) rfl), tyX8_ok, nmX8, tyX8_ok 0 (by decide), rfl, by decide, by decide⟩
theorem fl_RX9_123 : Fl RX9 123 4 1 .int false := ⟨RX4, TX4, 4, tyX4, rfl, by decide, rfl, lay_4, (mw (i := 148) (by decide +kernel) rfl), tyX4_ok, nmX4, tyX4_ok 1 (by decide), rfl, by decide, by decide⟩
theorem fl_RX9_128 : Fl RX9 128 1 3 .int false := ⟨RX1, TX1, 12, tyX1, rfl, by decide, rfl, lay_1, (mw (i := 270) (by decide +kernel) rfl), tyX1_ok, nmX1, tyX1_ok 3 (by decide), rfl, by decide, by decide⟩
theorem fl_RX9_131 : Fl RX9 131 1 4 .int false := ⟨RX1, TX1, 12, tyX1, rfl, by decide, rfl, lay_1, (mw (i := 273) (by decide +kernel) rfl), tyX1_ok, nmX1, tyX1_ok 4 (by decide), rfl, by decide, by decide⟩
theorem fl_RX9_157 : Fl RX9 157 0 1 .int false := ⟨RX0, TX0, 8, tyX0, rfl, by decide, rfl, lay_0, (mw (i := 220) (by decide +kernel) rfl), tyX0_ok, nmX0, tyX0_ok 1 (by decide), rfl, by decide, by decide⟩
theorem fl_RX9_160 : Fl RX9 160 0 2 .int false := ⟨RX0, TX0, 8, tyX0, rfl, by decide, rfl, lay_0, (mw (i := 223) (by decide +kernel) rfl), tyX0_ok, nmX0, tyX0_ok 2 (by decide), rfl, by decide, by decide⟩
theorem fl_RX9_163 : Fl RX9 163 0 3 .int false := ⟨RX0, TX0, 8, tyX0, rfl, by decide, rfl, lay_0, (mw (i := 225) (by decide +kernel) rfl), tyX0_ok, nmX0, tyX0_ok 3 (by decide), rfl, by decide, by decide⟩
theorem fl_RX9_166 : Fl RX9 166 0 4 .int false := ⟨RX0, TX0, 8, tyX0, rfl, by decide, rfl, lay_0, (mw (i := 229) (by decide +kernel) rfl), tyX0_ok, nmX0, tyX0_ok 4 (by decide), rfl, by decide, by decide⟩
theorem fl_RX9_169 : Fl RX9 169 0 6 .int false := ⟨RX0, TX0, 8, tyX0, rfl, by decide, rfl, lay_0, (mw (i := 239) (by decide +kernel) rfl), tyX0_ok, nmX0, tyX0_ok 6 (by decide), rfl, by decide, by decide⟩
theorem fl_RX9_170 : Fl RX9 170 0 5 .int false := ⟨RX0, TX0, 8, tyX0, rfl, by decide, rfl, lay_0, (mw (i := 234) (by decide +kernel) rfl), tyX0_ok, nmX0, tyX0_ok 5 (by decide), rfl, by decide, by decide⟩
theorem fl_RX9_182 : Fl RX9 182 0 7 .int false := ⟨RX0, TX0, 8, tyX0, rfl, by decide, rfl, lay_0, (mw (i := 241) (by decide +kernel) rfl), tyX0_ok, nmX0, tyX0_ok 7 (by decide), rfl, by decide, by decide⟩
theorem fl_RX9_192 : Fg RX9 192 8 4 := ⟨RX8, TX8, 7, rfl, by decide, rfl, lay_8, (mw (i := 111) (by decide +kernel) rfl)⟩
theorem fl_RX9_198 : Fg RX9 198 8 5 := ⟨RX8, TX8, 7, rfl, by decide, rfl, lay_8, (mw (i := 115) (by decide +kernel) rfl)⟩
theorem fl_RX9_202 : Fg RX9 202 8 1 := ⟨RX8, TX8, 7, rfl, by decide, rfl, lay_8, (mw (i := 104) (by decide +kernel) rfl)⟩
theorem fl_RX9_228 : Fg RX9 228 1 10 := ⟨RX1, TX1, 12, rfl, by decide, rfl, lay_1, (mw (i := 286) (by decide +kernel) rfl)⟩
theorem fl_RX9_243 : Fl RX9 243 2 0 .int false := ⟨RX2, TX2, 4, tyX2, rfl, by decide, rfl, lay_2, (mw (i := 168) (by decide +kernel) rfl), tyX2_ok, nmX2, tyX2_ok 0 (by decide), rfl, by decide, by decide⟩
theorem fl_RX9_244 : Fl RX9 244 2 1 .int false := ⟨RX2, TX2, 4, tyX2, rfl, by decide, rfl, lay_2, (mw (i := 171) (by decide +kernel) rfl), tyX2_ok, nmX2, tyX2_ok 1 (by decide), rfl, by decide, by decide⟩
theorem fl_RX9_279 : Fl RX9 279 3 0 .int false := ⟨RX3, TX3, 5, tyX3, rfl, by decide, rfl, lay_3, (mw (i := 190) (by decide +kernel) rfl), tyX3_ok, nmX3, tyX3_ok 0 (by decide), rfl, by decide, by decide⟩
theorem fl_RX9_284 : Fl RX9 284 3 1 .int false := ⟨RX3, TX3, 5, tyX3, rfl, by decide, rfl, lay_3, (mw (i := 193) (by decide +kernel) rfl), tyX3_ok, nmX3, tyX3_ok 1 (by decide), rfl, by decide, by decide⟩
theorem fl_RX9_287 : Fl RX9 287 3 4 .int false := ⟨RX3, TX3, 5, tyX3, rfl, by decide, rfl, lay_3, (mw (i := 199) (by decide +kernel) rfl), tyX3_ok, nmX3, tyX3_ok 4 (by decide), rfl, by decide, by decide⟩
theorem fl_RX9_332 : Fg RX9 332 1 11 := ⟨RX1, TX1, 12, rfl, by decide, rfl, lay_1, (mw (i := 288) (by decide +kernel) rfl)⟩
theorem fl_RX9_522 : Fg RX9 522 1 6 := ⟨RX1, TX1, 12, rfl, by decide, rfl, lay_1, (mw (i := 276) (by decide +kernel) rfl)⟩
theorem fl_RX9_530 : Fg RX9 530 1 7 := ⟨RX1, TX1, 12, rfl, by decide, rfl, lay_1, (mw (i := 278) (by decide +kernel) rfl)⟩
theorem lk_RX9_66 : LV RX9 66 yX9_requireBytes := ⟨(mw (i := 465) (by decide +kernel) rfl), (mw (i := 467) (by decide +kernel) rfl), (mw (i := 0) (by decide +kernel) rfl)⟩
theorem lk_RX9_69 : LV RX9 69 yX5_readText := ⟨(mw (i := 536) (by decide +kernel) rfl), (mw (i := 537) (by decide +kernel) rfl), (mw (i := 538) (by decide +kernel) rfl)⟩
theorem lk_RX9_89 : LV RX9 89 yX9_forgetPast := ⟨(mw (i := 928) (by decide +kernel) rfl), (mw (i := 930) (by decide +kernel) rfl), (mw (i := 23) (by decide +kernel) rfl)⟩
theorem lk_RX9_95 : LV RX9 95 yX9_requireBook := ⟨(mw (i := 936) (by decide +kernel) rfl), (mw (i := 938) (by decide +kernel) rfl), (mw (i := 24) (by decide +kernel) rfl)⟩
theorem lk_RX9_98 : LSt RX9 98 yX9_requireUpTo := ⟨(mw (i := 956) (by decide +kernel) rfl), (mw (i := 957) (by decide +kernel) rfl)⟩
theorem lk_RX9_124 : LV RX9 124 yX4_countOf := ⟨(mw (i := 960) (by decide +kernel) rfl), (mw (i := 961) (by decide +kernel) rfl), (mw (i := 962) (by decide +kernel) rfl)⟩
theorem lk_RX9_134 : LV RX9 134 yX1_marksOfAll := ⟨(mw (i := 964) (by decide +kernel) rfl), (mw (i := 965) (by decide +kernel) rfl), (mw (i := 966) (by decide +kernel) rfl)⟩
theorem lk_RX9_138 : LV RX9 138 yX8_standingFrom := ⟨(mw (i := 968) (by decide +kernel) rfl), (mw (i := 822) (by decide +kernel) rfl), (mw (i := 823) (by decide +kernel) rfl)⟩
theorem lk_RX9_144 : LV RX9 144 yX1_actsAt := ⟨(mw (i := 969) (by decide +kernel) rfl), (mw (i := 970) (by decide +kernel) rfl), (mw (i := 971) (by decide +kernel) rfl)⟩
theorem lk_RX9_147 : LV RX9 147 yX1_openNumber := ⟨(mw (i := 973) (by decide +kernel) rfl), (mw (i := 974) (by decide +kernel) rfl), (mw (i := 975) (by decide +kernel) rfl)⟩
theorem lk_RX9_150 : LV RX9 150 yX1_unknownFrom := ⟨(mw (i := 977) (by decide +kernel) rfl), (mw (i := 978) (by decide +kernel) rfl), (mw (i := 979) (by decide +kernel) rfl)⟩
theorem lk_RX9_153 : LV RX9 153 yX9_requireAct := ⟨(mw (i := 985) (by decide +kernel) rfl), (mw (i := 987) (by decide +kernel) rfl), (mw (i := 25) (by decide +kernel) rfl)⟩
theorem lk_RX9_173 : LV RX9 173 yX8_clausesFrom := ⟨(mw (i := 990) (by decide +kernel) rfl), (mw (i := 991) (by decide +kernel) rfl), (mw (i := 992) (by decide +kernel) rfl)⟩
theorem lk_RX9_176 : LV RX9 176 yX8_greatestDepth := ⟨(mw (i := 994) (by decide +kernel) rfl), (mw (i := 995) (by decide +kernel) rfl), (mw (i := 996) (by decide +kernel) rfl)⟩
theorem lk_RX9_179 : LV RX9 179 yX1_leafOf := ⟨(mw (i := 999) (by decide +kernel) rfl), (mw (i := 865) (by decide +kernel) rfl), (mw (i := 866) (by decide +kernel) rfl)⟩
theorem lk_RX9_185 : LV RX9 185 yX1_copiesOf := ⟨(mw (i := 1000) (by decide +kernel) rfl), (mw (i := 1001) (by decide +kernel) rfl), (mw (i := 1002) (by decide +kernel) rfl)⟩
theorem lk_RX9_188 : LSt RX9 188 yX9_requireWord := ⟨(mw (i := 1008) (by decide +kernel) rfl), (mw (i := 1009) (by decide +kernel) rfl)⟩
theorem lk_RX9_195 : LV RX9 195 yX8_depthOf := ⟨(mw (i := 1012) (by decide +kernel) rfl), (mw (i := 774) (by decide +kernel) rfl), (mw (i := 775) (by decide +kernel) rfl)⟩
theorem lk_RX9_206 : LSt RX9 206 yX9_lettersIn := ⟨(mw (i := 1013) (by decide +kernel) rfl), (mw (i := 1014) (by decide +kernel) rfl)⟩
theorem lk_RX9_210 : LV RX9 210 yX1_isKnown := ⟨(mw (i := 1016) (by decide +kernel) rfl), (mw (i := 861) (by decide +kernel) rfl), (mw (i := 862) (by decide +kernel) rfl)⟩
theorem lk_RX9_214 : LV RX9 214 yX8_innermostOf := ⟨(mw (i := 1017) (by decide +kernel) rfl), (mw (i := 770) (by decide +kernel) rfl), (mw (i := 771) (by decide +kernel) rfl)⟩
theorem lk_RX9_217 : LV RX9 217 yX1_copiesWith := ⟨(mw (i := 1018) (by decide +kernel) rfl), (mw (i := 869) (by decide +kernel) rfl), (mw (i := 870) (by decide +kernel) rfl)⟩
theorem lk_RX9_245 : LV RX9 245 yX8_unstruckFrom := ⟨(mw (i := 1138) (by decide +kernel) rfl), (mw (i := 757) (by decide +kernel) rfl), (mw (i := 758) (by decide +kernel) rfl)⟩
theorem lk_RX9_254 : LV RX9 254 yX9_requireLeaf := ⟨(mw (i := 1023) (by decide +kernel) rfl), (mw (i := 1025) (by decide +kernel) rfl), (mw (i := 26) (by decide +kernel) rfl)⟩
theorem lk_RX9_257 : LV RX9 257 yX4_stateOf := ⟨(mw (i := 1029) (by decide +kernel) rfl), (mw (i := 1030) (by decide +kernel) rfl), (mw (i := 1031) (by decide +kernel) rfl)⟩
theorem lk_RX9_260 : LV RX9 260 yX1_wordsOn := ⟨(mw (i := 1033) (by decide +kernel) rfl), (mw (i := 703) (by decide +kernel) rfl), (mw (i := 704) (by decide +kernel) rfl)⟩
theorem lk_RX9_263 : LV RX9 263 yX1_actsOn := ⟨(mw (i := 1034) (by decide +kernel) rfl), (mw (i := 1035) (by decide +kernel) rfl), (mw (i := 1036) (by decide +kernel) rfl)⟩
theorem lk_RX9_266 : LV RX9 266 yX4_mateOf := ⟨(mw (i := 1042) (by decide +kernel) rfl), (mw (i := 726) (by decide +kernel) rfl), (mw (i := 727) (by decide +kernel) rfl)⟩
theorem lk_RX9_269 : LV RX9 269 yX4_gatheringOf := ⟨(mw (i := 1043) (by decide +kernel) rfl), (mw (i := 730) (by decide +kernel) rfl), (mw (i := 731) (by decide +kernel) rfl)⟩
theorem lk_RX9_272 : LV RX9 272 yX1_firstActOn := ⟨(mw (i := 1044) (by decide +kernel) rfl), (mw (i := 1045) (by decide +kernel) rfl), (mw (i := 1046) (by decide +kernel) rfl)⟩
theorem lk_RX9_275 : LV RX9 275 yX9_requireCopy := ⟨(mw (i := 1052) (by decide +kernel) rfl), (mw (i := 1054) (by decide +kernel) rfl), (mw (i := 28) (by decide +kernel) rfl)⟩
theorem lk_RX9_288 : LV RX9 288 yX3_fee := ⟨(mw (i := 1057) (by decide +kernel) rfl), (mw (i := 877) (by decide +kernel) rfl), (mw (i := 878) (by decide +kernel) rfl)⟩
theorem lk_RX9_290 : LV RX9 290 yX1_knownByAlone := ⟨(mw (i := 1058) (by decide +kernel) rfl), (mw (i := 1059) (by decide +kernel) rfl), (mw (i := 1060) (by decide +kernel) rfl)⟩
theorem lk_RX9_294 : LV RX9 294 yX3_holds := ⟨(mw (i := 1770) (by decide +kernel) rfl), (mw (i := 856) (by decide +kernel) rfl), (mw (i := 857) (by decide +kernel) rfl)⟩
theorem lk_RX9_298 : LV RX9 298 yX1_wordsGap := ⟨(mw (i := 1066) (by decide +kernel) rfl), (mw (i := 1067) (by decide +kernel) rfl), (mw (i := 1068) (by decide +kernel) rfl)⟩
theorem lk_RX9_301 : LV RX9 301 yX1_standingGap := ⟨(mw (i := 1073) (by decide +kernel) rfl), (mw (i := 1074) (by decide +kernel) rfl), (mw (i := 1075) (by decide +kernel) rfl)⟩
theorem lk_RX9_304 : LV RX9 304 yX1_cashGap := ⟨(mw (i := 1082) (by decide +kernel) rfl), (mw (i := 1083) (by decide +kernel) rfl), (mw (i := 1084) (by decide +kernel) rfl)⟩
theorem lk_RX9_307 : LV RX9 307 yX1_numbersGap := ⟨(mw (i := 1086) (by decide +kernel) rfl), (mw (i := 1087) (by decide +kernel) rfl), (mw (i := 1088) (by decide +kernel) rfl)⟩
theorem lk_RX9_310 : LV RX9 310 yX1_sealReason := ⟨(mw (i := 1094) (by decide +kernel) rfl), (mw (i := 814) (by decide +kernel) rfl), (mw (i := 815) (by decide +kernel) rfl)⟩
theorem lk_RX9_313 : LV RX9 313 yX1_copyReason := ⟨(mw (i := 1099) (by decide +kernel) rfl), (mw (i := 848) (by decide +kernel) rfl), (mw (i := 849) (by decide +kernel) rfl)⟩
theorem lk_RX9_316 : LV RX9 316 yX1_strikeReason := ⟨(mw (i := 1104) (by decide +kernel) rfl), (mw (i := 745) (by decide +kernel) rfl), (mw (i := 746) (by decide +kernel) rfl)⟩
theorem lk_RX9_319 : LV RX9 319 yX1_wouldBeUnknown := ⟨(mw (i := 1109) (by decide +kernel) rfl), (mw (i := 1110) (by decide +kernel) rfl), (mw (i := 1111) (by decide +kernel) rfl)⟩
theorem lk_RX9_322 : LV RX9 322 yX4_take := ⟨(mw (i := 1117) (by decide +kernel) rfl), (mw (i := 1118) (by decide +kernel) rfl), (mw (i := 1119) (by decide +kernel) rfl)⟩
theorem lk_RX9_326 : LV RX9 326 yX4_dropLoose := ⟨(mw (i := 1124) (by decide +kernel) rfl), (mw (i := 882) (by decide +kernel) rfl), (mw (i := 883) (by decide +kernel) rfl)⟩
theorem lk_RX9_336 : LV RX9 336 yX3_draw := ⟨(mw (i := 1129) (by decide +kernel) rfl), (mw (i := 852) (by decide +kernel) rfl), (mw (i := 853) (by decide +kernel) rfl)⟩
theorem lk_RX9_345 : LV RX9 345 yX1_openStanding := ⟨(mw (i := 1135) (by decide +kernel) rfl), (mw (i := 818) (by decide +kernel) rfl), (mw (i := 819) (by decide +kernel) rfl)⟩
theorem lk_RX9_348 : LV RX9 348 yX1_seekClauseAround := ⟨(mw (i := 1136) (by decide +kernel) rfl), (mw (i := 766) (by decide +kernel) rfl), (mw (i := 767) (by decide +kernel) rfl)⟩
theorem lk_RX9_430 : LV RX9 430 yX9_remember := ⟨(mw (i := 1144) (by decide +kernel) rfl), (mw (i := 1146) (by decide +kernel) rfl), (mw (i := 29) (by decide +kernel) rfl)⟩
theorem lk_RX9_441 : LV RX9 441 yX1_strikeWord := ⟨(mw (i := 1169) (by decide +kernel) rfl), (mw (i := 749) (by decide +kernel) rfl), (mw (i := 750) (by decide +kernel) rfl)⟩
theorem lk_RX9_446 : LV RX9 446 yX1_strikeAround := ⟨(mw (i := 1175) (by decide +kernel) rfl), (mw (i := 786) (by decide +kernel) rfl), (mw (i := 787) (by decide +kernel) rfl)⟩
theorem lk_RX9_502 : LSt RX9 502 yX9_rowAt := ⟨(mw (i := 1148) (by decide +kernel) rfl), (mw (i := 1149) (by decide +kernel) rfl)⟩
theorem lk_RX9_509 : LV RX9 509 yX1_take := ⟨(mw (i := 1151) (by decide +kernel) rfl), (mw (i := 1152) (by decide +kernel) rfl), (mw (i := 1153) (by decide +kernel) rfl)⟩
theorem lk_RX9_534 : LV RX9 534 yX4_isThere := ⟨(mw (i := 1027) (by decide +kernel) rfl), (mw (i := 699) (by decide +kernel) rfl), (mw (i := 700) (by decide +kernel) rfl)⟩
theorem lk_RX9_551 : LSt RX9 551 yX9_isLetter := ⟨(mw (i := 1184) (by decide +kernel) rfl), (mw (i := 556) (by decide +kernel) rfl)⟩
theorem tw_RX9_78_82 : TW RX9 78 82 2 := ⟨(mw (i := 912) (by decide +kernel) rfl), (mw (i := 70) (by decide +kernel) rfl), tw_of (ids := [66, 491, 500, 504, 507, 509, 492, 493, 81, 82, 494, 499, 505, 525, 481, 526, 483, 527, 485, 495, 497, 487, 521, 522, 524, 487, 923, 924, 925, 515, 473, 515, 516, 517, 518, 475, 518, 519, 520, 521, 477, 922, 913, 914, 915, 502, 916, 917, 918, 919, 490, 489, 920]) (by decide +kernel) (by decide +kernel), by decide +kernel, by decide +kernel⟩
theorem tw_RX9_494_498 : TW RX9 494 498 0 := ⟨(mw (i := 940) (by decide +kernel) rfl), (mw (i := 71) (by decide +kernel) rfl), tw_of (ids := [66, 491, 500, 504, 507, 509, 492, 493, 81, 82, 494, 499, 505, 525, 481, 526, 483, 527, 485, 495, 497, 487, 521, 522, 524, 487, 951, 952, 953, 515, 473, 515, 516, 517, 518, 475, 518, 519, 520, 521, 477, 950, 941, 942, 943, 503, 944, 945, 946, 947, 490, 489, 948]) (by decide +kernel) (by decide +kernel), by decide +kernel, by decide +kernel⟩
theorem dX9_load_0 : decode cX9_load 0 = .ok (.aload_n 0, 1) := by decide +kernel
theorem dX9_load_1 : decode cX9_load 1 = .ok (.iload_n 1, 1) := by decide +kernel
theorem dX9_load_2 : decode cX9_load 2 = .ok (.invokevirtual 66, 3) := by decide +kernel
theorem dX9_load_5 : decode cX9_load 5 = .ok (.aload_n 0, 1) := by decide +kernel
theorem dX9_load_6 : decode cX9_load 6 = .ok (.iconst 0, 1) := by decide +kernel
theorem dX9_load_7 : decode cX9_load 7 = .ok (.putfield 59, 3) := by decide +kernel
theorem dX9_load_10 : decode cX9_load 10 = .ok (.aload_n 0, 1) := by decide +kernel
theorem dX9_load_11 : decode cX9_load 11 = .ok (.getfield 30, 3) := by decide +kernel
theorem dX9_load_14 : decode cX9_load 14 = .ok (.aload_n 0, 1) := by decide +kernel
theorem dX9_load_15 : decode cX9_load 15 = .ok (.getfield 9, 3) := by decide +kernel
theorem dX9_load_18 : decode cX9_load 18 = .ok (.iload_n 1, 1) := by decide +kernel
theorem dX9_load_19 : decode cX9_load 19 = .ok (.aload_n 0, 1) := by decide +kernel
theorem dX9_load_20 : decode cX9_load 20 = .ok (.getfield 24, 3) := by decide +kernel
theorem dX9_load_23 : decode cX9_load 23 = .ok (.invokevirtual 69, 3) := by decide +kernel
theorem dX9_load_26 : decode cX9_load 26 = .ok (.istore_n 2, 1) := by decide +kernel
theorem dX9_load_27 : decode cX9_load 27 = .ok (.aload_n 0, 1) := by decide +kernel
theorem dX9_load_28 : decode cX9_load 28 = .ok (.iload_n 2, 1) := by decide +kernel
theorem dX9_load_29 : decode cX9_load 29 = .ok (.ifCond .eq 7, 3) := by decide +kernel
theorem dX9_load_32 : decode cX9_load 32 = .ok (.iconst 0, 1) := by decide +kernel
theorem dX9_load_33 : decode cX9_load 33 = .ok (.goto 10, 3) := by decide +kernel
theorem dX9_load_36 : decode cX9_load 36 = .ok (.aload_n 0, 1) := by decide +kernel
theorem dX9_load_37 : decode cX9_load 37 = .ok (.getfield 30, 3) := by decide +kernel
theorem dX9_load_40 : decode cX9_load 40 = .ok (.getfield 73, 3) := by decide +kernel
theorem dX9_load_43 : decode cX9_load 43 = .ok (.putfield 76, 3) := by decide +kernel
theorem dX9_load_46 : decode cX9_load 46 = .ok (.aload_n 0, 1) := by decide +kernel
theorem dX9_load_47 : decode cX9_load 47 = .ok (.iload_n 2, 1) := by decide +kernel
theorem dX9_load_48 : decode cX9_load 48 = .ok (.ifCond .eq 7, 3) := by decide +kernel
theorem dX9_load_51 : decode cX9_load 51 = .ok (.iconst (-1), 1) := by decide +kernel
theorem dX9_load_52 : decode cX9_load 52 = .ok (.goto 10, 3) := by decide +kernel
theorem dX9_load_55 : decode cX9_load 55 = .ok (.aload_n 0, 1) := by decide +kernel
theorem dX9_load_56 : decode cX9_load 56 = .ok (.getfield 30, 3) := by decide +kernel
theorem dX9_load_59 : decode cX9_load 59 = .ok (.getfield 77, 3) := by decide +kernel
theorem dX9_load_62 : decode cX9_load 62 = .ok (.putfield 13, 3) := by decide +kernel
theorem dX9_load_65 : decode cX9_load 65 = .ok (.iload_n 2, 1) := by decide +kernel
theorem dX9_load_66 : decode cX9_load 66 = .ok (.ifCond .ne 13, 3) := by decide +kernel
theorem dX9_load_69 : decode cX9_load 69 = .ok (.new 78, 3) := by decide +kernel
theorem dX9_load_72 : decode cX9_load 72 = .ok (.dup, 1) := by decide +kernel
theorem dX9_load_73 : decode cX9_load 73 = .ok (.ldc 80, 2) := by decide +kernel
theorem dX9_load_75 : decode cX9_load 75 = .ok (.invokespecial 82, 3) := by decide +kernel
theorem dX9_load_78 : decode cX9_load 78 = .ok (.athrow, 1) := by decide +kernel
theorem dX9_load_79 : decode cX9_load 79 = .ok (.aload_n 0, 1) := by decide +kernel
theorem dX9_load_80 : decode cX9_load 80 = .ok (.getfield 20, 3) := by decide +kernel
theorem dX9_load_83 : decode cX9_load 83 = .ok (.astore_n 3, 1) := by decide +kernel
theorem dX9_load_84 : decode cX9_load 84 = .ok (.aload_n 0, 1) := by decide +kernel
theorem dX9_load_85 : decode cX9_load 85 = .ok (.aload_n 0, 1) := by decide +kernel
theorem dX9_load_86 : decode cX9_load 86 = .ok (.getfield 24, 3) := by decide +kernel
theorem dX9_load_89 : decode cX9_load 89 = .ok (.putfield 20, 3) := by decide +kernel
theorem dX9_load_92 : decode cX9_load 92 = .ok (.aload_n 0, 1) := by decide +kernel
theorem dX9_load_93 : decode cX9_load 93 = .ok (.aload_n 3, 1) := by decide +kernel
theorem dX9_load_94 : decode cX9_load 94 = .ok (.putfield 24, 3) := by decide +kernel
theorem dX9_load_97 : decode cX9_load 97 = .ok (.aload_n 0, 1) := by decide +kernel
theorem dX9_load_98 : decode cX9_load 98 = .ok (.iconst 1, 1) := by decide +kernel
theorem dX9_load_99 : decode cX9_load 99 = .ok (.putfield 85, 3) := by decide +kernel
theorem dX9_load_102 : decode cX9_load 102 = .ok (.aload_n 0, 1) := by decide +kernel
theorem dX9_load_103 : decode cX9_load 103 = .ok (.invokevirtual 89, 3) := by decide +kernel
theorem dX9_load_106 : decode cX9_load 106 = .ok (.iconst 0, 1) := by decide +kernel
theorem dX9_load_107 : decode cX9_load 107 = .ok (.istore 4, 2) := by decide +kernel
theorem dX9_load_109 : decode cX9_load 109 = .ok (.iload 4, 2) := by decide +kernel
theorem dX9_load_111 : decode cX9_load 111 = .ok (.iconst 2, 1) := by decide +kernel
theorem dX9_load_112 : decode cX9_load 112 = .ok (.if_icmp .ge 17, 3) := by decide +kernel
theorem dX9_load_115 : decode cX9_load 115 = .ok (.aload_n 0, 1) := by decide +kernel
theorem dX9_load_116 : decode cX9_load 116 = .ok (.getfield 41, 3) := by decide +kernel
theorem dX9_load_119 : decode cX9_load 119 = .ok (.iload 4, 2) := by decide +kernel
theorem dX9_load_121 : decode cX9_load 121 = .ok (.iconst 0, 1) := by decide +kernel
theorem dX9_load_122 : decode cX9_load 122 = .ok (.bastore, 1) := by decide +kernel
theorem dX9_load_123 : decode cX9_load 123 = .ok (.iinc 4 1, 3) := by decide +kernel
theorem dX9_load_126 : decode cX9_load 126 = .ok (.goto (-17), 3) := by decide +kernel
theorem dX9_load_129 : decode cX9_load 129 = .ok (.aload_n 0, 1) := by decide +kernel
theorem dX9_load_130 : decode cX9_load 130 = .ok (.getfield 20, 3) := by decide +kernel
theorem dX9_load_133 : decode cX9_load 133 = .ok (.getfield 92, 3) := by decide +kernel
theorem dX9_load_136 : decode cX9_load 136 = .ok (.ireturn, 1) := by decide +kernel
theorem dX9_requireBook_0 : decode cX9_requireBook 0 = .ok (.aload_n 0, 1) := by decide +kernel
theorem dX9_requireBook_1 : decode cX9_requireBook 1 = .ok (.getfield 85, 3) := by decide +kernel
theorem dX9_requireBook_4 : decode cX9_requireBook 4 = .ok (.ifCond .ne 14, 3) := by decide +kernel
theorem dX9_requireBook_7 : decode cX9_requireBook 7 = .ok (.new 494, 3) := by decide +kernel
theorem dX9_requireBook_10 : decode cX9_requireBook 10 = .ok (.dup, 1) := by decide +kernel
theorem dX9_requireBook_11 : decode cX9_requireBook 11 = .ok (.ldc_w 514, 3) := by decide +kernel
theorem dX9_requireBook_14 : decode cX9_requireBook 14 = .ok (.invokespecial 498, 3) := by decide +kernel
theorem dX9_requireBook_17 : decode cX9_requireBook 17 = .ok (.athrow, 1) := by decide +kernel
theorem dX9_requireBook_18 : decode cX9_requireBook 18 = .ok (.return_, 1) := by decide +kernel
theorem dX9_requireUpTo_0 : decode cX9_requireUpTo 0 = .ok (.iload_n 0, 1) := by decide +kernel
theorem dX9_requireUpTo_1 : decode cX9_requireUpTo 1 = .ok (.ifCond .lt 8, 3) := by decide +kernel
theorem dX9_requireUpTo_4 : decode cX9_requireUpTo 4 = .ok (.iload_n 0, 1) := by decide +kernel
theorem dX9_requireUpTo_5 : decode cX9_requireUpTo 5 = .ok (.iload_n 1, 1) := by decide +kernel
theorem dX9_requireUpTo_6 : decode cX9_requireUpTo 6 = .ok (.if_icmp .le 14, 3) := by decide +kernel
theorem dX9_requireUpTo_9 : decode cX9_requireUpTo 9 = .ok (.new 78, 3) := by decide +kernel
theorem dX9_requireUpTo_12 : decode cX9_requireUpTo 12 = .ok (.dup, 1) := by decide +kernel
theorem dX9_requireUpTo_13 : decode cX9_requireUpTo 13 = .ok (.ldc_w 518, 3) := by decide +kernel
theorem dX9_requireUpTo_16 : decode cX9_requireUpTo 16 = .ok (.invokespecial 82, 3) := by decide +kernel
theorem dX9_requireUpTo_19 : decode cX9_requireUpTo 19 = .ok (.athrow, 1) := by decide +kernel
theorem dX9_requireUpTo_20 : decode cX9_requireUpTo 20 = .ok (.return_, 1) := by decide +kernel
theorem dX9_count_0 : decode cX9_count 0 = .ok (.aload_n 0, 1) := by decide +kernel
theorem dX9_count_1 : decode cX9_count 1 = .ok (.invokevirtual 95, 3) := by decide +kernel
theorem dX9_count_4 : decode cX9_count 4 = .ok (.iload_n 1, 1) := by decide +kernel
theorem dX9_count_5 : decode cX9_count 5 = .ok (.bipush 15, 2) := by decide +kernel
theorem dX9_count_7 : decode cX9_count 7 = .ok (.invokestatic 98, 3) := by decide +kernel
theorem dX9_count_10 : decode cX9_count 10 = .ok (.iload_n 1, 1) := by decide +kernel
theorem dX9_count_11 : decode cX9_count 11 = .ok (.tableswitch 226 0 14 #[73, 81, 89, 100, 108, 119, 130, 142, 154, 162, 170, 178, 200, 209, 218], 73) := by decide +kernel
theorem dX9_count_84 : decode cX9_count 84 = .ok (.aload_n 0, 1) := by decide +kernel
theorem dX9_count_85 : decode cX9_count 85 = .ok (.getfield 20, 3) := by decide +kernel
theorem dX9_count_88 : decode cX9_count 88 = .ok (.getfield 102, 3) := by decide +kernel
theorem dX9_count_91 : decode cX9_count 91 = .ok (.ireturn, 1) := by decide +kernel
theorem dX9_count_92 : decode cX9_count 92 = .ok (.aload_n 0, 1) := by decide +kernel
theorem dX9_count_93 : decode cX9_count 93 = .ok (.getfield 20, 3) := by decide +kernel
theorem dX9_count_96 : decode cX9_count 96 = .ok (.getfield 105, 3) := by decide +kernel
theorem dX9_count_99 : decode cX9_count 99 = .ok (.ireturn, 1) := by decide +kernel
theorem dX9_count_100 : decode cX9_count 100 = .ok (.aload_n 0, 1) := by decide +kernel
theorem dX9_count_101 : decode cX9_count 101 = .ok (.getfield 20, 3) := by decide +kernel
theorem dX9_count_104 : decode cX9_count 104 = .ok (.getfield 108, 3) := by decide +kernel
theorem dX9_count_107 : decode cX9_count 107 = .ok (.getfield 111, 3) := by decide +kernel
theorem dX9_count_110 : decode cX9_count 110 = .ok (.ireturn, 1) := by decide +kernel
theorem dX9_count_111 : decode cX9_count 111 = .ok (.aload_n 0, 1) := by decide +kernel
theorem dX9_count_112 : decode cX9_count 112 = .ok (.getfield 20, 3) := by decide +kernel
theorem dX9_count_115 : decode cX9_count 115 = .ok (.getfield 92, 3) := by decide +kernel
theorem dX9_count_118 : decode cX9_count 118 = .ok (.ireturn, 1) := by decide +kernel
theorem dX9_count_119 : decode cX9_count 119 = .ok (.aload_n 0, 1) := by decide +kernel
theorem dX9_count_120 : decode cX9_count 120 = .ok (.getfield 20, 3) := by decide +kernel
theorem dX9_count_123 : decode cX9_count 123 = .ok (.getfield 114, 3) := by decide +kernel
theorem dX9_count_126 : decode cX9_count 126 = .ok (.getfield 118, 3) := by decide +kernel
theorem dX9_count_129 : decode cX9_count 129 = .ok (.ireturn, 1) := by decide +kernel
theorem dX9_count_130 : decode cX9_count 130 = .ok (.aload_n 0, 1) := by decide +kernel
theorem dX9_count_131 : decode cX9_count 131 = .ok (.getfield 20, 3) := by decide +kernel
theorem dX9_count_134 : decode cX9_count 134 = .ok (.getfield 108, 3) := by decide +kernel
theorem dX9_count_137 : decode cX9_count 137 = .ok (.getfield 123, 3) := by decide +kernel
theorem dX9_count_140 : decode cX9_count 140 = .ok (.ireturn, 1) := by decide +kernel
theorem dX9_count_141 : decode cX9_count 141 = .ok (.aload_n 0, 1) := by decide +kernel
theorem dX9_count_142 : decode cX9_count 142 = .ok (.getfield 20, 3) := by decide +kernel
theorem dX9_count_145 : decode cX9_count 145 = .ok (.getfield 108, 3) := by decide +kernel
theorem dX9_count_148 : decode cX9_count 148 = .ok (.iconst 2, 1) := by decide +kernel
theorem dX9_count_149 : decode cX9_count 149 = .ok (.invokevirtual 124, 3) := by decide +kernel
theorem dX9_count_152 : decode cX9_count 152 = .ok (.ireturn, 1) := by decide +kernel
theorem dX9_count_153 : decode cX9_count 153 = .ok (.aload_n 0, 1) := by decide +kernel
theorem dX9_count_154 : decode cX9_count 154 = .ok (.getfield 20, 3) := by decide +kernel
theorem dX9_count_157 : decode cX9_count 157 = .ok (.getfield 108, 3) := by decide +kernel
theorem dX9_count_160 : decode cX9_count 160 = .ok (.iconst 1, 1) := by decide +kernel
theorem dX9_count_161 : decode cX9_count 161 = .ok (.invokevirtual 124, 3) := by decide +kernel
theorem dX9_count_164 : decode cX9_count 164 = .ok (.ireturn, 1) := by decide +kernel
theorem dX9_count_165 : decode cX9_count 165 = .ok (.aload_n 0, 1) := by decide +kernel
theorem dX9_count_166 : decode cX9_count 166 = .ok (.getfield 20, 3) := by decide +kernel
theorem dX9_count_169 : decode cX9_count 169 = .ok (.getfield 128, 3) := by decide +kernel
theorem dX9_count_172 : decode cX9_count 172 = .ok (.ireturn, 1) := by decide +kernel
theorem dX9_count_173 : decode cX9_count 173 = .ok (.aload_n 0, 1) := by decide +kernel
theorem dX9_count_174 : decode cX9_count 174 = .ok (.getfield 20, 3) := by decide +kernel
theorem dX9_count_177 : decode cX9_count 177 = .ok (.getfield 131, 3) := by decide +kernel
theorem dX9_count_180 : decode cX9_count 180 = .ok (.ireturn, 1) := by decide +kernel
theorem dX9_count_181 : decode cX9_count 181 = .ok (.aload_n 0, 1) := by decide +kernel
theorem dX9_count_182 : decode cX9_count 182 = .ok (.getfield 20, 3) := by decide +kernel
theorem dX9_count_185 : decode cX9_count 185 = .ok (.invokevirtual 134, 3) := by decide +kernel
theorem dX9_count_188 : decode cX9_count 188 = .ok (.ireturn, 1) := by decide +kernel
theorem dX9_count_189 : decode cX9_count 189 = .ok (.aload_n 0, 1) := by decide +kernel
theorem dX9_count_190 : decode cX9_count 190 = .ok (.getfield 20, 3) := by decide +kernel
theorem dX9_count_193 : decode cX9_count 193 = .ok (.getfield 114, 3) := by decide +kernel
theorem dX9_count_196 : decode cX9_count 196 = .ok (.iconst 0, 1) := by decide +kernel
theorem dX9_count_197 : decode cX9_count 197 = .ok (.aload_n 0, 1) := by decide +kernel
theorem dX9_count_198 : decode cX9_count 198 = .ok (.getfield 20, 3) := by decide +kernel
theorem dX9_count_201 : decode cX9_count 201 = .ok (.getfield 114, 3) := by decide +kernel
theorem dX9_count_204 : decode cX9_count 204 = .ok (.getfield 118, 3) := by decide +kernel
theorem dX9_count_207 : decode cX9_count 207 = .ok (.invokevirtual 138, 3) := by decide +kernel
theorem dX9_count_210 : decode cX9_count 210 = .ok (.ireturn, 1) := by decide +kernel
theorem dX9_count_211 : decode cX9_count 211 = .ok (.aload_n 0, 1) := by decide +kernel
theorem dX9_count_212 : decode cX9_count 212 = .ok (.getfield 20, 3) := by decide +kernel
theorem dX9_count_215 : decode cX9_count 215 = .ok (.iconst 1, 1) := by decide +kernel
theorem dX9_count_216 : decode cX9_count 216 = .ok (.invokevirtual 144, 3) := by decide +kernel
theorem dX9_count_219 : decode cX9_count 219 = .ok (.ireturn, 1) := by decide +kernel
theorem dX9_count_220 : decode cX9_count 220 = .ok (.aload_n 0, 1) := by decide +kernel
theorem dX9_count_221 : decode cX9_count 221 = .ok (.getfield 20, 3) := by decide +kernel
theorem dX9_count_224 : decode cX9_count 224 = .ok (.iconst 2, 1) := by decide +kernel
theorem dX9_count_225 : decode cX9_count 225 = .ok (.invokevirtual 144, 3) := by decide +kernel
theorem dX9_count_228 : decode cX9_count 228 = .ok (.ireturn, 1) := by decide +kernel
theorem dX9_count_229 : decode cX9_count 229 = .ok (.aload_n 0, 1) := by decide +kernel
theorem dX9_count_230 : decode cX9_count 230 = .ok (.getfield 20, 3) := by decide +kernel
theorem dX9_count_233 : decode cX9_count 233 = .ok (.invokevirtual 147, 3) := by decide +kernel
theorem dX9_count_236 : decode cX9_count 236 = .ok (.ireturn, 1) := by decide +kernel
theorem dX9_count_237 : decode cX9_count 237 = .ok (.aload_n 0, 1) := by decide +kernel
theorem dX9_count_238 : decode cX9_count 238 = .ok (.getfield 20, 3) := by decide +kernel
theorem dX9_count_241 : decode cX9_count 241 = .ok (.iconst 0, 1) := by decide +kernel
theorem dX9_count_242 : decode cX9_count 242 = .ok (.aload_n 0, 1) := by decide +kernel
theorem dX9_count_243 : decode cX9_count 243 = .ok (.getfield 20, 3) := by decide +kernel
theorem dX9_count_246 : decode cX9_count 246 = .ok (.getfield 114, 3) := by decide +kernel
theorem dX9_count_249 : decode cX9_count 249 = .ok (.getfield 118, 3) := by decide +kernel
theorem dX9_count_252 : decode cX9_count 252 = .ok (.invokevirtual 150, 3) := by decide +kernel
theorem dX9_count_255 : decode cX9_count 255 = .ok (.ireturn, 1) := by decide +kernel
theorem dX9_requireAct_0 : decode cX9_requireAct 0 = .ok (.iload_n 1, 1) := by decide +kernel
theorem dX9_requireAct_1 : decode cX9_requireAct 1 = .ok (.iconst 1, 1) := by decide +kernel
theorem dX9_requireAct_2 : decode cX9_requireAct 2 = .ok (.if_icmp .lt 14, 3) := by decide +kernel
theorem dX9_requireAct_5 : decode cX9_requireAct 5 = .ok (.iload_n 1, 1) := by decide +kernel
theorem dX9_requireAct_6 : decode cX9_requireAct 6 = .ok (.aload_n 0, 1) := by decide +kernel
theorem dX9_requireAct_7 : decode cX9_requireAct 7 = .ok (.getfield 20, 3) := by decide +kernel
theorem dX9_requireAct_10 : decode cX9_requireAct 10 = .ok (.getfield 92, 3) := by decide +kernel
theorem dX9_requireAct_13 : decode cX9_requireAct 13 = .ok (.if_icmp .le 14, 3) := by decide +kernel
theorem dX9_requireAct_16 : decode cX9_requireAct 16 = .ok (.new 238, 3) := by decide +kernel
theorem dX9_requireAct_19 : decode cX9_requireAct 19 = .ok (.dup, 1) := by decide +kernel
theorem dX9_requireAct_20 : decode cX9_requireAct 20 = .ok (.ldc_w 520, 3) := by decide +kernel
theorem dX9_requireAct_23 : decode cX9_requireAct 23 = .ok (.invokespecial 242, 3) := by decide +kernel
theorem dX9_requireAct_26 : decode cX9_requireAct 26 = .ok (.athrow, 1) := by decide +kernel
theorem dX9_requireAct_27 : decode cX9_requireAct 27 = .ok (.aload_n 0, 1) := by decide +kernel
theorem dX9_requireAct_28 : decode cX9_requireAct 28 = .ok (.getfield 20, 3) := by decide +kernel
theorem dX9_requireAct_31 : decode cX9_requireAct 31 = .ok (.getfield 522, 3) := by decide +kernel
theorem dX9_requireAct_34 : decode cX9_requireAct 34 = .ok (.iload_n 1, 1) := by decide +kernel
theorem dX9_requireAct_35 : decode cX9_requireAct 35 = .ok (.iconst 1, 1) := by decide +kernel
theorem dX9_requireAct_36 : decode cX9_requireAct 36 = .ok (.isub, 1) := by decide +kernel
theorem dX9_requireAct_37 : decode cX9_requireAct 37 = .ok (.aaload, 1) := by decide +kernel
theorem dX9_requireAct_38 : decode cX9_requireAct 38 = .ok (.areturn, 1) := by decide +kernel
theorem dX9_act_0 : decode cX9_act 0 = .ok (.aload_n 0, 1) := by decide +kernel
theorem dX9_act_1 : decode cX9_act 1 = .ok (.invokevirtual 95, 3) := by decide +kernel
theorem dX9_act_4 : decode cX9_act 4 = .ok (.aload_n 0, 1) := by decide +kernel
theorem dX9_act_5 : decode cX9_act 5 = .ok (.iload_n 1, 1) := by decide +kernel
theorem dX9_act_6 : decode cX9_act 6 = .ok (.invokevirtual 153, 3) := by decide +kernel
theorem dX9_act_9 : decode cX9_act 9 = .ok (.astore_n 3, 1) := by decide +kernel
theorem dX9_act_10 : decode cX9_act 10 = .ok (.iload_n 2, 1) := by decide +kernel
theorem dX9_act_11 : decode cX9_act 11 = .ok (.bipush 11, 2) := by decide +kernel
theorem dX9_act_13 : decode cX9_act 13 = .ok (.invokestatic 98, 3) := by decide +kernel
theorem dX9_act_16 : decode cX9_act 16 = .ok (.iload_n 2, 1) := by decide +kernel
theorem dX9_act_17 : decode cX9_act 17 = .ok (.tableswitch 177 0 10 #[59, 64, 69, 74, 79, 84, 103, 122, 141, 153, 172], 59) := by decide +kernel
theorem dX9_act_76 : decode cX9_act 76 = .ok (.aload_n 3, 1) := by decide +kernel
theorem dX9_act_77 : decode cX9_act 77 = .ok (.getfield 157, 3) := by decide +kernel
theorem dX9_act_80 : decode cX9_act 80 = .ok (.ireturn, 1) := by decide +kernel
theorem dX9_act_81 : decode cX9_act 81 = .ok (.aload_n 3, 1) := by decide +kernel
theorem dX9_act_82 : decode cX9_act 82 = .ok (.getfield 160, 3) := by decide +kernel
theorem dX9_act_85 : decode cX9_act 85 = .ok (.ireturn, 1) := by decide +kernel
theorem dX9_act_86 : decode cX9_act 86 = .ok (.aload_n 3, 1) := by decide +kernel
theorem dX9_act_87 : decode cX9_act 87 = .ok (.getfield 163, 3) := by decide +kernel
theorem dX9_act_90 : decode cX9_act 90 = .ok (.ireturn, 1) := by decide +kernel
theorem dX9_act_91 : decode cX9_act 91 = .ok (.aload_n 3, 1) := by decide +kernel
theorem dX9_act_92 : decode cX9_act 92 = .ok (.getfield 166, 3) := by decide +kernel
theorem dX9_act_95 : decode cX9_act 95 = .ok (.ireturn, 1) := by decide +kernel
theorem dX9_act_96 : decode cX9_act 96 = .ok (.aload_n 3, 1) := by decide +kernel
theorem dX9_act_97 : decode cX9_act 97 = .ok (.getfield 169, 3) := by decide +kernel
theorem dX9_act_100 : decode cX9_act 100 = .ok (.ireturn, 1) := by decide +kernel
theorem dX9_act_101 : decode cX9_act 101 = .ok (.aload_n 0, 1) := by decide +kernel
theorem dX9_act_102 : decode cX9_act 102 = .ok (.getfield 20, 3) := by decide +kernel
theorem dX9_act_105 : decode cX9_act 105 = .ok (.getfield 114, 3) := by decide +kernel
theorem dX9_act_108 : decode cX9_act 108 = .ok (.aload_n 3, 1) := by decide +kernel
theorem dX9_act_109 : decode cX9_act 109 = .ok (.getfield 170, 3) := by decide +kernel
theorem dX9_act_112 : decode cX9_act 112 = .ok (.aload_n 3, 1) := by decide +kernel
theorem dX9_act_113 : decode cX9_act 113 = .ok (.getfield 169, 3) := by decide +kernel
theorem dX9_act_116 : decode cX9_act 116 = .ok (.invokevirtual 138, 3) := by decide +kernel
theorem dX9_act_119 : decode cX9_act 119 = .ok (.ireturn, 1) := by decide +kernel
theorem dX9_act_120 : decode cX9_act 120 = .ok (.aload_n 0, 1) := by decide +kernel
theorem dX9_act_121 : decode cX9_act 121 = .ok (.getfield 20, 3) := by decide +kernel
theorem dX9_act_124 : decode cX9_act 124 = .ok (.getfield 114, 3) := by decide +kernel
theorem dX9_act_127 : decode cX9_act 127 = .ok (.aload_n 3, 1) := by decide +kernel
theorem dX9_act_128 : decode cX9_act 128 = .ok (.getfield 170, 3) := by decide +kernel
theorem dX9_act_131 : decode cX9_act 131 = .ok (.aload_n 3, 1) := by decide +kernel
theorem dX9_act_132 : decode cX9_act 132 = .ok (.getfield 169, 3) := by decide +kernel
theorem dX9_act_135 : decode cX9_act 135 = .ok (.invokevirtual 173, 3) := by decide +kernel
theorem dX9_act_138 : decode cX9_act 138 = .ok (.ireturn, 1) := by decide +kernel
theorem dX9_act_139 : decode cX9_act 139 = .ok (.aload_n 0, 1) := by decide +kernel
theorem dX9_act_140 : decode cX9_act 140 = .ok (.getfield 20, 3) := by decide +kernel
theorem dX9_act_143 : decode cX9_act 143 = .ok (.getfield 114, 3) := by decide +kernel
theorem dX9_act_146 : decode cX9_act 146 = .ok (.aload_n 3, 1) := by decide +kernel
theorem dX9_act_147 : decode cX9_act 147 = .ok (.getfield 170, 3) := by decide +kernel
theorem dX9_act_150 : decode cX9_act 150 = .ok (.aload_n 3, 1) := by decide +kernel
theorem dX9_act_151 : decode cX9_act 151 = .ok (.getfield 169, 3) := by decide +kernel
theorem dX9_act_154 : decode cX9_act 154 = .ok (.invokevirtual 176, 3) := by decide +kernel
theorem dX9_act_157 : decode cX9_act 157 = .ok (.ireturn, 1) := by decide +kernel
theorem dX9_act_158 : decode cX9_act 158 = .ok (.aload_n 0, 1) := by decide +kernel
theorem dX9_act_159 : decode cX9_act 159 = .ok (.getfield 20, 3) := by decide +kernel
theorem dX9_act_162 : decode cX9_act 162 = .ok (.aload_n 3, 1) := by decide +kernel
theorem dX9_act_163 : decode cX9_act 163 = .ok (.getfield 170, 3) := by decide +kernel
theorem dX9_act_166 : decode cX9_act 166 = .ok (.invokevirtual 179, 3) := by decide +kernel
theorem dX9_act_169 : decode cX9_act 169 = .ok (.ireturn, 1) := by decide +kernel
theorem dX9_act_170 : decode cX9_act 170 = .ok (.aload_n 0, 1) := by decide +kernel
theorem dX9_act_171 : decode cX9_act 171 = .ok (.getfield 20, 3) := by decide +kernel
theorem dX9_act_174 : decode cX9_act 174 = .ok (.aload_n 3, 1) := by decide +kernel
theorem dX9_act_175 : decode cX9_act 175 = .ok (.getfield 170, 3) := by decide +kernel
theorem dX9_act_178 : decode cX9_act 178 = .ok (.aload_n 3, 1) := by decide +kernel
theorem dX9_act_179 : decode cX9_act 179 = .ok (.getfield 169, 3) := by decide +kernel
theorem dX9_act_182 : decode cX9_act 182 = .ok (.iadd, 1) := by decide +kernel
theorem dX9_act_183 : decode cX9_act 183 = .ok (.iconst 1, 1) := by decide +kernel
theorem dX9_act_184 : decode cX9_act 184 = .ok (.isub, 1) := by decide +kernel
theorem dX9_act_185 : decode cX9_act 185 = .ok (.invokevirtual 179, 3) := by decide +kernel
theorem dX9_act_188 : decode cX9_act 188 = .ok (.ireturn, 1) := by decide +kernel
theorem dX9_act_189 : decode cX9_act 189 = .ok (.aload_n 3, 1) := by decide +kernel
theorem dX9_act_190 : decode cX9_act 190 = .ok (.getfield 182, 3) := by decide +kernel
theorem dX9_act_193 : decode cX9_act 193 = .ok (.ireturn, 1) := by decide +kernel
theorem dX9_act_194 : decode cX9_act 194 = .ok (.aload_n 0, 1) := by decide +kernel
theorem dX9_act_195 : decode cX9_act 195 = .ok (.getfield 20, 3) := by decide +kernel
theorem dX9_act_198 : decode cX9_act 198 = .ok (.iload_n 1, 1) := by decide +kernel
theorem dX9_act_199 : decode cX9_act 199 = .ok (.invokevirtual 185, 3) := by decide +kernel
theorem dX9_act_202 : decode cX9_act 202 = .ok (.ireturn, 1) := by decide +kernel
theorem dX9_requireWord_0 : decode cX9_requireWord 0 = .ok (.iload_n 1, 1) := by decide +kernel
theorem dX9_requireWord_1 : decode cX9_requireWord 1 = .ok (.ifCond .lt 11, 3) := by decide +kernel
theorem dX9_requireWord_4 : decode cX9_requireWord 4 = .ok (.iload_n 1, 1) := by decide +kernel
theorem dX9_requireWord_5 : decode cX9_requireWord 5 = .ok (.aload_n 0, 1) := by decide +kernel
theorem dX9_requireWord_6 : decode cX9_requireWord 6 = .ok (.getfield 169, 3) := by decide +kernel
theorem dX9_requireWord_9 : decode cX9_requireWord 9 = .ok (.if_icmp .lt 14, 3) := by decide +kernel
theorem dX9_requireWord_12 : decode cX9_requireWord 12 = .ok (.new 238, 3) := by decide +kernel
theorem dX9_requireWord_15 : decode cX9_requireWord 15 = .ok (.dup, 1) := by decide +kernel
theorem dX9_requireWord_16 : decode cX9_requireWord 16 = .ok (.ldc_w 526, 3) := by decide +kernel
theorem dX9_requireWord_19 : decode cX9_requireWord 19 = .ok (.invokespecial 242, 3) := by decide +kernel
theorem dX9_requireWord_22 : decode cX9_requireWord 22 = .ok (.athrow, 1) := by decide +kernel
theorem dX9_requireWord_23 : decode cX9_requireWord 23 = .ok (.aload_n 0, 1) := by decide +kernel
theorem dX9_requireWord_24 : decode cX9_requireWord 24 = .ok (.getfield 170, 3) := by decide +kernel
theorem dX9_requireWord_27 : decode cX9_requireWord 27 = .ok (.iload_n 1, 1) := by decide +kernel
theorem dX9_requireWord_28 : decode cX9_requireWord 28 = .ok (.iadd, 1) := by decide +kernel
theorem dX9_requireWord_29 : decode cX9_requireWord 29 = .ok (.ireturn, 1) := by decide +kernel
theorem dX9_lettersIn_0 : decode cX9_lettersIn 0 = .ok (.iconst 0, 1) := by decide +kernel
theorem dX9_lettersIn_1 : decode cX9_lettersIn 1 = .ok (.istore_n 2, 1) := by decide +kernel
theorem dX9_lettersIn_2 : decode cX9_lettersIn 2 = .ok (.iload_n 2, 1) := by decide +kernel
theorem dX9_lettersIn_3 : decode cX9_lettersIn 3 = .ok (.bipush 8, 2) := by decide +kernel
theorem dX9_lettersIn_5 : decode cX9_lettersIn 5 = .ok (.if_icmp .ge 20, 3) := by decide +kernel
theorem dX9_lettersIn_8 : decode cX9_lettersIn 8 = .ok (.lload_n 0, 1) := by decide +kernel
theorem dX9_lettersIn_9 : decode cX9_lettersIn 9 = .ok (.bipush 8, 2) := by decide +kernel
theorem dX9_lettersIn_11 : decode cX9_lettersIn 11 = .ok (.iload_n 2, 1) := by decide +kernel
theorem dX9_lettersIn_12 : decode cX9_lettersIn 12 = .ok (.imul, 1) := by decide +kernel
theorem dX9_lettersIn_13 : decode cX9_lettersIn 13 = .ok (.lushr, 1) := by decide +kernel
theorem dX9_lettersIn_14 : decode cX9_lettersIn 14 = .ok (.lconst 0, 1) := by decide +kernel
theorem dX9_lettersIn_15 : decode cX9_lettersIn 15 = .ok (.lcmp, 1) := by decide +kernel
theorem dX9_lettersIn_16 : decode cX9_lettersIn 16 = .ok (.ifCond .eq 9, 3) := by decide +kernel
theorem dX9_lettersIn_19 : decode cX9_lettersIn 19 = .ok (.iinc 2 1, 3) := by decide +kernel
theorem dX9_lettersIn_22 : decode cX9_lettersIn 22 = .ok (.goto (-20), 3) := by decide +kernel
theorem dX9_lettersIn_25 : decode cX9_lettersIn 25 = .ok (.iload_n 2, 1) := by decide +kernel
theorem dX9_lettersIn_26 : decode cX9_lettersIn 26 = .ok (.ireturn, 1) := by decide +kernel
theorem dX9_word_0 : decode cX9_word 0 = .ok (.aload_n 0, 1) := by decide +kernel
theorem dX9_word_1 : decode cX9_word 1 = .ok (.invokevirtual 95, 3) := by decide +kernel
theorem dX9_word_4 : decode cX9_word 4 = .ok (.aload_n 0, 1) := by decide +kernel
theorem dX9_word_5 : decode cX9_word 5 = .ok (.iload_n 1, 1) := by decide +kernel
theorem dX9_word_6 : decode cX9_word 6 = .ok (.invokevirtual 153, 3) := by decide +kernel
theorem dX9_word_9 : decode cX9_word 9 = .ok (.astore 4, 2) := by decide +kernel
theorem dX9_word_11 : decode cX9_word 11 = .ok (.aload 4, 2) := by decide +kernel
theorem dX9_word_13 : decode cX9_word 13 = .ok (.iload_n 2, 1) := by decide +kernel
theorem dX9_word_14 : decode cX9_word 14 = .ok (.invokestatic 188, 3) := by decide +kernel
theorem dX9_word_17 : decode cX9_word 17 = .ok (.istore 5, 2) := by decide +kernel
theorem dX9_word_19 : decode cX9_word 19 = .ok (.iload_n 3, 1) := by decide +kernel
theorem dX9_word_20 : decode cX9_word 20 = .ok (.bipush 7, 2) := by decide +kernel
theorem dX9_word_22 : decode cX9_word 22 = .ok (.invokestatic 98, 3) := by decide +kernel
theorem dX9_word_25 : decode cX9_word 25 = .ok (.aload_n 0, 1) := by decide +kernel
theorem dX9_word_26 : decode cX9_word 26 = .ok (.getfield 20, 3) := by decide +kernel
theorem dX9_word_29 : decode cX9_word 29 = .ok (.getfield 114, 3) := by decide +kernel
theorem dX9_word_32 : decode cX9_word 32 = .ok (.astore 6, 2) := by decide +kernel
theorem dX9_word_34 : decode cX9_word 34 = .ok (.iload_n 3, 1) := by decide +kernel
theorem dX9_word_35 : decode cX9_word 35 = .ok (.tableswitch 133 0 6 #[41, 51, 68, 81, 90, 102, 120], 41) := by decide +kernel
theorem dX9_word_76 : decode cX9_word 76 = .ok (.aload_n 0, 1) := by decide +kernel
theorem dX9_word_77 : decode cX9_word 77 = .ok (.getfield 20, 3) := by decide +kernel
theorem dX9_word_80 : decode cX9_word 80 = .ok (.iload 5, 2) := by decide +kernel
theorem dX9_word_82 : decode cX9_word 82 = .ok (.invokevirtual 179, 3) := by decide +kernel
theorem dX9_word_85 : decode cX9_word 85 = .ok (.ireturn, 1) := by decide +kernel
theorem dX9_word_86 : decode cX9_word 86 = .ok (.aload 6, 2) := by decide +kernel
theorem dX9_word_88 : decode cX9_word 88 = .ok (.getfield 192, 3) := by decide +kernel
theorem dX9_word_91 : decode cX9_word 91 = .ok (.iload 5, 2) := by decide +kernel
theorem dX9_word_93 : decode cX9_word 93 = .ok (.baload, 1) := by decide +kernel
theorem dX9_word_94 : decode cX9_word 94 = .ok (.ifCond .eq 7, 3) := by decide +kernel
theorem dX9_word_97 : decode cX9_word 97 = .ok (.iconst 1, 1) := by decide +kernel
theorem dX9_word_98 : decode cX9_word 98 = .ok (.goto 4, 3) := by decide +kernel
theorem dX9_word_101 : decode cX9_word 101 = .ok (.iconst 0, 1) := by decide +kernel
theorem dX9_word_102 : decode cX9_word 102 = .ok (.ireturn, 1) := by decide +kernel
theorem dX9_word_103 : decode cX9_word 103 = .ok (.aload 6, 2) := by decide +kernel
theorem dX9_word_105 : decode cX9_word 105 = .ok (.aload 4, 2) := by decide +kernel
theorem dX9_word_107 : decode cX9_word 107 = .ok (.getfield 170, 3) := by decide +kernel
theorem dX9_word_110 : decode cX9_word 110 = .ok (.iload 5, 2) := by decide +kernel
theorem dX9_word_112 : decode cX9_word 112 = .ok (.invokevirtual 195, 3) := by decide +kernel
theorem dX9_word_115 : decode cX9_word 115 = .ok (.ireturn, 1) := by decide +kernel
theorem dX9_word_116 : decode cX9_word 116 = .ok (.aload 6, 2) := by decide +kernel
theorem dX9_word_118 : decode cX9_word 118 = .ok (.getfield 198, 3) := by decide +kernel
theorem dX9_word_121 : decode cX9_word 121 = .ok (.iload 5, 2) := by decide +kernel
theorem dX9_word_123 : decode cX9_word 123 = .ok (.iaload, 1) := by decide +kernel
theorem dX9_word_124 : decode cX9_word 124 = .ok (.ireturn, 1) := by decide +kernel
theorem dX9_word_125 : decode cX9_word 125 = .ok (.aload 6, 2) := by decide +kernel
theorem dX9_word_127 : decode cX9_word 127 = .ok (.getfield 202, 3) := by decide +kernel
theorem dX9_word_130 : decode cX9_word 130 = .ok (.iload 5, 2) := by decide +kernel
theorem dX9_word_132 : decode cX9_word 132 = .ok (.laload, 1) := by decide +kernel
theorem dX9_word_133 : decode cX9_word 133 = .ok (.invokestatic 206, 3) := by decide +kernel
theorem dX9_word_136 : decode cX9_word 136 = .ok (.ireturn, 1) := by decide +kernel
theorem dX9_word_137 : decode cX9_word 137 = .ok (.aload_n 0, 1) := by decide +kernel
theorem dX9_word_138 : decode cX9_word 138 = .ok (.getfield 20, 3) := by decide +kernel
theorem dX9_word_141 : decode cX9_word 141 = .ok (.iload 5, 2) := by decide +kernel
theorem dX9_word_143 : decode cX9_word 143 = .ok (.invokevirtual 210, 3) := by decide +kernel
theorem dX9_word_146 : decode cX9_word 146 = .ok (.ifCond .eq 7, 3) := by decide +kernel
theorem dX9_word_149 : decode cX9_word 149 = .ok (.iconst 1, 1) := by decide +kernel
theorem dX9_word_150 : decode cX9_word 150 = .ok (.goto 4, 3) := by decide +kernel
theorem dX9_word_153 : decode cX9_word 153 = .ok (.iconst 0, 1) := by decide +kernel
theorem dX9_word_154 : decode cX9_word 154 = .ok (.ireturn, 1) := by decide +kernel
theorem dX9_word_155 : decode cX9_word 155 = .ok (.aload 6, 2) := by decide +kernel
theorem dX9_word_157 : decode cX9_word 157 = .ok (.aload 4, 2) := by decide +kernel
theorem dX9_word_159 : decode cX9_word 159 = .ok (.getfield 170, 3) := by decide +kernel
theorem dX9_word_162 : decode cX9_word 162 = .ok (.iload 5, 2) := by decide +kernel
theorem dX9_word_164 : decode cX9_word 164 = .ok (.invokevirtual 214, 3) := by decide +kernel
theorem dX9_word_167 : decode cX9_word 167 = .ok (.ireturn, 1) := by decide +kernel
theorem dX9_word_168 : decode cX9_word 168 = .ok (.aload_n 0, 1) := by decide +kernel
theorem dX9_word_169 : decode cX9_word 169 = .ok (.getfield 20, 3) := by decide +kernel
theorem dX9_word_172 : decode cX9_word 172 = .ok (.iload 5, 2) := by decide +kernel
theorem dX9_word_174 : decode cX9_word 174 = .ok (.invokevirtual 217, 3) := by decide +kernel
theorem dX9_word_177 : decode cX9_word 177 = .ok (.ireturn, 1) := by decide +kernel
theorem dX9_requireLeaf_0 : decode cX9_requireLeaf 0 = .ok (.aload_n 0, 1) := by decide +kernel
theorem dX9_requireLeaf_1 : decode cX9_requireLeaf 1 = .ok (.getfield 20, 3) := by decide +kernel
theorem dX9_requireLeaf_4 : decode cX9_requireLeaf 4 = .ok (.getfield 108, 3) := by decide +kernel
theorem dX9_requireLeaf_7 : decode cX9_requireLeaf 7 = .ok (.iload_n 1, 1) := by decide +kernel
theorem dX9_requireLeaf_8 : decode cX9_requireLeaf 8 = .ok (.invokevirtual 534, 3) := by decide +kernel
theorem dX9_requireLeaf_11 : decode cX9_requireLeaf 11 = .ok (.ifCond .ne 14, 3) := by decide +kernel
theorem dX9_requireLeaf_14 : decode cX9_requireLeaf 14 = .ok (.new 238, 3) := by decide +kernel
theorem dX9_requireLeaf_17 : decode cX9_requireLeaf 17 = .ok (.dup, 1) := by decide +kernel
theorem dX9_requireLeaf_18 : decode cX9_requireLeaf 18 = .ok (.ldc_w 537, 3) := by decide +kernel
theorem dX9_requireLeaf_21 : decode cX9_requireLeaf 21 = .ok (.invokespecial 242, 3) := by decide +kernel
theorem dX9_requireLeaf_24 : decode cX9_requireLeaf 24 = .ok (.athrow, 1) := by decide +kernel
theorem dX9_requireLeaf_25 : decode cX9_requireLeaf 25 = .ok (.return_, 1) := by decide +kernel
theorem dX9_leaf_0 : decode cX9_leaf 0 = .ok (.aload_n 0, 1) := by decide +kernel
theorem dX9_leaf_1 : decode cX9_leaf 1 = .ok (.invokevirtual 95, 3) := by decide +kernel
theorem dX9_leaf_4 : decode cX9_leaf 4 = .ok (.aload_n 0, 1) := by decide +kernel
theorem dX9_leaf_5 : decode cX9_leaf 5 = .ok (.iload_n 1, 1) := by decide +kernel
theorem dX9_leaf_6 : decode cX9_leaf 6 = .ok (.invokevirtual 254, 3) := by decide +kernel
theorem dX9_leaf_9 : decode cX9_leaf 9 = .ok (.iload_n 2, 1) := by decide +kernel
theorem dX9_leaf_10 : decode cX9_leaf 10 = .ok (.iconst 5, 1) := by decide +kernel
theorem dX9_leaf_11 : decode cX9_leaf 11 = .ok (.invokestatic 98, 3) := by decide +kernel
theorem dX9_leaf_14 : decode cX9_leaf 14 = .ok (.iload_n 2, 1) := by decide +kernel
theorem dX9_leaf_15 : decode cX9_leaf 15 = .ok (.tableswitch 87 0 4 #[33, 45, 54, 63, 75], 33) := by decide +kernel
theorem dX9_leaf_48 : decode cX9_leaf 48 = .ok (.aload_n 0, 1) := by decide +kernel
theorem dX9_leaf_49 : decode cX9_leaf 49 = .ok (.getfield 20, 3) := by decide +kernel
theorem dX9_leaf_52 : decode cX9_leaf 52 = .ok (.getfield 108, 3) := by decide +kernel
theorem dX9_leaf_55 : decode cX9_leaf 55 = .ok (.iload_n 1, 1) := by decide +kernel
theorem dX9_leaf_56 : decode cX9_leaf 56 = .ok (.invokevirtual 257, 3) := by decide +kernel
theorem dX9_leaf_59 : decode cX9_leaf 59 = .ok (.ireturn, 1) := by decide +kernel
theorem dX9_leaf_60 : decode cX9_leaf 60 = .ok (.aload_n 0, 1) := by decide +kernel
theorem dX9_leaf_61 : decode cX9_leaf 61 = .ok (.getfield 20, 3) := by decide +kernel
theorem dX9_leaf_64 : decode cX9_leaf 64 = .ok (.iload_n 1, 1) := by decide +kernel
theorem dX9_leaf_65 : decode cX9_leaf 65 = .ok (.invokevirtual 260, 3) := by decide +kernel
theorem dX9_leaf_68 : decode cX9_leaf 68 = .ok (.ireturn, 1) := by decide +kernel
theorem dX9_leaf_69 : decode cX9_leaf 69 = .ok (.aload_n 0, 1) := by decide +kernel
theorem dX9_leaf_70 : decode cX9_leaf 70 = .ok (.getfield 20, 3) := by decide +kernel
theorem dX9_leaf_73 : decode cX9_leaf 73 = .ok (.iload_n 1, 1) := by decide +kernel
theorem dX9_leaf_74 : decode cX9_leaf 74 = .ok (.invokevirtual 263, 3) := by decide +kernel
theorem dX9_leaf_77 : decode cX9_leaf 77 = .ok (.ireturn, 1) := by decide +kernel
theorem dX9_leaf_78 : decode cX9_leaf 78 = .ok (.aload_n 0, 1) := by decide +kernel
theorem dX9_leaf_79 : decode cX9_leaf 79 = .ok (.getfield 20, 3) := by decide +kernel
theorem dX9_leaf_82 : decode cX9_leaf 82 = .ok (.getfield 108, 3) := by decide +kernel
theorem dX9_leaf_85 : decode cX9_leaf 85 = .ok (.iload_n 1, 1) := by decide +kernel
theorem dX9_leaf_86 : decode cX9_leaf 86 = .ok (.invokevirtual 266, 3) := by decide +kernel
theorem dX9_leaf_89 : decode cX9_leaf 89 = .ok (.ireturn, 1) := by decide +kernel
theorem dX9_leaf_90 : decode cX9_leaf 90 = .ok (.aload_n 0, 1) := by decide +kernel
theorem dX9_leaf_91 : decode cX9_leaf 91 = .ok (.getfield 20, 3) := by decide +kernel
theorem dX9_leaf_94 : decode cX9_leaf 94 = .ok (.getfield 108, 3) := by decide +kernel
theorem dX9_leaf_97 : decode cX9_leaf 97 = .ok (.iload_n 1, 1) := by decide +kernel
theorem dX9_leaf_98 : decode cX9_leaf 98 = .ok (.invokevirtual 269, 3) := by decide +kernel
theorem dX9_leaf_101 : decode cX9_leaf 101 = .ok (.ireturn, 1) := by decide +kernel
theorem dX9_leaf_102 : decode cX9_leaf 102 = .ok (.aload_n 0, 1) := by decide +kernel
theorem dX9_leaf_103 : decode cX9_leaf 103 = .ok (.getfield 20, 3) := by decide +kernel
theorem dX9_leaf_106 : decode cX9_leaf 106 = .ok (.iload_n 1, 1) := by decide +kernel
theorem dX9_leaf_107 : decode cX9_leaf 107 = .ok (.invokevirtual 272, 3) := by decide +kernel
theorem dX9_leaf_110 : decode cX9_leaf 110 = .ok (.ireturn, 1) := by decide +kernel
theorem dX9_requireCopy_0 : decode cX9_requireCopy 0 = .ok (.iload_n 1, 1) := by decide +kernel
theorem dX9_requireCopy_1 : decode cX9_requireCopy 1 = .ok (.ifCond .lt 14, 3) := by decide +kernel
theorem dX9_requireCopy_4 : decode cX9_requireCopy 4 = .ok (.iload_n 1, 1) := by decide +kernel
theorem dX9_requireCopy_5 : decode cX9_requireCopy 5 = .ok (.aload_n 0, 1) := by decide +kernel
theorem dX9_requireCopy_6 : decode cX9_requireCopy 6 = .ok (.getfield 20, 3) := by decide +kernel
theorem dX9_requireCopy_9 : decode cX9_requireCopy 9 = .ok (.getfield 128, 3) := by decide +kernel
theorem dX9_requireCopy_12 : decode cX9_requireCopy 12 = .ok (.if_icmp .lt 14, 3) := by decide +kernel
theorem dX9_requireCopy_15 : decode cX9_requireCopy 15 = .ok (.new 238, 3) := by decide +kernel
theorem dX9_requireCopy_18 : decode cX9_requireCopy 18 = .ok (.dup, 1) := by decide +kernel
theorem dX9_requireCopy_19 : decode cX9_requireCopy 19 = .ok (.ldc_w 528, 3) := by decide +kernel
theorem dX9_requireCopy_22 : decode cX9_requireCopy 22 = .ok (.invokespecial 242, 3) := by decide +kernel
theorem dX9_requireCopy_25 : decode cX9_requireCopy 25 = .ok (.athrow, 1) := by decide +kernel
theorem dX9_requireCopy_26 : decode cX9_requireCopy 26 = .ok (.aload_n 0, 1) := by decide +kernel
theorem dX9_requireCopy_27 : decode cX9_requireCopy 27 = .ok (.getfield 20, 3) := by decide +kernel
theorem dX9_requireCopy_30 : decode cX9_requireCopy 30 = .ok (.getfield 530, 3) := by decide +kernel
theorem dX9_requireCopy_33 : decode cX9_requireCopy 33 = .ok (.iload_n 1, 1) := by decide +kernel
theorem dX9_requireCopy_34 : decode cX9_requireCopy 34 = .ok (.aaload, 1) := by decide +kernel
theorem dX9_requireCopy_35 : decode cX9_requireCopy 35 = .ok (.areturn, 1) := by decide +kernel
theorem dX9_copy_0 : decode cX9_copy 0 = .ok (.aload_n 0, 1) := by decide +kernel
theorem dX9_copy_1 : decode cX9_copy 1 = .ok (.invokevirtual 95, 3) := by decide +kernel
theorem dX9_copy_4 : decode cX9_copy 4 = .ok (.aload_n 0, 1) := by decide +kernel
theorem dX9_copy_5 : decode cX9_copy 5 = .ok (.iload_n 1, 1) := by decide +kernel
theorem dX9_copy_6 : decode cX9_copy 6 = .ok (.invokevirtual 275, 3) := by decide +kernel
theorem dX9_copy_9 : decode cX9_copy 9 = .ok (.astore_n 3, 1) := by decide +kernel
theorem dX9_copy_10 : decode cX9_copy 10 = .ok (.iload_n 2, 1) := by decide +kernel
theorem dX9_copy_11 : decode cX9_copy 11 = .ok (.iconst 4, 1) := by decide +kernel
theorem dX9_copy_12 : decode cX9_copy 12 = .ok (.invokestatic 98, 3) := by decide +kernel
theorem dX9_copy_15 : decode cX9_copy 15 = .ok (.iload_n 2, 1) := by decide +kernel
theorem dX9_copy_16 : decode cX9_copy 16 = .ok (.tableswitch 52 0 3 #[32, 37, 42, 47], 32) := by decide +kernel
theorem dX9_copy_48 : decode cX9_copy 48 = .ok (.aload_n 3, 1) := by decide +kernel
theorem dX9_copy_49 : decode cX9_copy 49 = .ok (.getfield 279, 3) := by decide +kernel
theorem dX9_copy_52 : decode cX9_copy 52 = .ok (.ireturn, 1) := by decide +kernel
theorem dX9_copy_53 : decode cX9_copy 53 = .ok (.aload_n 3, 1) := by decide +kernel
theorem dX9_copy_54 : decode cX9_copy 54 = .ok (.getfield 284, 3) := by decide +kernel
theorem dX9_copy_57 : decode cX9_copy 57 = .ok (.ireturn, 1) := by decide +kernel
theorem dX9_copy_58 : decode cX9_copy 58 = .ok (.aload_n 3, 1) := by decide +kernel
theorem dX9_copy_59 : decode cX9_copy 59 = .ok (.getfield 287, 3) := by decide +kernel
theorem dX9_copy_62 : decode cX9_copy 62 = .ok (.ireturn, 1) := by decide +kernel
theorem dX9_copy_63 : decode cX9_copy 63 = .ok (.aload_n 3, 1) := by decide +kernel
theorem dX9_copy_64 : decode cX9_copy 64 = .ok (.invokevirtual 288, 3) := by decide +kernel
theorem dX9_copy_67 : decode cX9_copy 67 = .ok (.ireturn, 1) := by decide +kernel
theorem dX9_copy_68 : decode cX9_copy 68 = .ok (.aload_n 0, 1) := by decide +kernel
theorem dX9_copy_69 : decode cX9_copy 69 = .ok (.getfield 20, 3) := by decide +kernel
theorem dX9_copy_72 : decode cX9_copy 72 = .ok (.aload_n 3, 1) := by decide +kernel
theorem dX9_copy_73 : decode cX9_copy 73 = .ok (.invokevirtual 290, 3) := by decide +kernel
theorem dX9_copy_76 : decode cX9_copy 76 = .ok (.ireturn, 1) := by decide +kernel
theorem dX9_has_0 : decode cX9_has 0 = .ok (.aload_n 0, 1) := by decide +kernel
theorem dX9_has_1 : decode cX9_has 1 = .ok (.invokevirtual 95, 3) := by decide +kernel
theorem dX9_has_4 : decode cX9_has 4 = .ok (.aload_n 0, 1) := by decide +kernel
theorem dX9_has_5 : decode cX9_has 5 = .ok (.iload_n 1, 1) := by decide +kernel
theorem dX9_has_6 : decode cX9_has 6 = .ok (.invokevirtual 275, 3) := by decide +kernel
theorem dX9_has_9 : decode cX9_has 9 = .ok (.astore_n 3, 1) := by decide +kernel
theorem dX9_has_10 : decode cX9_has 10 = .ok (.aload_n 0, 1) := by decide +kernel
theorem dX9_has_11 : decode cX9_has 11 = .ok (.aload_n 3, 1) := by decide +kernel
theorem dX9_has_12 : decode cX9_has 12 = .ok (.getfield 279, 3) := by decide +kernel
theorem dX9_has_15 : decode cX9_has 15 = .ok (.invokevirtual 153, 3) := by decide +kernel
theorem dX9_has_18 : decode cX9_has 18 = .ok (.iload_n 2, 1) := by decide +kernel
theorem dX9_has_19 : decode cX9_has 19 = .ok (.invokestatic 188, 3) := by decide +kernel
theorem dX9_has_22 : decode cX9_has 22 = .ok (.istore 4, 2) := by decide +kernel
theorem dX9_has_24 : decode cX9_has 24 = .ok (.aload_n 3, 1) := by decide +kernel
theorem dX9_has_25 : decode cX9_has 25 = .ok (.aload_n 0, 1) := by decide +kernel
theorem dX9_has_26 : decode cX9_has 26 = .ok (.getfield 20, 3) := by decide +kernel
theorem dX9_has_29 : decode cX9_has 29 = .ok (.getfield 114, 3) := by decide +kernel
theorem dX9_has_32 : decode cX9_has 32 = .ok (.iload 4, 2) := by decide +kernel
theorem dX9_has_34 : decode cX9_has 34 = .ok (.invokevirtual 294, 3) := by decide +kernel
theorem dX9_has_37 : decode cX9_has 37 = .ok (.ireturn, 1) := by decide +kernel
theorem dX9_gap_0 : decode cX9_gap 0 = .ok (.aload_n 0, 1) := by decide +kernel
theorem dX9_gap_1 : decode cX9_gap 1 = .ok (.invokevirtual 95, 3) := by decide +kernel
theorem dX9_gap_4 : decode cX9_gap 4 = .ok (.aload_n 0, 1) := by decide +kernel
theorem dX9_gap_5 : decode cX9_gap 5 = .ok (.getfield 20, 3) := by decide +kernel
theorem dX9_gap_8 : decode cX9_gap 8 = .ok (.invokevirtual 298, 3) := by decide +kernel
theorem dX9_gap_11 : decode cX9_gap 11 = .ok (.aload_n 0, 1) := by decide +kernel
theorem dX9_gap_12 : decode cX9_gap 12 = .ok (.getfield 20, 3) := by decide +kernel
theorem dX9_gap_15 : decode cX9_gap 15 = .ok (.invokevirtual 301, 3) := by decide +kernel
theorem dX9_gap_18 : decode cX9_gap 18 = .ok (.iadd, 1) := by decide +kernel
theorem dX9_gap_19 : decode cX9_gap 19 = .ok (.aload_n 0, 1) := by decide +kernel
theorem dX9_gap_20 : decode cX9_gap 20 = .ok (.getfield 20, 3) := by decide +kernel
theorem dX9_gap_23 : decode cX9_gap 23 = .ok (.invokevirtual 304, 3) := by decide +kernel
theorem dX9_gap_26 : decode cX9_gap 26 = .ok (.iadd, 1) := by decide +kernel
theorem dX9_gap_27 : decode cX9_gap 27 = .ok (.aload_n 0, 1) := by decide +kernel
theorem dX9_gap_28 : decode cX9_gap 28 = .ok (.getfield 20, 3) := by decide +kernel
theorem dX9_gap_31 : decode cX9_gap 31 = .ok (.invokevirtual 307, 3) := by decide +kernel
theorem dX9_gap_34 : decode cX9_gap 34 = .ok (.iadd, 1) := by decide +kernel
theorem dX9_gap_35 : decode cX9_gap 35 = .ok (.ireturn, 1) := by decide +kernel
theorem dX9_whyNotSeal_0 : decode cX9_whyNotSeal 0 = .ok (.aload_n 0, 1) := by decide +kernel
theorem dX9_whyNotSeal_1 : decode cX9_whyNotSeal 1 = .ok (.invokevirtual 95, 3) := by decide +kernel
theorem dX9_whyNotSeal_4 : decode cX9_whyNotSeal 4 = .ok (.iload_n 1, 1) := by decide +kernel
theorem dX9_whyNotSeal_5 : decode cX9_whyNotSeal 5 = .ok (.bipush 9, 2) := by decide +kernel
theorem dX9_whyNotSeal_7 : decode cX9_whyNotSeal 7 = .ok (.invokestatic 98, 3) := by decide +kernel
theorem dX9_whyNotSeal_10 : decode cX9_whyNotSeal 10 = .ok (.iload_n 2, 1) := by decide +kernel
theorem dX9_whyNotSeal_11 : decode cX9_whyNotSeal 11 = .ok (.bipush 99, 2) := by decide +kernel
theorem dX9_whyNotSeal_13 : decode cX9_whyNotSeal 13 = .ok (.invokestatic 98, 3) := by decide +kernel
theorem dX9_whyNotSeal_16 : decode cX9_whyNotSeal 16 = .ok (.aload_n 0, 1) := by decide +kernel
theorem dX9_whyNotSeal_17 : decode cX9_whyNotSeal 17 = .ok (.getfield 20, 3) := by decide +kernel
theorem dX9_whyNotSeal_20 : decode cX9_whyNotSeal 20 = .ok (.iload_n 1, 1) := by decide +kernel
theorem dX9_whyNotSeal_21 : decode cX9_whyNotSeal 21 = .ok (.iload_n 2, 1) := by decide +kernel
theorem dX9_whyNotSeal_22 : decode cX9_whyNotSeal 22 = .ok (.invokevirtual 310, 3) := by decide +kernel
theorem dX9_whyNotSeal_25 : decode cX9_whyNotSeal 25 = .ok (.ireturn, 1) := by decide +kernel
theorem dX9_whyNotCopy_0 : decode cX9_whyNotCopy 0 = .ok (.aload_n 0, 1) := by decide +kernel
theorem dX9_whyNotCopy_1 : decode cX9_whyNotCopy 1 = .ok (.invokevirtual 95, 3) := by decide +kernel
theorem dX9_whyNotCopy_4 : decode cX9_whyNotCopy 4 = .ok (.aload_n 0, 1) := by decide +kernel
theorem dX9_whyNotCopy_5 : decode cX9_whyNotCopy 5 = .ok (.iload_n 1, 1) := by decide +kernel
theorem dX9_whyNotCopy_6 : decode cX9_whyNotCopy 6 = .ok (.invokevirtual 153, 3) := by decide +kernel
theorem dX9_whyNotCopy_9 : decode cX9_whyNotCopy 9 = .ok (.pop, 1) := by decide +kernel
theorem dX9_whyNotCopy_10 : decode cX9_whyNotCopy 10 = .ok (.iload_n 2, 1) := by decide +kernel
theorem dX9_whyNotCopy_11 : decode cX9_whyNotCopy 11 = .ok (.iconst 2, 1) := by decide +kernel
theorem dX9_whyNotCopy_12 : decode cX9_whyNotCopy 12 = .ok (.invokestatic 98, 3) := by decide +kernel
theorem dX9_whyNotCopy_15 : decode cX9_whyNotCopy 15 = .ok (.aload_n 0, 1) := by decide +kernel
theorem dX9_whyNotCopy_16 : decode cX9_whyNotCopy 16 = .ok (.getfield 20, 3) := by decide +kernel
theorem dX9_whyNotCopy_19 : decode cX9_whyNotCopy 19 = .ok (.iload_n 1, 1) := by decide +kernel
theorem dX9_whyNotCopy_20 : decode cX9_whyNotCopy 20 = .ok (.iload_n 2, 1) := by decide +kernel
theorem dX9_whyNotCopy_21 : decode cX9_whyNotCopy 21 = .ok (.invokevirtual 313, 3) := by decide +kernel
theorem dX9_whyNotCopy_24 : decode cX9_whyNotCopy 24 = .ok (.ireturn, 1) := by decide +kernel
theorem dX9_whyNotStrike_0 : decode cX9_whyNotStrike 0 = .ok (.aload_n 0, 1) := by decide +kernel
theorem dX9_whyNotStrike_1 : decode cX9_whyNotStrike 1 = .ok (.invokevirtual 95, 3) := by decide +kernel
theorem dX9_whyNotStrike_4 : decode cX9_whyNotStrike 4 = .ok (.aload_n 0, 1) := by decide +kernel
theorem dX9_whyNotStrike_5 : decode cX9_whyNotStrike 5 = .ok (.getfield 20, 3) := by decide +kernel
theorem dX9_whyNotStrike_8 : decode cX9_whyNotStrike 8 = .ok (.iload_n 1, 1) := by decide +kernel
theorem dX9_whyNotStrike_9 : decode cX9_whyNotStrike 9 = .ok (.invokevirtual 316, 3) := by decide +kernel
theorem dX9_whyNotStrike_12 : decode cX9_whyNotStrike 12 = .ok (.ireturn, 1) := by decide +kernel
theorem dX9_unknownIf_0 : decode cX9_unknownIf 0 = .ok (.aload_n 0, 1) := by decide +kernel
theorem dX9_unknownIf_1 : decode cX9_unknownIf 1 = .ok (.invokevirtual 95, 3) := by decide +kernel
theorem dX9_unknownIf_4 : decode cX9_unknownIf 4 = .ok (.aload_n 0, 1) := by decide +kernel
theorem dX9_unknownIf_5 : decode cX9_unknownIf 5 = .ok (.iload_n 1, 1) := by decide +kernel
theorem dX9_unknownIf_6 : decode cX9_unknownIf 6 = .ok (.invokevirtual 254, 3) := by decide +kernel
theorem dX9_unknownIf_9 : decode cX9_unknownIf 9 = .ok (.aload_n 0, 1) := by decide +kernel
theorem dX9_unknownIf_10 : decode cX9_unknownIf 10 = .ok (.getfield 20, 3) := by decide +kernel
theorem dX9_unknownIf_13 : decode cX9_unknownIf 13 = .ok (.iload_n 1, 1) := by decide +kernel
theorem dX9_unknownIf_14 : decode cX9_unknownIf 14 = .ok (.invokevirtual 319, 3) := by decide +kernel
theorem dX9_unknownIf_17 : decode cX9_unknownIf 17 = .ok (.ireturn, 1) := by decide +kernel
theorem dX9_shakenOut_0 : decode cX9_shakenOut 0 = .ok (.aload_n 0, 1) := by decide +kernel
theorem dX9_shakenOut_1 : decode cX9_shakenOut 1 = .ok (.invokevirtual 95, 3) := by decide +kernel
theorem dX9_shakenOut_4 : decode cX9_shakenOut 4 = .ok (.aload_n 0, 1) := by decide +kernel
theorem dX9_shakenOut_5 : decode cX9_shakenOut 5 = .ok (.getfield 48, 3) := by decide +kernel
theorem dX9_shakenOut_8 : decode cX9_shakenOut 8 = .ok (.aload_n 0, 1) := by decide +kernel
theorem dX9_shakenOut_9 : decode cX9_shakenOut 9 = .ok (.getfield 20, 3) := by decide +kernel
theorem dX9_shakenOut_12 : decode cX9_shakenOut 12 = .ok (.getfield 108, 3) := by decide +kernel
theorem dX9_shakenOut_15 : decode cX9_shakenOut 15 = .ok (.invokevirtual 322, 3) := by decide +kernel
theorem dX9_shakenOut_18 : decode cX9_shakenOut 18 = .ok (.iconst 0, 1) := by decide +kernel
theorem dX9_shakenOut_19 : decode cX9_shakenOut 19 = .ok (.istore_n 1, 1) := by decide +kernel
theorem dX9_shakenOut_20 : decode cX9_shakenOut 20 = .ok (.iload_n 1, 1) := by decide +kernel
theorem dX9_shakenOut_21 : decode cX9_shakenOut 21 = .ok (.bipush 12, 2) := by decide +kernel
theorem dX9_shakenOut_23 : decode cX9_shakenOut 23 = .ok (.if_icmp .ge 19, 3) := by decide +kernel
theorem dX9_shakenOut_26 : decode cX9_shakenOut 26 = .ok (.aload_n 0, 1) := by decide +kernel
theorem dX9_shakenOut_27 : decode cX9_shakenOut 27 = .ok (.getfield 48, 3) := by decide +kernel
theorem dX9_shakenOut_30 : decode cX9_shakenOut 30 = .ok (.invokevirtual 326, 3) := by decide +kernel
theorem dX9_shakenOut_33 : decode cX9_shakenOut 33 = .ok (.ifCond .le 9, 3) := by decide +kernel
theorem dX9_shakenOut_36 : decode cX9_shakenOut 36 = .ok (.iinc 1 1, 3) := by decide +kernel
theorem dX9_shakenOut_39 : decode cX9_shakenOut 39 = .ok (.goto (-19), 3) := by decide +kernel
theorem dX9_shakenOut_42 : decode cX9_shakenOut 42 = .ok (.iload_n 1, 1) := by decide +kernel
theorem dX9_shakenOut_43 : decode cX9_shakenOut 43 = .ok (.ireturn, 1) := by decide +kernel
theorem dX9_copyWords_0 : decode cX9_copyWords 0 = .ok (.aload_n 0, 1) := by decide +kernel
theorem dX9_copyWords_1 : decode cX9_copyWords 1 = .ok (.invokevirtual 95, 3) := by decide +kernel
theorem dX9_copyWords_4 : decode cX9_copyWords 4 = .ok (.aload_n 0, 1) := by decide +kernel
theorem dX9_copyWords_5 : decode cX9_copyWords 5 = .ok (.iload_n 1, 1) := by decide +kernel
theorem dX9_copyWords_6 : decode cX9_copyWords 6 = .ok (.invokevirtual 153, 3) := by decide +kernel
theorem dX9_copyWords_9 : decode cX9_copyWords 9 = .ok (.astore_n 3, 1) := by decide +kernel
theorem dX9_copyWords_10 : decode cX9_copyWords 10 = .ok (.iload_n 2, 1) := by decide +kernel
theorem dX9_copyWords_11 : decode cX9_copyWords 11 = .ok (.iconst 2, 1) := by decide +kernel
theorem dX9_copyWords_12 : decode cX9_copyWords 12 = .ok (.invokestatic 98, 3) := by decide +kernel
theorem dX9_copyWords_15 : decode cX9_copyWords 15 = .ok (.aload_n 0, 1) := by decide +kernel
theorem dX9_copyWords_16 : decode cX9_copyWords 16 = .ok (.getfield 20, 3) := by decide +kernel
theorem dX9_copyWords_19 : decode cX9_copyWords 19 = .ok (.getfield 332, 3) := by decide +kernel
theorem dX9_copyWords_22 : decode cX9_copyWords 22 = .ok (.aload_n 0, 1) := by decide +kernel
theorem dX9_copyWords_23 : decode cX9_copyWords 23 = .ok (.getfield 20, 3) := by decide +kernel
theorem dX9_copyWords_26 : decode cX9_copyWords 26 = .ok (.getfield 114, 3) := by decide +kernel
theorem dX9_copyWords_29 : decode cX9_copyWords 29 = .ok (.aload_n 3, 1) := by decide +kernel
theorem dX9_copyWords_30 : decode cX9_copyWords 30 = .ok (.iload_n 2, 1) := by decide +kernel
theorem dX9_copyWords_31 : decode cX9_copyWords 31 = .ok (.invokevirtual 336, 3) := by decide +kernel
theorem dX9_copyWords_34 : decode cX9_copyWords 34 = .ok (.aload_n 0, 1) := by decide +kernel
theorem dX9_copyWords_35 : decode cX9_copyWords 35 = .ok (.getfield 20, 3) := by decide +kernel
theorem dX9_copyWords_38 : decode cX9_copyWords 38 = .ok (.getfield 332, 3) := by decide +kernel
theorem dX9_copyWords_41 : decode cX9_copyWords 41 = .ok (.getfield 287, 3) := by decide +kernel
theorem dX9_copyWords_44 : decode cX9_copyWords 44 = .ok (.ireturn, 1) := by decide +kernel
theorem dX9_standingIf_0 : decode cX9_standingIf 0 = .ok (.aload_n 0, 1) := by decide +kernel
theorem dX9_standingIf_1 : decode cX9_standingIf 1 = .ok (.invokevirtual 95, 3) := by decide +kernel
theorem dX9_standingIf_4 : decode cX9_standingIf 4 = .ok (.aload_n 0, 1) := by decide +kernel
theorem dX9_standingIf_5 : decode cX9_standingIf 5 = .ok (.getfield 20, 3) := by decide +kernel
theorem dX9_standingIf_8 : decode cX9_standingIf 8 = .ok (.iload_n 1, 1) := by decide +kernel
theorem dX9_standingIf_9 : decode cX9_standingIf 9 = .ok (.invokevirtual 316, 3) := by decide +kernel
theorem dX9_standingIf_12 : decode cX9_standingIf 12 = .ok (.istore_n 3, 1) := by decide +kernel
theorem dX9_standingIf_13 : decode cX9_standingIf 13 = .ok (.iload_n 3, 1) := by decide +kernel
theorem dX9_standingIf_14 : decode cX9_standingIf 14 = .ok (.iconst 1, 1) := by decide +kernel
theorem dX9_standingIf_15 : decode cX9_standingIf 15 = .ok (.if_icmp .eq 8, 3) := by decide +kernel
theorem dX9_standingIf_18 : decode cX9_standingIf 18 = .ok (.iload_n 3, 1) := by decide +kernel
theorem dX9_standingIf_19 : decode cX9_standingIf 19 = .ok (.iconst 2, 1) := by decide +kernel
theorem dX9_standingIf_20 : decode cX9_standingIf 20 = .ok (.if_icmp .ne 14, 3) := by decide +kernel
theorem dX9_standingIf_23 : decode cX9_standingIf 23 = .ok (.new 78, 3) := by decide +kernel
theorem dX9_standingIf_26 : decode cX9_standingIf 26 = .ok (.dup, 1) := by decide +kernel
theorem dX9_standingIf_27 : decode cX9_standingIf 27 = .ok (.ldc_w 343, 3) := by decide +kernel
theorem dX9_standingIf_30 : decode cX9_standingIf 30 = .ok (.invokespecial 82, 3) := by decide +kernel
theorem dX9_standingIf_33 : decode cX9_standingIf 33 = .ok (.athrow, 1) := by decide +kernel
theorem dX9_standingIf_34 : decode cX9_standingIf 34 = .ok (.iload_n 2, 1) := by decide +kernel
theorem dX9_standingIf_35 : decode cX9_standingIf 35 = .ok (.ifCond .ne 28, 3) := by decide +kernel
theorem dX9_standingIf_38 : decode cX9_standingIf 38 = .ok (.iload_n 3, 1) := by decide +kernel
theorem dX9_standingIf_39 : decode cX9_standingIf 39 = .ok (.iconst 3, 1) := by decide +kernel
theorem dX9_standingIf_40 : decode cX9_standingIf 40 = .ok (.if_icmp .ne 13, 3) := by decide +kernel
theorem dX9_standingIf_43 : decode cX9_standingIf 43 = .ok (.aload_n 0, 1) := by decide +kernel
theorem dX9_standingIf_44 : decode cX9_standingIf 44 = .ok (.getfield 20, 3) := by decide +kernel
theorem dX9_standingIf_47 : decode cX9_standingIf 47 = .ok (.invokevirtual 345, 3) := by decide +kernel
theorem dX9_standingIf_50 : decode cX9_standingIf 50 = .ok (.goto 12, 3) := by decide +kernel
theorem dX9_standingIf_53 : decode cX9_standingIf 53 = .ok (.aload_n 0, 1) := by decide +kernel
theorem dX9_standingIf_54 : decode cX9_standingIf 54 = .ok (.getfield 20, 3) := by decide +kernel
theorem dX9_standingIf_57 : decode cX9_standingIf 57 = .ok (.invokevirtual 345, 3) := by decide +kernel
theorem dX9_standingIf_60 : decode cX9_standingIf 60 = .ok (.iconst 1, 1) := by decide +kernel
theorem dX9_standingIf_61 : decode cX9_standingIf 61 = .ok (.isub, 1) := by decide +kernel
theorem dX9_standingIf_62 : decode cX9_standingIf 62 = .ok (.ireturn, 1) := by decide +kernel
theorem dX9_standingIf_63 : decode cX9_standingIf 63 = .ok (.aload_n 0, 1) := by decide +kernel
theorem dX9_standingIf_64 : decode cX9_standingIf 64 = .ok (.getfield 20, 3) := by decide +kernel
theorem dX9_standingIf_67 : decode cX9_standingIf 67 = .ok (.iload_n 1, 1) := by decide +kernel
theorem dX9_standingIf_68 : decode cX9_standingIf 68 = .ok (.invokevirtual 348, 3) := by decide +kernel
theorem dX9_standingIf_71 : decode cX9_standingIf 71 = .ok (.ifCond .ne 14, 3) := by decide +kernel
theorem dX9_standingIf_74 : decode cX9_standingIf 74 = .ok (.new 78, 3) := by decide +kernel
theorem dX9_standingIf_77 : decode cX9_standingIf 77 = .ok (.dup, 1) := by decide +kernel
theorem dX9_standingIf_78 : decode cX9_standingIf 78 = .ok (.ldc_w 351, 3) := by decide +kernel
theorem dX9_standingIf_81 : decode cX9_standingIf 81 = .ok (.invokespecial 82, 3) := by decide +kernel
theorem dX9_standingIf_84 : decode cX9_standingIf 84 = .ok (.athrow, 1) := by decide +kernel
theorem dX9_standingIf_85 : decode cX9_standingIf 85 = .ok (.aload_n 0, 1) := by decide +kernel
theorem dX9_standingIf_86 : decode cX9_standingIf 86 = .ok (.getfield 20, 3) := by decide +kernel
theorem dX9_standingIf_89 : decode cX9_standingIf 89 = .ok (.invokevirtual 345, 3) := by decide +kernel
theorem dX9_standingIf_92 : decode cX9_standingIf 92 = .ok (.aload_n 0, 1) := by decide +kernel
theorem dX9_standingIf_93 : decode cX9_standingIf 93 = .ok (.getfield 20, 3) := by decide +kernel
theorem dX9_standingIf_96 : decode cX9_standingIf 96 = .ok (.getfield 114, 3) := by decide +kernel
theorem dX9_standingIf_99 : decode cX9_standingIf 99 = .ok (.aload_n 0, 1) := by decide +kernel
theorem dX9_standingIf_100 : decode cX9_standingIf 100 = .ok (.getfield 20, 3) := by decide +kernel
theorem dX9_standingIf_103 : decode cX9_standingIf 103 = .ok (.getfield 228, 3) := by decide +kernel
theorem dX9_standingIf_106 : decode cX9_standingIf 106 = .ok (.getfield 243, 3) := by decide +kernel
theorem dX9_standingIf_109 : decode cX9_standingIf 109 = .ok (.aload_n 0, 1) := by decide +kernel
theorem dX9_standingIf_110 : decode cX9_standingIf 110 = .ok (.getfield 20, 3) := by decide +kernel
theorem dX9_standingIf_113 : decode cX9_standingIf 113 = .ok (.getfield 228, 3) := by decide +kernel
theorem dX9_standingIf_116 : decode cX9_standingIf 116 = .ok (.getfield 244, 3) := by decide +kernel
theorem dX9_standingIf_119 : decode cX9_standingIf 119 = .ok (.invokevirtual 245, 3) := by decide +kernel
theorem dX9_standingIf_122 : decode cX9_standingIf 122 = .ok (.isub, 1) := by decide +kernel
theorem dX9_standingIf_123 : decode cX9_standingIf 123 = .ok (.ireturn, 1) := by decide +kernel
theorem dX9_rowAt_0 : decode cX9_rowAt 0 = .ok (.aload_n 0, 1) := by decide +kernel
theorem dX9_rowAt_1 : decode cX9_rowAt 1 = .ok (.iload_n 1, 1) := by decide +kernel
theorem dX9_rowAt_2 : decode cX9_rowAt 2 = .ok (.aaload, 1) := by decide +kernel
theorem dX9_rowAt_3 : decode cX9_rowAt 3 = .ok (.ifnonnull 13, 3) := by decide +kernel
theorem dX9_rowAt_6 : decode cX9_rowAt 6 = .ok (.aload_n 0, 1) := by decide +kernel
theorem dX9_rowAt_7 : decode cX9_rowAt 7 = .ok (.iload_n 1, 1) := by decide +kernel
theorem dX9_rowAt_8 : decode cX9_rowAt 8 = .ok (.new 17, 3) := by decide +kernel
theorem dX9_rowAt_11 : decode cX9_rowAt 11 = .ok (.dup, 1) := by decide +kernel
theorem dX9_rowAt_12 : decode cX9_rowAt 12 = .ok (.invokespecial 19, 3) := by decide +kernel
theorem dX9_rowAt_15 : decode cX9_rowAt 15 = .ok (.aastore, 1) := by decide +kernel
theorem dX9_rowAt_16 : decode cX9_rowAt 16 = .ok (.aload_n 0, 1) := by decide +kernel
theorem dX9_rowAt_17 : decode cX9_rowAt 17 = .ok (.iload_n 1, 1) := by decide +kernel
theorem dX9_rowAt_18 : decode cX9_rowAt 18 = .ok (.aaload, 1) := by decide +kernel
theorem dX9_rowAt_19 : decode cX9_rowAt 19 = .ok (.areturn, 1) := by decide +kernel
theorem dX9_remember_0 : decode cX9_remember 0 = .ok (.aload_n 0, 1) := by decide +kernel
theorem dX9_remember_1 : decode cX9_remember 1 = .ok (.getfield 491, 3) := by decide +kernel
theorem dX9_remember_4 : decode cX9_remember 4 = .ok (.bipush 8, 2) := by decide +kernel
theorem dX9_remember_6 : decode cX9_remember 6 = .ok (.if_icmp .ne 26, 3) := by decide +kernel
theorem dX9_remember_9 : decode cX9_remember 9 = .ok (.aload_n 0, 1) := by decide +kernel
theorem dX9_remember_10 : decode cX9_remember 10 = .ok (.aload_n 0, 1) := by decide +kernel
theorem dX9_remember_11 : decode cX9_remember 11 = .ok (.getfield 499, 3) := by decide +kernel
theorem dX9_remember_14 : decode cX9_remember 14 = .ok (.iconst 1, 1) := by decide +kernel
theorem dX9_remember_15 : decode cX9_remember 15 = .ok (.iadd, 1) := by decide +kernel
theorem dX9_remember_16 : decode cX9_remember 16 = .ok (.bipush 8, 2) := by decide +kernel
theorem dX9_remember_18 : decode cX9_remember 18 = .ok (.irem, 1) := by decide +kernel
theorem dX9_remember_19 : decode cX9_remember 19 = .ok (.putfield 499, 3) := by decide +kernel
theorem dX9_remember_22 : decode cX9_remember 22 = .ok (.aload_n 0, 1) := by decide +kernel
theorem dX9_remember_23 : decode cX9_remember 23 = .ok (.dup, 1) := by decide +kernel
theorem dX9_remember_24 : decode cX9_remember 24 = .ok (.getfield 491, 3) := by decide +kernel
theorem dX9_remember_27 : decode cX9_remember 27 = .ok (.iconst 1, 1) := by decide +kernel
theorem dX9_remember_28 : decode cX9_remember 28 = .ok (.isub, 1) := by decide +kernel
theorem dX9_remember_29 : decode cX9_remember 29 = .ok (.putfield 491, 3) := by decide +kernel
theorem dX9_remember_32 : decode cX9_remember 32 = .ok (.aload_n 0, 1) := by decide +kernel
theorem dX9_remember_33 : decode cX9_remember 33 = .ok (.getfield 34, 3) := by decide +kernel
theorem dX9_remember_36 : decode cX9_remember 36 = .ok (.aload_n 0, 1) := by decide +kernel
theorem dX9_remember_37 : decode cX9_remember 37 = .ok (.getfield 499, 3) := by decide +kernel
theorem dX9_remember_40 : decode cX9_remember 40 = .ok (.aload_n 0, 1) := by decide +kernel
theorem dX9_remember_41 : decode cX9_remember 41 = .ok (.getfield 491, 3) := by decide +kernel
theorem dX9_remember_44 : decode cX9_remember 44 = .ok (.iadd, 1) := by decide +kernel
theorem dX9_remember_45 : decode cX9_remember 45 = .ok (.bipush 8, 2) := by decide +kernel
theorem dX9_remember_47 : decode cX9_remember 47 = .ok (.irem, 1) := by decide +kernel
theorem dX9_remember_48 : decode cX9_remember 48 = .ok (.invokestatic 502, 3) := by decide +kernel
theorem dX9_remember_51 : decode cX9_remember 51 = .ok (.aload_n 0, 1) := by decide +kernel
theorem dX9_remember_52 : decode cX9_remember 52 = .ok (.getfield 20, 3) := by decide +kernel
theorem dX9_remember_55 : decode cX9_remember 55 = .ok (.invokevirtual 509, 3) := by decide +kernel
theorem dX9_remember_58 : decode cX9_remember 58 = .ok (.aload_n 0, 1) := by decide +kernel
theorem dX9_remember_59 : decode cX9_remember 59 = .ok (.dup, 1) := by decide +kernel
theorem dX9_remember_60 : decode cX9_remember 60 = .ok (.getfield 491, 3) := by decide +kernel
theorem dX9_remember_63 : decode cX9_remember 63 = .ok (.iconst 1, 1) := by decide +kernel
theorem dX9_remember_64 : decode cX9_remember 64 = .ok (.iadd, 1) := by decide +kernel
theorem dX9_remember_65 : decode cX9_remember 65 = .ok (.putfield 491, 3) := by decide +kernel
theorem dX9_remember_68 : decode cX9_remember 68 = .ok (.return_, 1) := by decide +kernel
theorem dX9_strike_0 : decode cX9_strike 0 = .ok (.aload_n 0, 1) := by decide +kernel
theorem dX9_strike_1 : decode cX9_strike 1 = .ok (.invokevirtual 95, 3) := by decide +kernel
theorem dX9_strike_4 : decode cX9_strike 4 = .ok (.aload_n 0, 1) := by decide +kernel
theorem dX9_strike_5 : decode cX9_strike 5 = .ok (.getfield 20, 3) := by decide +kernel
theorem dX9_strike_8 : decode cX9_strike 8 = .ok (.iload_n 1, 1) := by decide +kernel
theorem dX9_strike_9 : decode cX9_strike 9 = .ok (.invokevirtual 316, 3) := by decide +kernel
theorem dX9_strike_12 : decode cX9_strike 12 = .ok (.ifCond .eq 14, 3) := by decide +kernel
theorem dX9_strike_15 : decode cX9_strike 15 = .ok (.new 78, 3) := by decide +kernel
theorem dX9_strike_18 : decode cX9_strike 18 = .ok (.dup, 1) := by decide +kernel
theorem dX9_strike_19 : decode cX9_strike 19 = .ok (.ldc_w 439, 3) := by decide +kernel
theorem dX9_strike_22 : decode cX9_strike 22 = .ok (.invokespecial 82, 3) := by decide +kernel
theorem dX9_strike_25 : decode cX9_strike 25 = .ok (.athrow, 1) := by decide +kernel
theorem dX9_strike_26 : decode cX9_strike 26 = .ok (.aload_n 0, 1) := by decide +kernel
theorem dX9_strike_27 : decode cX9_strike 27 = .ok (.invokevirtual 430, 3) := by decide +kernel
theorem dX9_strike_30 : decode cX9_strike 30 = .ok (.aload_n 0, 1) := by decide +kernel
theorem dX9_strike_31 : decode cX9_strike 31 = .ok (.getfield 20, 3) := by decide +kernel
theorem dX9_strike_34 : decode cX9_strike 34 = .ok (.iload_n 1, 1) := by decide +kernel
theorem dX9_strike_35 : decode cX9_strike 35 = .ok (.invokevirtual 441, 3) := by decide +kernel
theorem dX9_strike_38 : decode cX9_strike 38 = .ok (.aload_n 0, 1) := by decide +kernel
theorem dX9_strike_39 : decode cX9_strike 39 = .ok (.getfield 20, 3) := by decide +kernel
theorem dX9_strike_42 : decode cX9_strike 42 = .ok (.invokevirtual 345, 3) := by decide +kernel
theorem dX9_strike_45 : decode cX9_strike 45 = .ok (.ireturn, 1) := by decide +kernel
theorem dX9_strikeClause_0 : decode cX9_strikeClause 0 = .ok (.aload_n 0, 1) := by decide +kernel
theorem dX9_strikeClause_1 : decode cX9_strikeClause 1 = .ok (.invokevirtual 95, 3) := by decide +kernel
theorem dX9_strikeClause_4 : decode cX9_strikeClause 4 = .ok (.aload_n 0, 1) := by decide +kernel
theorem dX9_strikeClause_5 : decode cX9_strikeClause 5 = .ok (.getfield 20, 3) := by decide +kernel
theorem dX9_strikeClause_8 : decode cX9_strikeClause 8 = .ok (.iload_n 1, 1) := by decide +kernel
theorem dX9_strikeClause_9 : decode cX9_strikeClause 9 = .ok (.invokevirtual 348, 3) := by decide +kernel
theorem dX9_strikeClause_12 : decode cX9_strikeClause 12 = .ok (.ifCond .ne 14, 3) := by decide +kernel
theorem dX9_strikeClause_15 : decode cX9_strikeClause 15 = .ok (.new 78, 3) := by decide +kernel
theorem dX9_strikeClause_18 : decode cX9_strikeClause 18 = .ok (.dup, 1) := by decide +kernel
theorem dX9_strikeClause_19 : decode cX9_strikeClause 19 = .ok (.ldc_w 444, 3) := by decide +kernel
theorem dX9_strikeClause_22 : decode cX9_strikeClause 22 = .ok (.invokespecial 82, 3) := by decide +kernel
theorem dX9_strikeClause_25 : decode cX9_strikeClause 25 = .ok (.athrow, 1) := by decide +kernel
theorem dX9_strikeClause_26 : decode cX9_strikeClause 26 = .ok (.aload_n 0, 1) := by decide +kernel
theorem dX9_strikeClause_27 : decode cX9_strikeClause 27 = .ok (.invokevirtual 430, 3) := by decide +kernel
theorem dX9_strikeClause_30 : decode cX9_strikeClause 30 = .ok (.aload_n 0, 1) := by decide +kernel
theorem dX9_strikeClause_31 : decode cX9_strikeClause 31 = .ok (.getfield 20, 3) := by decide +kernel
theorem dX9_strikeClause_34 : decode cX9_strikeClause 34 = .ok (.iload_n 1, 1) := by decide +kernel
theorem dX9_strikeClause_35 : decode cX9_strikeClause 35 = .ok (.invokevirtual 446, 3) := by decide +kernel
theorem dX9_strikeClause_38 : decode cX9_strikeClause 38 = .ok (.ireturn, 1) := by decide +kernel
theorem dX9_inputWord_0 : decode cX9_inputWord 0 = .ok (.iload_n 1, 1) := by decide +kernel
theorem dX9_inputWord_1 : decode cX9_inputWord 1 = .ok (.bipush 8, 2) := by decide +kernel
theorem dX9_inputWord_3 : decode cX9_inputWord 3 = .ok (.if_icmp .le 5, 3) := by decide +kernel
theorem dX9_inputWord_6 : decode cX9_inputWord 6 = .ok (.lconst 0, 1) := by decide +kernel
theorem dX9_inputWord_7 : decode cX9_inputWord 7 = .ok (.lreturn, 1) := by decide +kernel
theorem dX9_inputWord_8 : decode cX9_inputWord 8 = .ok (.lconst 0, 1) := by decide +kernel
theorem dX9_inputWord_9 : decode cX9_inputWord 9 = .ok (.lstore_n 2, 1) := by decide +kernel
theorem dX9_inputWord_10 : decode cX9_inputWord 10 = .ok (.iconst 0, 1) := by decide +kernel
theorem dX9_inputWord_11 : decode cX9_inputWord 11 = .ok (.istore 4, 2) := by decide +kernel
theorem dX9_inputWord_13 : decode cX9_inputWord 13 = .ok (.iload 4, 2) := by decide +kernel
theorem dX9_inputWord_15 : decode cX9_inputWord 15 = .ok (.iload_n 1, 1) := by decide +kernel
theorem dX9_inputWord_16 : decode cX9_inputWord 16 = .ok (.if_icmp .ge 36, 3) := by decide +kernel
theorem dX9_inputWord_19 : decode cX9_inputWord 19 = .ok (.aload_n 0, 1) := by decide +kernel
theorem dX9_inputWord_20 : decode cX9_inputWord 20 = .ok (.getfield 9, 3) := by decide +kernel
theorem dX9_inputWord_23 : decode cX9_inputWord 23 = .ok (.iload 4, 2) := by decide +kernel
theorem dX9_inputWord_25 : decode cX9_inputWord 25 = .ok (.baload, 1) := by decide +kernel
theorem dX9_inputWord_26 : decode cX9_inputWord 26 = .ok (.invokestatic 551, 3) := by decide +kernel
theorem dX9_inputWord_29 : decode cX9_inputWord 29 = .ok (.ifCond .ne 5, 3) := by decide +kernel
theorem dX9_inputWord_32 : decode cX9_inputWord 32 = .ok (.lconst 0, 1) := by decide +kernel
theorem dX9_inputWord_33 : decode cX9_inputWord 33 = .ok (.lreturn, 1) := by decide +kernel
theorem dX9_inputWord_34 : decode cX9_inputWord 34 = .ok (.lload_n 2, 1) := by decide +kernel
theorem dX9_inputWord_35 : decode cX9_inputWord 35 = .ok (.aload_n 0, 1) := by decide +kernel
theorem dX9_inputWord_36 : decode cX9_inputWord 36 = .ok (.getfield 9, 3) := by decide +kernel
theorem dX9_inputWord_39 : decode cX9_inputWord 39 = .ok (.iload 4, 2) := by decide +kernel
theorem dX9_inputWord_41 : decode cX9_inputWord 41 = .ok (.baload, 1) := by decide +kernel
theorem dX9_inputWord_42 : decode cX9_inputWord 42 = .ok (.invokestatic 547, 3) := by decide +kernel
theorem dX9_inputWord_45 : decode cX9_inputWord 45 = .ok (.lstore_n 2, 1) := by decide +kernel
theorem dX9_inputWord_46 : decode cX9_inputWord 46 = .ok (.iinc 4 1, 3) := by decide +kernel
theorem dX9_inputWord_49 : decode cX9_inputWord 49 = .ok (.goto (-36), 3) := by decide +kernel
theorem dX9_inputWord_52 : decode cX9_inputWord 52 = .ok (.lload_n 2, 1) := by decide +kernel
theorem dX9_inputWord_53 : decode cX9_inputWord 53 = .ok (.lreturn, 1) := by decide +kernel
set_option maxRecDepth 100000 in
set_option maxHeartbeats 4000000 in
theorem cX9_loadc {l : Launch} {v0 : Option Nat} {v1 : Int32} {σ : HpT} {o : Except Nat (Int32)} {σ' : HpT} {a b : Nat} (h : fX9_load v0 v1 σ = some (o, σ', a, b)) : IsK σ v0 9 ∧ Ct l yX9_load cX9_load 5 (some .int) 10 214 [va_rf v0, .int v1] σ (oI o) σ' a b := by
  unfold fX9_load at h
  replace h := bnP_s h
  obtain ⟨u, hk, h⟩ := h
  replace hk := isK_s hk
  refine ⟨hk, ?_⟩
  refine ct_start mi_X9_load.1 rfl (al_le (al_1 (rf_cat _) (al_1 rfl al_n)) (Nat.le_of_ble_eq_true rfl)) (ag_1 (rf_cat _) (ag_1 rfl ag_n)) (fun Δ Γ B hE hnm => ?_)
  have hka : 0 + a = a := Nat.zero_add a
  have hkb : 0 + b = b := Nat.zero_add b
  have hla : a ≤ a := Nat.le_refl a
  have hlb : b ≤ b := Nat.le_refl b
  refine g_aload_n B 0 dX9_load_0 rfl rfl ?_
  refine g_iload_n B 1 dX9_load_1 rfl rfl ?_
  replace h := bnXA_s h
  rcases h with ⟨e9, h2, e8, e7, e6, e5⟩ | ⟨x1, h2, h⟩
  · subst e8; subst e7; subst e6; subst e5
    exact g_callVx (st := []) B (cX9_requireBytesc (o := .error e9) h2) (Nat.le_of_ble_eq_true rfl) rfl rfl mi_X9_requireBytes lk_RX9_66 ⟨Nat.le_of_ble_eq_true rfl, Nat.le_of_ble_eq_true rfl⟩ rfl rfl (Nat.le_of_ble_eq_true rfl) dX9_load_2 (Nat.le_trans (Nat.le_of_eq hka) hla) (Nat.le_trans (Nat.le_of_eq hkb) hlb) hE
  · skip
    refine g_callVv0 (st := []) B (cX9_requireBytesc (o := .ok x1) h2) (Nat.le_of_ble_eq_true rfl) rfl rfl mi_X9_requireBytes lk_RX9_66 ⟨Nat.le_of_ble_eq_true rfl, Nat.le_of_ble_eq_true rfl⟩ rfl rfl (Nat.le_of_ble_eq_true rfl) dX9_load_2 (Nat.le_trans (bm hka) hla) (Nat.le_trans (bm hkb) hlb) ?_
    refine g_aload_n B 0 dX9_load_5 rfl rfl ?_
    refine g_iconst (v := 0) B dX9_load_6 (by decide) ?_
    replace h := bnP_s h
    obtain ⟨s5, h4, h⟩ := h
    refine g_putI B fl_RX9_59 (by decide) dX9_load_7 h4 ?_
    refine g_aload_n B 0 dX9_load_10 rfl rfl ?_
    replace h := bnP_s h
    obtain ⟨x6, h7, h⟩ := h
    refine g_getR B fl_RX9_30 (by decide) dX9_load_11 h7 ?_
    refine g_aload_n B 0 dX9_load_14 rfl rfl ?_
    replace h := bnP_s h
    obtain ⟨x8, h9, h⟩ := h
    refine g_getR B fl_RX9_9 (by decide) dX9_load_15 h9 ?_
    refine g_iload_n B 1 dX9_load_18 rfl rfl ?_
    refine g_aload_n B 0 dX9_load_19 rfl rfl ?_
    replace h := bnP_s h
    obtain ⟨x10, h11, h⟩ := h
    refine g_getR B fl_RX9_24 (by decide) dX9_load_20 h11 ?_
    replace h := bnS_s h
    obtain ⟨x12, s14, h13, h⟩ := h
    refine g_callVs0 (st := []) B (cX5_readTextc h13) (Nat.le_of_ble_eq_true rfl) rfl rfl mi_X5_readText lk_RX9_69 ⟨Nat.le_of_ble_eq_true rfl, Nat.le_of_ble_eq_true rfl⟩ rfl rfl (Nat.le_of_ble_eq_true rfl) dX9_load_23 (Nat.le_trans (bm hka) hla) (Nat.le_trans (bm hkb) hlb) ?_
    refine g_istore_n B dX9_load_26 rfl (Nat.le_of_ble_eq_true rfl) (s1_c (f1_k rfl (f1_1 rfl rfl f1_n))) ?_
    refine g_aload_n B 1 dX9_load_27 rfl rfl ?_
    refine g_iload_n B 0 dX9_load_28 rfl rfl ?_
    replace h := bnP_s h
    obtain ⟨j15, h16, h⟩ := h
    have k18 : GW Δ Γ (0) (0) 43 [(0, va_rf v0), (2, .int (bI x12))] [.int j15.2, va_rf j15.1] s14 := by
      replace h := bnP_s h
      obtain ⟨s26, h25, h⟩ := h
      refine g_putI B fl_RX9_76 (by decide) dX9_load_43 h25 ?_
      refine g_aload_n B 0 dX9_load_46 rfl rfl ?_
      refine g_iload_n B 1 dX9_load_47 rfl rfl ?_
      replace h := bnP_s h
      obtain ⟨j27, h28, h⟩ := h
      have k30 : GW Δ Γ (0) (0) 62 [(0, va_rf v0), (2, .int (bI x12))] [.int j27.2, va_rf j27.1] s26 := by
        replace h := bnP_s h
        obtain ⟨s38, h37, h⟩ := h
        refine g_putI B fl_RX9_13 (by decide) dX9_load_62 h37 ?_
        refine g_iload_n B 1 dX9_load_65 rfl rfl ?_
        refine g_if_ne B 79 dX9_load_66 (by decide) (fun hc => ?_) (fun hc => ?_)
        · replace h := ifp (bI1 hc) h
          refine g_aload_n B 0 dX9_load_79 rfl rfl ?_
          replace h := bnP_s h
          obtain ⟨x39, h40, h⟩ := h
          refine g_getR B fl_RX9_20 (by decide) dX9_load_80 h40 ?_
          refine g_astore_n B dX9_load_83 rfl (Nat.le_of_ble_eq_true rfl) (s1_c (f1_k rfl (f1_1 rfl rfl f1_n))) ?_
          refine g_aload_n B 1 dX9_load_84 rfl rfl ?_
          refine g_aload_n B 1 dX9_load_85 rfl rfl ?_
          replace h := bnP_s h
          obtain ⟨x41, h42, h⟩ := h
          refine g_getR B fl_RX9_24 (by decide) dX9_load_86 h42 ?_
          replace h := bnP_s h
          obtain ⟨s45, h44, h⟩ := h
          refine g_putR B fl_RX9_20 (by decide) (Or.inl ⟨_, rfl⟩) dX9_load_89 h44 ?_
          refine g_aload_n B 1 dX9_load_92 rfl rfl ?_
          refine g_aload_n B 0 dX9_load_93 rfl rfl ?_
          replace h := bnP_s h
          obtain ⟨s48, h47, h⟩ := h
          refine g_putR B fl_RX9_24 (by decide) (Or.inl ⟨_, rfl⟩) dX9_load_94 h47 ?_
          refine g_aload_n B 1 dX9_load_97 rfl rfl ?_
          refine g_iconst (v := 1) B dX9_load_98 (by decide) ?_
          replace h := bnP_s h
          obtain ⟨s51, h50, h⟩ := h
          refine g_putZ B fl_RX9_85 (by decide) dX9_load_99 h50 ?_
          refine g_aload_n B 1 dX9_load_102 rfl rfl ?_
          replace h := bnP_s h
          obtain ⟨s54, h53, h⟩ := h
          refine g_callVv0 (st := []) B (cX9_forgetPastc h53) (Nat.le_of_ble_eq_true rfl) rfl rfl mi_X9_forgetPast lk_RX9_89 ⟨Nat.le_of_ble_eq_true rfl, Nat.le_of_ble_eq_true rfl⟩ rfl rfl (Nat.le_of_ble_eq_true rfl) dX9_load_103 (Nat.le_trans (bm hka) hla) (Nat.le_trans (bm hkb) hlb) ?_
          refine g_iconst (v := 0) B dX9_load_106 (by decide) ?_
          refine g_istore B dX9_load_107 (Nat.le_of_ble_eq_true rfl) (s1_c (f1_1 rfl (rf_cat _) (f1_k rfl (f1_k rfl f1_n)))) ?_
          replace h := bnS_s h
          obtain ⟨r56, s70, h57, h⟩ := h
          have kE58 : GW Δ Γ (0) (0) 129 [(0, va_rf v0)] [] s70 := by
            refine g_aload_n B 0 dX9_load_129 rfl rfl ?_
            replace h := bnP_s h
            obtain ⟨x71, h72, h⟩ := h
            refine g_getR B fl_RX9_20 (by decide) dX9_load_130 h72 ?_
            replace h := bnP_s h
            obtain ⟨x73, h74, h⟩ := h
            refine g_getI B fl_RX9_92 (by decide) dX9_load_133 h74 ?_
            obtain ⟨w1, w2, w3, w4⟩ := inA h
            clear h
            subst w1
            subst w2
            subst w3
            subst w4
            exact g_iret B hE (Nat.le_trans (Nat.le_of_eq hka) hla) (Nat.le_trans (Nat.le_of_eq hkb) hlb) dX9_load_136
          clear h
          refine g_sub [2, 0] rfl ?_
          refine lpS_w (I := fun q55 s64 => GW Δ Γ (0) (0) 109 [(0, va_rf v0), (4, .int q55)] [] s64) (r := r56) (σr := s70) ?_ FUEL 0 s54 h57
          intro q55 s64 x62 s9 h hI60 hR61
          unfold fX9_load_l1 at h
          refine g_iload B 1 dX9_load_109 rfl ?_
          refine g_iconst (v := 2) B dX9_load_111 (by decide) ?_
          refine g_icmp_ge B 129 dX9_load_112 (by decide) (fun hc => ?_) (fun hc => ?_)
          · replace h := ifp hc h
            obtain ⟨w1, w2⟩ := inS h
            clear h
            subst w1
            subst w2
            obtain ⟨e8, e7⟩ := hR61 _ rfl
            subst e8
            subst e7
            exact g_sub [0] rfl kE58
          · replace h := ifn hc h
            refine g_aload_n B 0 dX9_load_115 rfl rfl ?_
            replace h := bnP_s h
            obtain ⟨x65, h66, h⟩ := h
            refine g_getR B fl_RX9_41 (by decide) dX9_load_116 h66 ?_
            refine g_iload B 1 dX9_load_119 rfl ?_
            refine g_iconst (v := 0) B dX9_load_121 (by decide) ?_
            replace h := bnP_s h
            obtain ⟨s69, h68, h⟩ := h
            refine g_zast B dX9_load_122 h68 ?_
            refine g_iinc (v := (q55 + 1)) B 1 dX9_load_123 rfl (by first | rfl | (congr 1; decide)) (Nat.le_of_ble_eq_true rfl) (s1_c (f1_k rfl (f1_x f1_n))) ?_
            refine g_goto B 109 dX9_load_126 (by decide) ?_
            obtain ⟨w1, w2⟩ := inS h
            clear h
            subst w1
            subst w2
            exact g_sub [1, 0] rfl (hI60 _ rfl)
        · replace h := ifn (bI0 hc) h
          obtain ⟨w1, w2, w3, w4⟩ := inA h
          clear h
          subst w1
          subst w2
          subst w3
          subst w4
          exact g_throw B tw_RX9_78_82 (j := 16) rfl hE (by decide) (Nat.le_of_ble_eq_true rfl) dX9_load_69 dX9_load_72 dX9_load_73 dX9_load_75 dX9_load_78 (Nat.le_trans (Nat.le_of_eq hka) hla) (Nat.le_trans (Nat.le_of_eq hkb) hlb)
      clear h
      have h := h28
      clear h28
      refine g_if_eq B 55 dX9_load_48 (by decide) (fun hc => ?_) (fun hc => ?_)
      · replace h := ifn (bI0 hc) h
        refine g_aload_n B 0 dX9_load_55 rfl rfl ?_
        replace h := bnP_s h
        obtain ⟨x32, h33, h⟩ := h
        refine g_getR B fl_RX9_30 (by decide) dX9_load_56 h33 ?_
        replace h := bnP_s h
        obtain ⟨x34, h35, h⟩ := h
        refine g_getI B fl_RX9_77 (by decide) dX9_load_59 h35 ?_
        replace h := Option.some.inj h
        subst h
        exact g_sub [0, 1] rfl k30
      · replace h := ifp (bI1 hc) h
        refine g_iconst (v := (-1)) B dX9_load_51 (by decide) ?_
        refine g_goto B 62 dX9_load_52 (by decide) ?_
        replace h := Option.some.inj h
        subst h
        exact g_sub [0, 1] rfl k30
    clear h
    have h := h16
    clear h16
    refine g_if_eq B 36 dX9_load_29 (by decide) (fun hc => ?_) (fun hc => ?_)
    · replace h := ifn (bI0 hc) h
      refine g_aload_n B 1 dX9_load_36 rfl rfl ?_
      replace h := bnP_s h
      obtain ⟨x20, h21, h⟩ := h
      refine g_getR B fl_RX9_30 (by decide) dX9_load_37 h21 ?_
      replace h := bnP_s h
      obtain ⟨x22, h23, h⟩ := h
      refine g_getI B fl_RX9_73 (by decide) dX9_load_40 h23 ?_
      replace h := Option.some.inj h
      subst h
      exact g_sub [1, 0] rfl k18
    · replace h := ifp (bI1 hc) h
      refine g_iconst (v := 0) B dX9_load_32 (by decide) ?_
      refine g_goto B 43 dX9_load_33 (by decide) ?_
      replace h := Option.some.inj h
      subst h
      exact g_sub [1, 0] rfl k18
set_option maxRecDepth 100000 in
set_option maxHeartbeats 4000000 in
theorem cX9_requireBookc {l : Launch} {v0 : Option Nat} {σ : HpT} {o : Except Nat (Unit)} (h : fX9_requireBook v0 σ = some o) : IsK σ v0 9 ∧ Ct l yX9_requireBook cX9_requireBook 1 none 6 90 [va_rf v0] σ (oU o) σ (xc o) (xs o) := by
  unfold fX9_requireBook at h
  replace h := bnP_s h
  obtain ⟨u, hk, h⟩ := h
  replace hk := isK_s hk
  refine ⟨hk, ?_⟩
  refine ct_start mi_X9_requireBook.1 rfl (al_le (al_1 (rf_cat _) al_n) (Nat.le_of_ble_eq_true rfl)) (ag_1 (rf_cat _) ag_n) (fun Δ Γ B hE hnm => ?_)
  refine g_aload_n B 0 dX9_requireBook_0 rfl rfl ?_
  replace h := bnP_s h
  obtain ⟨x1, h2, h⟩ := h
  refine g_getI B fl_RX9_85 (by decide) dX9_requireBook_1 h2 ?_
  refine g_if_ne B 18 dX9_requireBook_4 (by decide) (fun hc => ?_) (fun hc => ?_)
  · replace h := ifn hc h
    replace h := Option.some.inj h
    subst h
    exact g_vret B hE (Nat.zero_le _) (Nat.zero_le _) dX9_requireBook_18
  · replace h := ifp hc h
    replace h := Option.some.inj h
    subst h
    exact g_throwW B tw_RX9_494_498 (j := 17) rfl hE (by decide) (Nat.le_of_ble_eq_true rfl) dX9_requireBook_7 dX9_requireBook_10 dX9_requireBook_11 dX9_requireBook_14 dX9_requireBook_17 (Nat.le_refl 1) (Nat.le_refl 6)
set_option maxRecDepth 100000 in
set_option maxHeartbeats 4000000 in
theorem cX9_requireUpToc {l : Launch} {v0 : Int32} {v1 : Int32} {σ : HpT} {o : Except Nat (Unit)} (h : fX9_requireUpTo v0 v1 σ = some o) : Ct l yX9_requireUpTo cX9_requireUpTo 2 none 6 90 [.int v0, .int v1] σ (oU o) σ (xc o) (xs o) := by
  unfold fX9_requireUpTo at h
  refine ct_start mi_X9_requireUpTo.1 rfl (al_le (al_1 rfl (al_1 rfl al_n)) (Nat.le_of_ble_eq_true rfl)) (ag_1 rfl (ag_1 rfl ag_n)) (fun Δ Γ B hE hnm => ?_)
  refine g_iload_n B 0 dX9_requireUpTo_0 rfl rfl ?_
  refine g_if_lt B 9 dX9_requireUpTo_1 (by decide) (fun hc => ?_) (fun hc => ?_)
  · replace h := ifp hc h
    replace h := Option.some.inj h
    subst h
    exact g_throwW B tw_RX9_78_82 (j := 18) rfl hE (by decide) (Nat.le_of_ble_eq_true rfl) dX9_requireUpTo_9 dX9_requireUpTo_12 dX9_requireUpTo_13 dX9_requireUpTo_16 dX9_requireUpTo_19 (Nat.le_refl 1) (Nat.le_refl 6)
  · replace h := ifn hc h
    refine g_iload_n B 0 dX9_requireUpTo_4 rfl rfl ?_
    refine g_iload_n B 1 dX9_requireUpTo_5 rfl rfl ?_
    refine g_icmp_le B 20 dX9_requireUpTo_6 (by decide) (fun hc => ?_) (fun hc => ?_)
    · replace h := ifp hc h
      replace h := Option.some.inj h
      subst h
      exact g_vret B hE (Nat.zero_le _) (Nat.zero_le _) dX9_requireUpTo_20
    · replace h := ifn hc h
      replace h := Option.some.inj h
      subst h
      exact g_throwW B tw_RX9_78_82 (j := 18) rfl hE (by decide) (Nat.le_of_ble_eq_true rfl) dX9_requireUpTo_9 dX9_requireUpTo_12 dX9_requireUpTo_13 dX9_requireUpTo_16 dX9_requireUpTo_19 (Nat.le_refl 1) (Nat.le_refl 6)
set_option maxRecDepth 100000 in
set_option maxHeartbeats 4000000 in
theorem cX9_countc {l : Launch} {v0 : Option Nat} {v1 : Int32} {σ : HpT} {o : Except Nat (Int32)} (h : fX9_count v0 v1 σ = some o) : IsK σ v0 9 ∧ Ct l yX9_count cX9_count 2 (some .int) 7 111 [va_rf v0, .int v1] σ (oI o) σ (xc o) (xs o) := by
  unfold fX9_count at h
  replace h := bnP_s h
  obtain ⟨u, hk, h⟩ := h
  replace hk := isK_s hk
  refine ⟨hk, ?_⟩
  refine ct_start mi_X9_count.1 rfl (al_le (al_1 (rf_cat _) (al_1 rfl al_n)) (Nat.le_of_ble_eq_true rfl)) (ag_1 (rf_cat _) (ag_1 rfl ag_n)) (fun Δ Γ B hE hnm => ?_)
  refine g_aload_n B 0 dX9_count_0 rfl rfl ?_
  replace h := bnX_s h
  rcases h with ⟨e9, h2, e8⟩ | ⟨x1, h2, h⟩
  · subst e8
    exact g_callVx (st := []) B (cX9_requireBookc (o := .error e9) h2) (Nat.le_of_ble_eq_true rfl) rfl rfl mi_X9_requireBook lk_RX9_95 ⟨Nat.le_of_ble_eq_true rfl, Nat.le_of_ble_eq_true rfl⟩ rfl rfl (Nat.le_of_ble_eq_true rfl) dX9_count_1 (Nat.le_of_eq rfl) (Nat.le_of_eq rfl) hE
  · skip
    refine g_callVv0 (st := []) B (cX9_requireBookc (o := .ok x1) h2) (Nat.le_of_ble_eq_true rfl) rfl rfl mi_X9_requireBook lk_RX9_95 ⟨Nat.le_of_ble_eq_true rfl, Nat.le_of_ble_eq_true rfl⟩ rfl rfl (Nat.le_of_ble_eq_true rfl) dX9_count_1 (Nat.zero_le _) (Nat.zero_le _) ?_
    refine g_iload_n B 1 dX9_count_4 rfl rfl ?_
    refine g_bipush (v := 15) B dX9_count_5 (by decide) ?_
    replace h := bnX_s h
    rcases h with ⟨e9, h4, e8⟩ | ⟨x3, h4, h⟩
    · subst e8
      exact g_callSx (st := []) B (cX9_requireUpToc (o := .error e9) h4) mi_X9_requireUpTo lk_RX9_98 ⟨Nat.le_of_ble_eq_true rfl, Nat.le_of_ble_eq_true rfl⟩ rfl rfl (Nat.le_of_ble_eq_true rfl) dX9_count_7 (Nat.le_of_eq rfl) (Nat.le_of_eq rfl) hE
    · skip
      refine g_callSv0 (st := []) B (cX9_requireUpToc (o := .ok x3) h4) mi_X9_requireUpTo lk_RX9_98 ⟨Nat.le_of_ble_eq_true rfl, Nat.le_of_ble_eq_true rfl⟩ rfl rfl (Nat.le_of_ble_eq_true rfl) dX9_count_7 (Nat.zero_le _) (Nat.zero_le _) ?_
      refine g_iload_n B 1 dX9_count_10 rfl rfl ?_
      by_cases n0 : v1 = 0
      · replace h := ifp n0 h
        rw [n0]
        refine g_tableIn B 84 dX9_count_11 (by decide) (by decide) rfl (by decide) ?_
        refine g_aload_n B 0 dX9_count_84 rfl rfl ?_
        replace h := bnP_s h
        obtain ⟨x15, h16, h⟩ := h
        refine g_getR B fl_RX9_20 (by decide) dX9_count_85 h16 ?_
        replace h := bnP_s h
        obtain ⟨x17, h18, h⟩ := h
        refine g_getI B fl_RX9_102 (by decide) dX9_count_88 h18 ?_
        replace h := Option.some.inj h
        subst h
        exact g_iret B hE (Nat.zero_le _) (Nat.zero_le _) dX9_count_91
      replace h := ifn n0 h
      by_cases n1 : v1 = 1
      · replace h := ifp n1 h
        rw [n1]
        refine g_tableIn B 92 dX9_count_11 (by decide) (by decide) rfl (by decide) ?_
        refine g_aload_n B 0 dX9_count_92 rfl rfl ?_
        replace h := bnP_s h
        obtain ⟨x19, h20, h⟩ := h
        refine g_getR B fl_RX9_20 (by decide) dX9_count_93 h20 ?_
        replace h := bnP_s h
        obtain ⟨x21, h22, h⟩ := h
        refine g_getI B fl_RX9_105 (by decide) dX9_count_96 h22 ?_
        replace h := Option.some.inj h
        subst h
        exact g_iret B hE (Nat.zero_le _) (Nat.zero_le _) dX9_count_99
      replace h := ifn n1 h
      by_cases n2 : v1 = 2
      · replace h := ifp n2 h
        rw [n2]
        refine g_tableIn B 100 dX9_count_11 (by decide) (by decide) rfl (by decide) ?_
        refine g_aload_n B 0 dX9_count_100 rfl rfl ?_
        replace h := bnP_s h
        obtain ⟨x23, h24, h⟩ := h
        refine g_getR B fl_RX9_20 (by decide) dX9_count_101 h24 ?_
        replace h := bnP_s h
        obtain ⟨x25, h26, h⟩ := h
        refine g_getRg B fl_RX9_108 (by decide) dX9_count_104 h26 ?_
        replace h := bnP_s h
        obtain ⟨x27, h28, h⟩ := h
        refine g_getI B fl_RX9_111 (by decide) dX9_count_107 h28 ?_
        replace h := Option.some.inj h
        subst h
        exact g_iret B hE (Nat.zero_le _) (Nat.zero_le _) dX9_count_110
      replace h := ifn n2 h
      by_cases n3 : v1 = 3
      · replace h := ifp n3 h
        rw [n3]
        refine g_tableIn B 111 dX9_count_11 (by decide) (by decide) rfl (by decide) ?_
        refine g_aload_n B 0 dX9_count_111 rfl rfl ?_
        replace h := bnP_s h
        obtain ⟨x29, h30, h⟩ := h
        refine g_getR B fl_RX9_20 (by decide) dX9_count_112 h30 ?_
        replace h := bnP_s h
        obtain ⟨x31, h32, h⟩ := h
        refine g_getI B fl_RX9_92 (by decide) dX9_count_115 h32 ?_
        replace h := Option.some.inj h
        subst h
        exact g_iret B hE (Nat.zero_le _) (Nat.zero_le _) dX9_count_118
      replace h := ifn n3 h
      by_cases n4 : v1 = 4
      · replace h := ifp n4 h
        rw [n4]
        refine g_tableIn B 119 dX9_count_11 (by decide) (by decide) rfl (by decide) ?_
        refine g_aload_n B 0 dX9_count_119 rfl rfl ?_
        replace h := bnP_s h
        obtain ⟨x33, h34, h⟩ := h
        refine g_getR B fl_RX9_20 (by decide) dX9_count_120 h34 ?_
        replace h := bnP_s h
        obtain ⟨x35, h36, h⟩ := h
        refine g_getRg B fl_RX9_114 (by decide) dX9_count_123 h36 ?_
        replace h := bnP_s h
        obtain ⟨x37, h38, h⟩ := h
        refine g_getI B fl_RX9_118 (by decide) dX9_count_126 h38 ?_
        replace h := Option.some.inj h
        subst h
        exact g_iret B hE (Nat.zero_le _) (Nat.zero_le _) dX9_count_129
      replace h := ifn n4 h
      by_cases n5 : v1 = 5
      · replace h := ifp n5 h
        rw [n5]
        refine g_tableIn B 130 dX9_count_11 (by decide) (by decide) rfl (by decide) ?_
        refine g_aload_n B 0 dX9_count_130 rfl rfl ?_
        replace h := bnP_s h
        obtain ⟨x39, h40, h⟩ := h
        refine g_getR B fl_RX9_20 (by decide) dX9_count_131 h40 ?_
        replace h := bnP_s h
        obtain ⟨x41, h42, h⟩ := h
        refine g_getRg B fl_RX9_108 (by decide) dX9_count_134 h42 ?_
        replace h := bnP_s h
        obtain ⟨x43, h44, h⟩ := h
        refine g_getI B fl_RX9_123 (by decide) dX9_count_137 h44 ?_
        replace h := Option.some.inj h
        subst h
        exact g_iret B hE (Nat.zero_le _) (Nat.zero_le _) dX9_count_140
      replace h := ifn n5 h
      by_cases n6 : v1 = 6
      · replace h := ifp n6 h
        rw [n6]
        refine g_tableIn B 141 dX9_count_11 (by decide) (by decide) rfl (by decide) ?_
        refine g_aload_n B 0 dX9_count_141 rfl rfl ?_
        replace h := bnP_s h
        obtain ⟨x45, h46, h⟩ := h
        refine g_getR B fl_RX9_20 (by decide) dX9_count_142 h46 ?_
        replace h := bnP_s h
        obtain ⟨x47, h48, h⟩ := h
        refine g_getRg B fl_RX9_108 (by decide) dX9_count_145 h48 ?_
        refine g_iconst (v := 2) B dX9_count_148 (by decide) ?_
        replace h := bnP_s h
        obtain ⟨x49, h50, h⟩ := h
        refine g_callVs0 (st := []) B (cX4_countOfc h50) (Nat.le_of_ble_eq_true rfl) rfl rfl mi_X4_countOf lk_RX9_124 ⟨Nat.le_of_ble_eq_true rfl, Nat.le_of_ble_eq_true rfl⟩ rfl rfl (Nat.le_of_ble_eq_true rfl) dX9_count_149 (Nat.zero_le _) (Nat.zero_le _) ?_
        replace h := Option.some.inj h
        subst h
        exact g_iret B hE (Nat.zero_le _) (Nat.zero_le _) dX9_count_152
      replace h := ifn n6 h
      by_cases n7 : v1 = 7
      · replace h := ifp n7 h
        rw [n7]
        refine g_tableIn B 153 dX9_count_11 (by decide) (by decide) rfl (by decide) ?_
        refine g_aload_n B 0 dX9_count_153 rfl rfl ?_
        replace h := bnP_s h
        obtain ⟨x51, h52, h⟩ := h
        refine g_getR B fl_RX9_20 (by decide) dX9_count_154 h52 ?_
        replace h := bnP_s h
        obtain ⟨x53, h54, h⟩ := h
        refine g_getRg B fl_RX9_108 (by decide) dX9_count_157 h54 ?_
        refine g_iconst (v := 1) B dX9_count_160 (by decide) ?_
        replace h := bnP_s h
        obtain ⟨x55, h56, h⟩ := h
        refine g_callVs0 (st := []) B (cX4_countOfc h56) (Nat.le_of_ble_eq_true rfl) rfl rfl mi_X4_countOf lk_RX9_124 ⟨Nat.le_of_ble_eq_true rfl, Nat.le_of_ble_eq_true rfl⟩ rfl rfl (Nat.le_of_ble_eq_true rfl) dX9_count_161 (Nat.zero_le _) (Nat.zero_le _) ?_
        replace h := Option.some.inj h
        subst h
        exact g_iret B hE (Nat.zero_le _) (Nat.zero_le _) dX9_count_164
      replace h := ifn n7 h
      by_cases n8 : v1 = 8
      · replace h := ifp n8 h
        rw [n8]
        refine g_tableIn B 165 dX9_count_11 (by decide) (by decide) rfl (by decide) ?_
        refine g_aload_n B 0 dX9_count_165 rfl rfl ?_
        replace h := bnP_s h
        obtain ⟨x57, h58, h⟩ := h
        refine g_getR B fl_RX9_20 (by decide) dX9_count_166 h58 ?_
        replace h := bnP_s h
        obtain ⟨x59, h60, h⟩ := h
        refine g_getI B fl_RX9_128 (by decide) dX9_count_169 h60 ?_
        replace h := Option.some.inj h
        subst h
        exact g_iret B hE (Nat.zero_le _) (Nat.zero_le _) dX9_count_172
      replace h := ifn n8 h
      by_cases n9 : v1 = 9
      · replace h := ifp n9 h
        rw [n9]
        refine g_tableIn B 173 dX9_count_11 (by decide) (by decide) rfl (by decide) ?_
        refine g_aload_n B 0 dX9_count_173 rfl rfl ?_
        replace h := bnP_s h
        obtain ⟨x61, h62, h⟩ := h
        refine g_getR B fl_RX9_20 (by decide) dX9_count_174 h62 ?_
        replace h := bnP_s h
        obtain ⟨x63, h64, h⟩ := h
        refine g_getI B fl_RX9_131 (by decide) dX9_count_177 h64 ?_
        replace h := Option.some.inj h
        subst h
        exact g_iret B hE (Nat.zero_le _) (Nat.zero_le _) dX9_count_180
      replace h := ifn n9 h
      by_cases n10 : v1 = 10
      · replace h := ifp n10 h
        rw [n10]
        refine g_tableIn B 181 dX9_count_11 (by decide) (by decide) rfl (by decide) ?_
        refine g_aload_n B 0 dX9_count_181 rfl rfl ?_
        replace h := bnP_s h
        obtain ⟨x65, h66, h⟩ := h
        refine g_getR B fl_RX9_20 (by decide) dX9_count_182 h66 ?_
        replace h := bnP_s h
        obtain ⟨x67, h68, h⟩ := h
        refine g_callVs0 (st := []) B (cX1_marksOfAllc h68) (Nat.le_of_ble_eq_true rfl) rfl rfl mi_X1_marksOfAll lk_RX9_134 ⟨Nat.le_of_ble_eq_true rfl, Nat.le_of_ble_eq_true rfl⟩ rfl rfl (Nat.le_of_ble_eq_true rfl) dX9_count_185 (Nat.zero_le _) (Nat.zero_le _) ?_
        replace h := Option.some.inj h
        subst h
        exact g_iret B hE (Nat.zero_le _) (Nat.zero_le _) dX9_count_188
      replace h := ifn n10 h
      by_cases n11 : v1 = 11
      · replace h := ifp n11 h
        rw [n11]
        refine g_tableIn B 189 dX9_count_11 (by decide) (by decide) rfl (by decide) ?_
        refine g_aload_n B 0 dX9_count_189 rfl rfl ?_
        replace h := bnP_s h
        obtain ⟨x69, h70, h⟩ := h
        refine g_getR B fl_RX9_20 (by decide) dX9_count_190 h70 ?_
        replace h := bnP_s h
        obtain ⟨x71, h72, h⟩ := h
        refine g_getRg B fl_RX9_114 (by decide) dX9_count_193 h72 ?_
        refine g_iconst (v := 0) B dX9_count_196 (by decide) ?_
        refine g_aload_n B 0 dX9_count_197 rfl rfl ?_
        replace h := bnP_s h
        obtain ⟨x73, h74, h⟩ := h
        refine g_getR B fl_RX9_20 (by decide) dX9_count_198 h74 ?_
        replace h := bnP_s h
        obtain ⟨x75, h76, h⟩ := h
        refine g_getRg B fl_RX9_114 (by decide) dX9_count_201 h76 ?_
        replace h := bnP_s h
        obtain ⟨x77, h78, h⟩ := h
        refine g_getI B fl_RX9_118 (by decide) dX9_count_204 h78 ?_
        replace h := bnP_s h
        obtain ⟨x79, h80, h⟩ := h
        refine g_callVs0 (st := []) B (cX8_standingFromc h80) (Nat.le_of_ble_eq_true rfl) rfl rfl mi_X8_standingFrom lk_RX9_138 ⟨Nat.le_of_ble_eq_true rfl, Nat.le_of_ble_eq_true rfl⟩ rfl rfl (Nat.le_of_ble_eq_true rfl) dX9_count_207 (Nat.zero_le _) (Nat.zero_le _) ?_
        replace h := Option.some.inj h
        subst h
        exact g_iret B hE (Nat.zero_le _) (Nat.zero_le _) dX9_count_210
      replace h := ifn n11 h
      by_cases n12 : v1 = 12
      · replace h := ifp n12 h
        rw [n12]
        refine g_tableIn B 211 dX9_count_11 (by decide) (by decide) rfl (by decide) ?_
        refine g_aload_n B 0 dX9_count_211 rfl rfl ?_
        replace h := bnP_s h
        obtain ⟨x81, h82, h⟩ := h
        refine g_getR B fl_RX9_20 (by decide) dX9_count_212 h82 ?_
        refine g_iconst (v := 1) B dX9_count_215 (by decide) ?_
        replace h := bnP_s h
        obtain ⟨x83, h84, h⟩ := h
        refine g_callVs0 (st := []) B (cX1_actsAtc h84) (Nat.le_of_ble_eq_true rfl) rfl rfl mi_X1_actsAt lk_RX9_144 ⟨Nat.le_of_ble_eq_true rfl, Nat.le_of_ble_eq_true rfl⟩ rfl rfl (Nat.le_of_ble_eq_true rfl) dX9_count_216 (Nat.zero_le _) (Nat.zero_le _) ?_
        replace h := Option.some.inj h
        subst h
        exact g_iret B hE (Nat.zero_le _) (Nat.zero_le _) dX9_count_219
      replace h := ifn n12 h
      by_cases n13 : v1 = 13
      · replace h := ifp n13 h
        rw [n13]
        refine g_tableIn B 220 dX9_count_11 (by decide) (by decide) rfl (by decide) ?_
        refine g_aload_n B 0 dX9_count_220 rfl rfl ?_
        replace h := bnP_s h
        obtain ⟨x85, h86, h⟩ := h
        refine g_getR B fl_RX9_20 (by decide) dX9_count_221 h86 ?_
        refine g_iconst (v := 2) B dX9_count_224 (by decide) ?_
        replace h := bnP_s h
        obtain ⟨x87, h88, h⟩ := h
        refine g_callVs0 (st := []) B (cX1_actsAtc h88) (Nat.le_of_ble_eq_true rfl) rfl rfl mi_X1_actsAt lk_RX9_144 ⟨Nat.le_of_ble_eq_true rfl, Nat.le_of_ble_eq_true rfl⟩ rfl rfl (Nat.le_of_ble_eq_true rfl) dX9_count_225 (Nat.zero_le _) (Nat.zero_le _) ?_
        replace h := Option.some.inj h
        subst h
        exact g_iret B hE (Nat.zero_le _) (Nat.zero_le _) dX9_count_228
      replace h := ifn n13 h
      by_cases n14 : v1 = 14
      · replace h := ifp n14 h
        rw [n14]
        refine g_tableIn B 229 dX9_count_11 (by decide) (by decide) rfl (by decide) ?_
        refine g_aload_n B 0 dX9_count_229 rfl rfl ?_
        replace h := bnP_s h
        obtain ⟨x89, h90, h⟩ := h
        refine g_getR B fl_RX9_20 (by decide) dX9_count_230 h90 ?_
        replace h := bnP_s h
        obtain ⟨x91, h92, h⟩ := h
        refine g_callVs0 (st := []) B (cX1_openNumberc h92) (Nat.le_of_ble_eq_true rfl) rfl rfl mi_X1_openNumber lk_RX9_147 ⟨Nat.le_of_ble_eq_true rfl, Nat.le_of_ble_eq_true rfl⟩ rfl rfl (Nat.le_of_ble_eq_true rfl) dX9_count_233 (Nat.zero_le _) (Nat.zero_le _) ?_
        replace h := Option.some.inj h
        subst h
        exact g_iret B hE (Nat.zero_le _) (Nat.zero_le _) dX9_count_236
      replace h := ifn n14 h
      have mn0 := tne n0 (k := 0) (by decide)
      have mn1 := tne n1 (k := 1) (by decide)
      have mn2 := tne n2 (k := 2) (by decide)
      have mn3 := tne n3 (k := 3) (by decide)
      have mn4 := tne n4 (k := 4) (by decide)
      have mn5 := tne n5 (k := 5) (by decide)
      have mn6 := tne n6 (k := 6) (by decide)
      have mn7 := tne n7 (k := 7) (by decide)
      have mn8 := tne n8 (k := 8) (by decide)
      have mn9 := tne n9 (k := 9) (by decide)
      have mn10 := tne n10 (k := 10) (by decide)
      have mn11 := tne n11 (k := 11) (by decide)
      have mn12 := tne n12 (k := 12) (by decide)
      have mn13 := tne n13 (k := 13) (by decide)
      have mn14 := tne n14 (k := 14) (by decide)
      refine g_tableOut B 237 dX9_count_11 (by omega) (by decide) ?_
      refine g_aload_n B 0 dX9_count_237 rfl rfl ?_
      replace h := bnP_s h
      obtain ⟨x5, h6, h⟩ := h
      refine g_getR B fl_RX9_20 (by decide) dX9_count_238 h6 ?_
      refine g_iconst (v := 0) B dX9_count_241 (by decide) ?_
      refine g_aload_n B 0 dX9_count_242 rfl rfl ?_
      replace h := bnP_s h
      obtain ⟨x7, h8, h⟩ := h
      refine g_getR B fl_RX9_20 (by decide) dX9_count_243 h8 ?_
      replace h := bnP_s h
      obtain ⟨x9, h10, h⟩ := h
      refine g_getRg B fl_RX9_114 (by decide) dX9_count_246 h10 ?_
      replace h := bnP_s h
      obtain ⟨x11, h12, h⟩ := h
      refine g_getI B fl_RX9_118 (by decide) dX9_count_249 h12 ?_
      replace h := bnP_s h
      obtain ⟨x13, h14, h⟩ := h
      refine g_callVs0 (st := []) B (cX1_unknownFromc h14) (Nat.le_of_ble_eq_true rfl) rfl rfl mi_X1_unknownFrom lk_RX9_150 ⟨Nat.le_of_ble_eq_true rfl, Nat.le_of_ble_eq_true rfl⟩ rfl rfl (Nat.le_of_ble_eq_true rfl) dX9_count_252 (Nat.zero_le _) (Nat.zero_le _) ?_
      replace h := Option.some.inj h
      subst h
      exact g_iret B hE (Nat.zero_le _) (Nat.zero_le _) dX9_count_255
set_option maxRecDepth 100000 in
set_option maxHeartbeats 4000000 in
theorem cX9_requireActc {l : Launch} {v0 : Option Nat} {v1 : Int32} {σ : HpT} {o : Except Nat (Option Nat)} (h : fX9_requireAct v0 v1 σ = some o) : IsK σ v0 9 ∧ Ct l yX9_requireAct cX9_requireAct 2 (some (.object "NotaryBook$Act")) 6 90 [va_rf v0, .int v1] σ (oA o) σ (xc o) (xs o) := by
  unfold fX9_requireAct at h
  replace h := bnP_s h
  obtain ⟨u, hk, h⟩ := h
  replace hk := isK_s hk
  refine ⟨hk, ?_⟩
  refine ct_start mi_X9_requireAct.1 rfl (al_le (al_1 (rf_cat _) (al_1 rfl al_n)) (Nat.le_of_ble_eq_true rfl)) (ag_1 (rf_cat _) (ag_1 rfl ag_n)) (fun Δ Γ B hE hnm => ?_)
  refine g_iload_n B 1 dX9_requireAct_0 rfl rfl ?_
  refine g_iconst (v := 1) B dX9_requireAct_1 (by decide) ?_
  refine g_icmp_lt B 16 dX9_requireAct_2 (by decide) (fun hc => ?_) (fun hc => ?_)
  · replace h := ifp hc h
    replace h := Option.some.inj h
    subst h
    exact g_throwW B tw_RX9_238_242 (j := 19) rfl hE (by decide) (Nat.le_of_ble_eq_true rfl) dX9_requireAct_16 dX9_requireAct_19 dX9_requireAct_20 dX9_requireAct_23 dX9_requireAct_26 (Nat.le_refl 1) (Nat.le_refl 6)
  · replace h := ifn hc h
    refine g_iload_n B 1 dX9_requireAct_5 rfl rfl ?_
    refine g_aload_n B 0 dX9_requireAct_6 rfl rfl ?_
    replace h := bnP_s h
    obtain ⟨x1, h2, h⟩ := h
    refine g_getR B fl_RX9_20 (by decide) dX9_requireAct_7 h2 ?_
    replace h := bnP_s h
    obtain ⟨x3, h4, h⟩ := h
    refine g_getI B fl_RX9_92 (by decide) dX9_requireAct_10 h4 ?_
    refine g_icmp_le B 27 dX9_requireAct_13 (by decide) (fun hc => ?_) (fun hc => ?_)
    · replace h := ifp hc h
      refine g_aload_n B 0 dX9_requireAct_27 rfl rfl ?_
      replace h := bnP_s h
      obtain ⟨x5, h6, h⟩ := h
      refine g_getR B fl_RX9_20 (by decide) dX9_requireAct_28 h6 ?_
      replace h := bnP_s h
      obtain ⟨x7, h8, h⟩ := h
      refine g_getRg B fl_RX9_522 (by decide) dX9_requireAct_31 h8 ?_
      refine g_iload_n B 1 dX9_requireAct_34 rfl rfl ?_
      refine g_iconst (v := 1) B dX9_requireAct_35 (by decide) ?_
      refine g_isub B dX9_requireAct_36 ?_
      replace h := bnP_s h
      obtain ⟨x9, h10, h⟩ := h
      refine g_ralds B (κ := 25) (by decide) rfl dX9_requireAct_37 h10 ?_
      replace h := Option.some.inj h
      subst h
      exact g_aret B hE (Or.inl ⟨_, rfl⟩) (Nat.zero_le _) (Nat.zero_le _) dX9_requireAct_38
    · replace h := ifn hc h
      replace h := Option.some.inj h
      subst h
      exact g_throwW B tw_RX9_238_242 (j := 19) rfl hE (by decide) (Nat.le_of_ble_eq_true rfl) dX9_requireAct_16 dX9_requireAct_19 dX9_requireAct_20 dX9_requireAct_23 dX9_requireAct_26 (Nat.le_refl 1) (Nat.le_refl 6)
set_option maxRecDepth 100000 in
set_option maxHeartbeats 4000000 in
theorem cX9_actc {l : Launch} {v0 : Option Nat} {v1 : Int32} {v2 : Int32} {σ : HpT} {o : Except Nat (Int32)} (h : fX9_act v0 v1 v2 σ = some o) : IsK σ v0 9 ∧ Ct l yX9_act cX9_act 4 (some .int) 7 111 [va_rf v0, .int v1, .int v2] σ (oI o) σ (xc o) (xs o) := by
  unfold fX9_act at h
  replace h := bnP_s h
  obtain ⟨u, hk, h⟩ := h
  replace hk := isK_s hk
  refine ⟨hk, ?_⟩
  refine ct_start mi_X9_act.1 rfl (al_le (al_1 (rf_cat _) (al_1 rfl (al_1 rfl al_n))) (Nat.le_of_ble_eq_true rfl)) (ag_1 (rf_cat _) (ag_1 rfl (ag_1 rfl ag_n))) (fun Δ Γ B hE hnm => ?_)
  refine g_aload_n B 0 dX9_act_0 rfl rfl ?_
  replace h := bnX_s h
  rcases h with ⟨e9, h2, e8⟩ | ⟨x1, h2, h⟩
  · subst e8
    exact g_callVx (st := []) B (cX9_requireBookc (o := .error e9) h2) (Nat.le_of_ble_eq_true rfl) rfl rfl mi_X9_requireBook lk_RX9_95 ⟨Nat.le_of_ble_eq_true rfl, Nat.le_of_ble_eq_true rfl⟩ rfl rfl (Nat.le_of_ble_eq_true rfl) dX9_act_1 (Nat.le_of_eq rfl) (Nat.le_of_eq rfl) hE
  · skip
    refine g_callVv0 (st := []) B (cX9_requireBookc (o := .ok x1) h2) (Nat.le_of_ble_eq_true rfl) rfl rfl mi_X9_requireBook lk_RX9_95 ⟨Nat.le_of_ble_eq_true rfl, Nat.le_of_ble_eq_true rfl⟩ rfl rfl (Nat.le_of_ble_eq_true rfl) dX9_act_1 (Nat.zero_le _) (Nat.zero_le _) ?_
    refine g_aload_n B 0 dX9_act_4 rfl rfl ?_
    refine g_iload_n B 1 dX9_act_5 rfl rfl ?_
    replace h := bnX_s h
    rcases h with ⟨e9, h4, e8⟩ | ⟨x3, h4, h⟩
    · subst e8
      exact g_callVx (st := []) B (cX9_requireActc (o := .error e9) h4) (Nat.le_of_ble_eq_true rfl) rfl rfl mi_X9_requireAct lk_RX9_153 ⟨Nat.le_of_ble_eq_true rfl, Nat.le_of_ble_eq_true rfl⟩ rfl rfl (Nat.le_of_ble_eq_true rfl) dX9_act_6 (Nat.le_of_eq rfl) (Nat.le_of_eq rfl) hE
    · skip
      refine g_callVs0 (st := []) B (cX9_requireActc (o := .ok x3) h4) (Nat.le_of_ble_eq_true rfl) rfl rfl mi_X9_requireAct lk_RX9_153 ⟨Nat.le_of_ble_eq_true rfl, Nat.le_of_ble_eq_true rfl⟩ rfl rfl (Nat.le_of_ble_eq_true rfl) dX9_act_6 (Nat.zero_le _) (Nat.zero_le _) ?_
      refine g_astore_n B dX9_act_9 rfl (Nat.le_of_ble_eq_true rfl) (s1_c (f1_k rfl (f1_k rfl (f1_1 rfl rfl f1_n)))) ?_
      refine g_iload_n B 3 dX9_act_10 rfl rfl ?_
      refine g_bipush (v := 11) B dX9_act_11 (by decide) ?_
      replace h := bnX_s h
      rcases h with ⟨e9, h6, e8⟩ | ⟨x5, h6, h⟩
      · subst e8
        exact g_callSx (st := []) B (cX9_requireUpToc (o := .error e9) h6) mi_X9_requireUpTo lk_RX9_98 ⟨Nat.le_of_ble_eq_true rfl, Nat.le_of_ble_eq_true rfl⟩ rfl rfl (Nat.le_of_ble_eq_true rfl) dX9_act_13 (Nat.le_of_eq rfl) (Nat.le_of_eq rfl) hE
      · skip
        refine g_callSv0 (st := []) B (cX9_requireUpToc (o := .ok x5) h6) mi_X9_requireUpTo lk_RX9_98 ⟨Nat.le_of_ble_eq_true rfl, Nat.le_of_ble_eq_true rfl⟩ rfl rfl (Nat.le_of_ble_eq_true rfl) dX9_act_13 (Nat.zero_le _) (Nat.zero_le _) ?_
        refine g_iload_n B 3 dX9_act_16 rfl rfl ?_
        by_cases n0 : v2 = 0
        · replace h := ifp n0 h
          rw [n0]
          refine g_tableIn B 76 dX9_act_17 (by decide) (by decide) rfl (by decide) ?_
          refine g_aload_n B 0 dX9_act_76 rfl rfl ?_
          replace h := bnP_s h
          obtain ⟨x11, h12, h⟩ := h
          refine g_getI B fl_RX9_157 (by decide) dX9_act_77 h12 ?_
          replace h := Option.some.inj h
          subst h
          exact g_iret B hE (Nat.zero_le _) (Nat.zero_le _) dX9_act_80
        replace h := ifn n0 h
        by_cases n1 : v2 = 1
        · replace h := ifp n1 h
          rw [n1]
          refine g_tableIn B 81 dX9_act_17 (by decide) (by decide) rfl (by decide) ?_
          refine g_aload_n B 0 dX9_act_81 rfl rfl ?_
          replace h := bnP_s h
          obtain ⟨x13, h14, h⟩ := h
          refine g_getI B fl_RX9_160 (by decide) dX9_act_82 h14 ?_
          replace h := Option.some.inj h
          subst h
          exact g_iret B hE (Nat.zero_le _) (Nat.zero_le _) dX9_act_85
        replace h := ifn n1 h
        by_cases n2 : v2 = 2
        · replace h := ifp n2 h
          rw [n2]
          refine g_tableIn B 86 dX9_act_17 (by decide) (by decide) rfl (by decide) ?_
          refine g_aload_n B 0 dX9_act_86 rfl rfl ?_
          replace h := bnP_s h
          obtain ⟨x15, h16, h⟩ := h
          refine g_getI B fl_RX9_163 (by decide) dX9_act_87 h16 ?_
          replace h := Option.some.inj h
          subst h
          exact g_iret B hE (Nat.zero_le _) (Nat.zero_le _) dX9_act_90
        replace h := ifn n2 h
        by_cases n3 : v2 = 3
        · replace h := ifp n3 h
          rw [n3]
          refine g_tableIn B 91 dX9_act_17 (by decide) (by decide) rfl (by decide) ?_
          refine g_aload_n B 0 dX9_act_91 rfl rfl ?_
          replace h := bnP_s h
          obtain ⟨x17, h18, h⟩ := h
          refine g_getI B fl_RX9_166 (by decide) dX9_act_92 h18 ?_
          replace h := Option.some.inj h
          subst h
          exact g_iret B hE (Nat.zero_le _) (Nat.zero_le _) dX9_act_95
        replace h := ifn n3 h
        by_cases n4 : v2 = 4
        · replace h := ifp n4 h
          rw [n4]
          refine g_tableIn B 96 dX9_act_17 (by decide) (by decide) rfl (by decide) ?_
          refine g_aload_n B 0 dX9_act_96 rfl rfl ?_
          replace h := bnP_s h
          obtain ⟨x19, h20, h⟩ := h
          refine g_getI B fl_RX9_169 (by decide) dX9_act_97 h20 ?_
          replace h := Option.some.inj h
          subst h
          exact g_iret B hE (Nat.zero_le _) (Nat.zero_le _) dX9_act_100
        replace h := ifn n4 h
        by_cases n5 : v2 = 5
        · replace h := ifp n5 h
          rw [n5]
          refine g_tableIn B 101 dX9_act_17 (by decide) (by decide) rfl (by decide) ?_
          refine g_aload_n B 1 dX9_act_101 rfl rfl ?_
          replace h := bnP_s h
          obtain ⟨x21, h22, h⟩ := h
          refine g_getR B fl_RX9_20 (by decide) dX9_act_102 h22 ?_
          replace h := bnP_s h
          obtain ⟨x23, h24, h⟩ := h
          refine g_getRg B fl_RX9_114 (by decide) dX9_act_105 h24 ?_
          refine g_aload_n B 0 dX9_act_108 rfl rfl ?_
          replace h := bnP_s h
          obtain ⟨x25, h26, h⟩ := h
          refine g_getI B fl_RX9_170 (by decide) dX9_act_109 h26 ?_
          refine g_aload_n B 0 dX9_act_112 rfl rfl ?_
          replace h := bnP_s h
          obtain ⟨x27, h28, h⟩ := h
          refine g_getI B fl_RX9_169 (by decide) dX9_act_113 h28 ?_
          replace h := bnP_s h
          obtain ⟨x29, h30, h⟩ := h
          refine g_callVs0 (st := []) B (cX8_standingFromc h30) (Nat.le_of_ble_eq_true rfl) rfl rfl mi_X8_standingFrom lk_RX9_138 ⟨Nat.le_of_ble_eq_true rfl, Nat.le_of_ble_eq_true rfl⟩ rfl rfl (Nat.le_of_ble_eq_true rfl) dX9_act_116 (Nat.zero_le _) (Nat.zero_le _) ?_
          replace h := Option.some.inj h
          subst h
          exact g_iret B hE (Nat.zero_le _) (Nat.zero_le _) dX9_act_119
        replace h := ifn n5 h
        by_cases n6 : v2 = 6
        · replace h := ifp n6 h
          rw [n6]
          refine g_tableIn B 120 dX9_act_17 (by decide) (by decide) rfl (by decide) ?_
          refine g_aload_n B 1 dX9_act_120 rfl rfl ?_
          replace h := bnP_s h
          obtain ⟨x31, h32, h⟩ := h
          refine g_getR B fl_RX9_20 (by decide) dX9_act_121 h32 ?_
          replace h := bnP_s h
          obtain ⟨x33, h34, h⟩ := h
          refine g_getRg B fl_RX9_114 (by decide) dX9_act_124 h34 ?_
          refine g_aload_n B 0 dX9_act_127 rfl rfl ?_
          replace h := bnP_s h
          obtain ⟨x35, h36, h⟩ := h
          refine g_getI B fl_RX9_170 (by decide) dX9_act_128 h36 ?_
          refine g_aload_n B 0 dX9_act_131 rfl rfl ?_
          replace h := bnP_s h
          obtain ⟨x37, h38, h⟩ := h
          refine g_getI B fl_RX9_169 (by decide) dX9_act_132 h38 ?_
          replace h := bnP_s h
          obtain ⟨x39, h40, h⟩ := h
          refine g_callVs0 (st := []) B (cX8_clausesFromc h40) (Nat.le_of_ble_eq_true rfl) rfl rfl mi_X8_clausesFrom lk_RX9_173 ⟨Nat.le_of_ble_eq_true rfl, Nat.le_of_ble_eq_true rfl⟩ rfl rfl (Nat.le_of_ble_eq_true rfl) dX9_act_135 (Nat.zero_le _) (Nat.zero_le _) ?_
          replace h := Option.some.inj h
          subst h
          exact g_iret B hE (Nat.zero_le _) (Nat.zero_le _) dX9_act_138
        replace h := ifn n6 h
        by_cases n7 : v2 = 7
        · replace h := ifp n7 h
          rw [n7]
          refine g_tableIn B 139 dX9_act_17 (by decide) (by decide) rfl (by decide) ?_
          refine g_aload_n B 1 dX9_act_139 rfl rfl ?_
          replace h := bnP_s h
          obtain ⟨x41, h42, h⟩ := h
          refine g_getR B fl_RX9_20 (by decide) dX9_act_140 h42 ?_
          replace h := bnP_s h
          obtain ⟨x43, h44, h⟩ := h
          refine g_getRg B fl_RX9_114 (by decide) dX9_act_143 h44 ?_
          refine g_aload_n B 0 dX9_act_146 rfl rfl ?_
          replace h := bnP_s h
          obtain ⟨x45, h46, h⟩ := h
          refine g_getI B fl_RX9_170 (by decide) dX9_act_147 h46 ?_
          refine g_aload_n B 0 dX9_act_150 rfl rfl ?_
          replace h := bnP_s h
          obtain ⟨x47, h48, h⟩ := h
          refine g_getI B fl_RX9_169 (by decide) dX9_act_151 h48 ?_
          replace h := bnP_s h
          obtain ⟨x49, h50, h⟩ := h
          refine g_callVs0 (st := []) B (cX8_greatestDepthc h50) (Nat.le_of_ble_eq_true rfl) rfl rfl mi_X8_greatestDepth lk_RX9_176 ⟨Nat.le_of_ble_eq_true rfl, Nat.le_of_ble_eq_true rfl⟩ rfl rfl (Nat.le_of_ble_eq_true rfl) dX9_act_154 (Nat.zero_le _) (Nat.zero_le _) ?_
          replace h := Option.some.inj h
          subst h
          exact g_iret B hE (Nat.zero_le _) (Nat.zero_le _) dX9_act_157
        replace h := ifn n7 h
        by_cases n8 : v2 = 8
        · replace h := ifp n8 h
          rw [n8]
          refine g_tableIn B 158 dX9_act_17 (by decide) (by decide) rfl (by decide) ?_
          refine g_aload_n B 1 dX9_act_158 rfl rfl ?_
          replace h := bnP_s h
          obtain ⟨x51, h52, h⟩ := h
          refine g_getR B fl_RX9_20 (by decide) dX9_act_159 h52 ?_
          refine g_aload_n B 0 dX9_act_162 rfl rfl ?_
          replace h := bnP_s h
          obtain ⟨x53, h54, h⟩ := h
          refine g_getI B fl_RX9_170 (by decide) dX9_act_163 h54 ?_
          replace h := bnP_s h
          obtain ⟨x55, h56, h⟩ := h
          refine g_callVs0 (st := []) B (cX1_leafOfc h56) (Nat.le_of_ble_eq_true rfl) rfl rfl mi_X1_leafOf lk_RX9_179 ⟨Nat.le_of_ble_eq_true rfl, Nat.le_of_ble_eq_true rfl⟩ rfl rfl (Nat.le_of_ble_eq_true rfl) dX9_act_166 (Nat.zero_le _) (Nat.zero_le _) ?_
          replace h := Option.some.inj h
          subst h
          exact g_iret B hE (Nat.zero_le _) (Nat.zero_le _) dX9_act_169
        replace h := ifn n8 h
        by_cases n9 : v2 = 9
        · replace h := ifp n9 h
          rw [n9]
          refine g_tableIn B 170 dX9_act_17 (by decide) (by decide) rfl (by decide) ?_
          refine g_aload_n B 1 dX9_act_170 rfl rfl ?_
          replace h := bnP_s h
          obtain ⟨x57, h58, h⟩ := h
          refine g_getR B fl_RX9_20 (by decide) dX9_act_171 h58 ?_
          refine g_aload_n B 0 dX9_act_174 rfl rfl ?_
          replace h := bnP_s h
          obtain ⟨x59, h60, h⟩ := h
          refine g_getI B fl_RX9_170 (by decide) dX9_act_175 h60 ?_
          refine g_aload_n B 0 dX9_act_178 rfl rfl ?_
          replace h := bnP_s h
          obtain ⟨x61, h62, h⟩ := h
          refine g_getI B fl_RX9_169 (by decide) dX9_act_179 h62 ?_
          refine g_iadd B dX9_act_182 ?_
          refine g_iconst (v := 1) B dX9_act_183 (by decide) ?_
          refine g_isub B dX9_act_184 ?_
          replace h := bnP_s h
          obtain ⟨x63, h64, h⟩ := h
          refine g_callVs0 (st := []) B (cX1_leafOfc h64) (Nat.le_of_ble_eq_true rfl) rfl rfl mi_X1_leafOf lk_RX9_179 ⟨Nat.le_of_ble_eq_true rfl, Nat.le_of_ble_eq_true rfl⟩ rfl rfl (Nat.le_of_ble_eq_true rfl) dX9_act_185 (Nat.zero_le _) (Nat.zero_le _) ?_
          replace h := Option.some.inj h
          subst h
          exact g_iret B hE (Nat.zero_le _) (Nat.zero_le _) dX9_act_188
        replace h := ifn n9 h
        by_cases n10 : v2 = 10
        · replace h := ifp n10 h
          rw [n10]
          refine g_tableIn B 189 dX9_act_17 (by decide) (by decide) rfl (by decide) ?_
          refine g_aload_n B 0 dX9_act_189 rfl rfl ?_
          replace h := bnP_s h
          obtain ⟨x65, h66, h⟩ := h
          refine g_getI B fl_RX9_182 (by decide) dX9_act_190 h66 ?_
          replace h := Option.some.inj h
          subst h
          exact g_iret B hE (Nat.zero_le _) (Nat.zero_le _) dX9_act_193
        replace h := ifn n10 h
        have mn0 := tne n0 (k := 0) (by decide)
        have mn1 := tne n1 (k := 1) (by decide)
        have mn2 := tne n2 (k := 2) (by decide)
        have mn3 := tne n3 (k := 3) (by decide)
        have mn4 := tne n4 (k := 4) (by decide)
        have mn5 := tne n5 (k := 5) (by decide)
        have mn6 := tne n6 (k := 6) (by decide)
        have mn7 := tne n7 (k := 7) (by decide)
        have mn8 := tne n8 (k := 8) (by decide)
        have mn9 := tne n9 (k := 9) (by decide)
        have mn10 := tne n10 (k := 10) (by decide)
        refine g_tableOut B 194 dX9_act_17 (by omega) (by decide) ?_
        refine g_aload_n B 1 dX9_act_194 rfl rfl ?_
        replace h := bnP_s h
        obtain ⟨x7, h8, h⟩ := h
        refine g_getR B fl_RX9_20 (by decide) dX9_act_195 h8 ?_
        refine g_iload_n B 2 dX9_act_198 rfl rfl ?_
        replace h := bnP_s h
        obtain ⟨x9, h10, h⟩ := h
        refine g_callVs0 (st := []) B (cX1_copiesOfc h10) (Nat.le_of_ble_eq_true rfl) rfl rfl mi_X1_copiesOf lk_RX9_185 ⟨Nat.le_of_ble_eq_true rfl, Nat.le_of_ble_eq_true rfl⟩ rfl rfl (Nat.le_of_ble_eq_true rfl) dX9_act_199 (Nat.zero_le _) (Nat.zero_le _) ?_
        replace h := Option.some.inj h
        subst h
        exact g_iret B hE (Nat.zero_le _) (Nat.zero_le _) dX9_act_202
set_option maxRecDepth 100000 in
set_option maxHeartbeats 4000000 in
theorem cX9_requireWordc {l : Launch} {v0 : Option Nat} {v1 : Int32} {σ : HpT} {o : Except Nat (Int32)} (h : fX9_requireWord v0 v1 σ = some o) : Ct l yX9_requireWord cX9_requireWord 2 (some .int) 6 90 [va_rf v0, .int v1] σ (oI o) σ (xc o) (xs o) := by
  unfold fX9_requireWord at h
  refine ct_start mi_X9_requireWord.1 rfl (al_le (al_1 (rf_cat _) (al_1 rfl al_n)) (Nat.le_of_ble_eq_true rfl)) (ag_1 (rf_cat _) (ag_1 rfl ag_n)) (fun Δ Γ B hE hnm => ?_)
  refine g_iload_n B 1 dX9_requireWord_0 rfl rfl ?_
  refine g_if_lt B 12 dX9_requireWord_1 (by decide) (fun hc => ?_) (fun hc => ?_)
  · replace h := ifp hc h
    replace h := Option.some.inj h
    subst h
    exact g_throwW B tw_RX9_238_242 (j := 20) rfl hE (by decide) (Nat.le_of_ble_eq_true rfl) dX9_requireWord_12 dX9_requireWord_15 dX9_requireWord_16 dX9_requireWord_19 dX9_requireWord_22 (Nat.le_refl 1) (Nat.le_refl 6)
  · replace h := ifn hc h
    refine g_iload_n B 1 dX9_requireWord_4 rfl rfl ?_
    refine g_aload_n B 0 dX9_requireWord_5 rfl rfl ?_
    replace h := bnP_s h
    obtain ⟨x1, h2, h⟩ := h
    refine g_getI B fl_RX9_169 (by decide) dX9_requireWord_6 h2 ?_
    refine g_icmp_lt B 23 dX9_requireWord_9 (by decide) (fun hc => ?_) (fun hc => ?_)
    · replace h := ifp hc h
      refine g_aload_n B 0 dX9_requireWord_23 rfl rfl ?_
      replace h := bnP_s h
      obtain ⟨x3, h4, h⟩ := h
      refine g_getI B fl_RX9_170 (by decide) dX9_requireWord_24 h4 ?_
      refine g_iload_n B 1 dX9_requireWord_27 rfl rfl ?_
      refine g_iadd B dX9_requireWord_28 ?_
      replace h := Option.some.inj h
      subst h
      exact g_iret B hE (Nat.zero_le _) (Nat.zero_le _) dX9_requireWord_29
    · replace h := ifn hc h
      replace h := Option.some.inj h
      subst h
      exact g_throwW B tw_RX9_238_242 (j := 20) rfl hE (by decide) (Nat.le_of_ble_eq_true rfl) dX9_requireWord_12 dX9_requireWord_15 dX9_requireWord_16 dX9_requireWord_19 dX9_requireWord_22 (Nat.le_refl 1) (Nat.le_refl 6)
set_option maxRecDepth 100000 in
set_option maxHeartbeats 4000000 in
theorem cX9_lettersInc {l : Launch} {v0 : Int64} {σ : HpT} {r : Int32} (h : fX9_lettersIn v0 σ = some r) : Ct l yX9_lettersIn cX9_lettersIn 3 (some .int) 0 0 [.long v0] σ (.ok (some (.int r))) σ 0 0 := by
  unfold fX9_lettersIn at h
  refine ct_start mi_X9_lettersIn.1 rfl (al_le (al_2 rfl al_n) (Nat.le_of_ble_eq_true rfl)) (ag_2 rfl ag_n) (fun Δ Γ B hE hnm => ?_)
  refine g_iconst (v := 0) B dX9_lettersIn_0 (by decide) ?_
  refine g_istore_n B dX9_lettersIn_1 rfl (Nat.le_of_ble_eq_true rfl) (s1_c (f1_k rfl f1_n)) ?_
  replace h := bnP_s h
  obtain ⟨r2, h3, h⟩ := h
  have kE4 : GW Δ Γ (0) (0) 25 [(2, .int r2)] [] σ := by
    refine g_iload_n B 0 dX9_lettersIn_25 rfl rfl ?_
    replace h := Option.some.inj h
    subst h
    exact g_iret B hE (Nat.zero_le _) (Nat.zero_le _) dX9_lettersIn_26
  clear h
  refine g_sub [1, 0] rfl ?_
  refine lpP_w (I := fun q1 => GW Δ Γ (0) (0) 2 [(0, .long v0), (2, .int q1)] [] σ) (r := r2) ?_ FUEL 0 h3
  intro q1 x8 h hI6 hR7
  unfold fX9_lettersIn_l1 at h
  refine g_iload_n B 1 dX9_lettersIn_2 rfl rfl ?_
  refine g_bipush (v := 8) B dX9_lettersIn_3 (by decide) ?_
  refine g_icmp_ge B 25 dX9_lettersIn_5 (by decide) (fun hc => ?_) (fun hc => ?_)
  · replace h := ifp hc h
    replace h := Option.some.inj h
    subst h
    have e8 := hR7 _ rfl
    subst e8
    exact g_sub [1] rfl kE4
  · replace h := ifn hc h
    refine g_lload_n B 0 dX9_lettersIn_8 rfl rfl ?_
    refine g_bipush (v := 8) B dX9_lettersIn_9 (by decide) ?_
    refine g_iload_n B 1 dX9_lettersIn_11 rfl rfl ?_
    refine g_imul B dX9_lettersIn_12 ?_
    refine g_lushr B dX9_lettersIn_13 ?_
    refine g_lconst (v := 0) B dX9_lettersIn_14 (by decide) ?_
    refine g_lcmp B dX9_lettersIn_15 ?_
    refine g_if_eq B 25 dX9_lettersIn_16 (by decide) (fun hc => ?_) (fun hc => ?_)
    · replace h := ifp hc h
      replace h := Option.some.inj h
      subst h
      have e8 := hR7 _ rfl
      subst e8
      exact g_sub [1] rfl kE4
    · replace h := ifn hc h
      refine g_iinc (v := (q1 + 1)) B 1 dX9_lettersIn_19 rfl (by first | rfl | (congr 1; decide)) (Nat.le_of_ble_eq_true rfl) (s1_c (f1_k rfl (f1_x f1_n))) ?_
      refine g_goto B 2 dX9_lettersIn_22 (by decide) ?_
      replace h := Option.some.inj h
      subst h
      exact g_sub [1, 0] rfl (hI6 _ rfl)
set_option maxRecDepth 100000 in
set_option maxHeartbeats 4000000 in
theorem cX9_wordc {l : Launch} {v0 : Option Nat} {v1 : Int32} {v2 : Int32} {v3 : Int32} {σ : HpT} {o : Except Nat (Int32)} (h : fX9_word v0 v1 v2 v3 σ = some o) : IsK σ v0 9 ∧ Ct l yX9_word cX9_word 7 (some .int) 7 111 [va_rf v0, .int v1, .int v2, .int v3] σ (oI o) σ (xc o) (xs o) := by
  unfold fX9_word at h
  replace h := bnP_s h
  obtain ⟨u, hk, h⟩ := h
  replace hk := isK_s hk
  refine ⟨hk, ?_⟩
  refine ct_start mi_X9_word.1 rfl (al_le (al_1 (rf_cat _) (al_1 rfl (al_1 rfl (al_1 rfl al_n)))) (Nat.le_of_ble_eq_true rfl)) (ag_1 (rf_cat _) (ag_1 rfl (ag_1 rfl (ag_1 rfl ag_n)))) (fun Δ Γ B hE hnm => ?_)
  refine g_aload_n B 0 dX9_word_0 rfl rfl ?_
  replace h := bnX_s h
  rcases h with ⟨e9, h2, e8⟩ | ⟨x1, h2, h⟩
  · subst e8
    exact g_callVx (st := []) B (cX9_requireBookc (o := .error e9) h2) (Nat.le_of_ble_eq_true rfl) rfl rfl mi_X9_requireBook lk_RX9_95 ⟨Nat.le_of_ble_eq_true rfl, Nat.le_of_ble_eq_true rfl⟩ rfl rfl (Nat.le_of_ble_eq_true rfl) dX9_word_1 (Nat.le_of_eq rfl) (Nat.le_of_eq rfl) hE
  · skip
    refine g_callVv0 (st := []) B (cX9_requireBookc (o := .ok x1) h2) (Nat.le_of_ble_eq_true rfl) rfl rfl mi_X9_requireBook lk_RX9_95 ⟨Nat.le_of_ble_eq_true rfl, Nat.le_of_ble_eq_true rfl⟩ rfl rfl (Nat.le_of_ble_eq_true rfl) dX9_word_1 (Nat.zero_le _) (Nat.zero_le _) ?_
    refine g_aload_n B 0 dX9_word_4 rfl rfl ?_
    refine g_iload_n B 1 dX9_word_5 rfl rfl ?_
    replace h := bnX_s h
    rcases h with ⟨e9, h4, e8⟩ | ⟨x3, h4, h⟩
    · subst e8
      exact g_callVx (st := []) B (cX9_requireActc (o := .error e9) h4) (Nat.le_of_ble_eq_true rfl) rfl rfl mi_X9_requireAct lk_RX9_153 ⟨Nat.le_of_ble_eq_true rfl, Nat.le_of_ble_eq_true rfl⟩ rfl rfl (Nat.le_of_ble_eq_true rfl) dX9_word_6 (Nat.le_of_eq rfl) (Nat.le_of_eq rfl) hE
    · skip
      refine g_callVs0 (st := []) B (cX9_requireActc (o := .ok x3) h4) (Nat.le_of_ble_eq_true rfl) rfl rfl mi_X9_requireAct lk_RX9_153 ⟨Nat.le_of_ble_eq_true rfl, Nat.le_of_ble_eq_true rfl⟩ rfl rfl (Nat.le_of_ble_eq_true rfl) dX9_word_6 (Nat.zero_le _) (Nat.zero_le _) ?_
      refine g_astore B dX9_word_9 (Nat.le_of_ble_eq_true rfl) (s1_c (f1_k rfl (f1_k rfl (f1_k rfl (f1_1 rfl rfl f1_n))))) ?_
      refine g_aload B 0 dX9_word_11 rfl ?_
      refine g_iload_n B 3 dX9_word_13 rfl rfl ?_
      replace h := bnX_s h
      rcases h with ⟨e9, h6, e8⟩ | ⟨x5, h6, h⟩
      · subst e8
        exact g_callSx (st := []) B (cX9_requireWordc (o := .error e9) h6) mi_X9_requireWord lk_RX9_188 ⟨Nat.le_of_ble_eq_true rfl, Nat.le_of_ble_eq_true rfl⟩ rfl rfl (Nat.le_of_ble_eq_true rfl) dX9_word_14 (Nat.le_of_eq rfl) (Nat.le_of_eq rfl) hE
      · skip
        refine g_callSs0 (st := []) B (cX9_requireWordc (o := .ok x5) h6) mi_X9_requireWord lk_RX9_188 ⟨Nat.le_of_ble_eq_true rfl, Nat.le_of_ble_eq_true rfl⟩ rfl rfl (Nat.le_of_ble_eq_true rfl) dX9_word_14 (Nat.zero_le _) (Nat.zero_le _) ?_
        refine g_istore B dX9_word_17 (Nat.le_of_ble_eq_true rfl) (s1_c (f1_1 rfl (rf_cat _) (f1_k rfl (f1_k rfl (f1_k rfl (f1_k rfl f1_n)))))) ?_
        refine g_iload_n B 5 dX9_word_19 rfl rfl ?_
        refine g_bipush (v := 7) B dX9_word_20 (by decide) ?_
        replace h := bnX_s h
        rcases h with ⟨e9, h8, e8⟩ | ⟨x7, h8, h⟩
        · subst e8
          exact g_callSx (st := []) B (cX9_requireUpToc (o := .error e9) h8) mi_X9_requireUpTo lk_RX9_98 ⟨Nat.le_of_ble_eq_true rfl, Nat.le_of_ble_eq_true rfl⟩ rfl rfl (Nat.le_of_ble_eq_true rfl) dX9_word_22 (Nat.le_of_eq rfl) (Nat.le_of_eq rfl) hE
        · skip
          refine g_callSv0 (st := []) B (cX9_requireUpToc (o := .ok x7) h8) mi_X9_requireUpTo lk_RX9_98 ⟨Nat.le_of_ble_eq_true rfl, Nat.le_of_ble_eq_true rfl⟩ rfl rfl (Nat.le_of_ble_eq_true rfl) dX9_word_22 (Nat.zero_le _) (Nat.zero_le _) ?_
          refine g_aload_n B 2 dX9_word_25 rfl rfl ?_
          replace h := bnP_s h
          obtain ⟨x9, h10, h⟩ := h
          refine g_getR B fl_RX9_20 (by decide) dX9_word_26 h10 ?_
          replace h := bnP_s h
          obtain ⟨x11, h12, h⟩ := h
          refine g_getRg B fl_RX9_114 (by decide) dX9_word_29 h12 ?_
          refine g_astore B dX9_word_32 (Nat.le_of_ble_eq_true rfl) (s1_c (f1_1 rfl rfl (f1_k rfl (f1_k rfl (f1_k rfl (f1_k rfl (f1_k rfl f1_n))))))) ?_
          refine g_iload_n B 6 dX9_word_34 rfl rfl ?_
          by_cases n0 : v3 = 0
          · replace h := ifp n0 h
            rw [n0]
            refine g_tableIn B 76 dX9_word_35 (by decide) (by decide) rfl (by decide) ?_
            refine g_aload_n B 3 dX9_word_76 rfl rfl ?_
            replace h := bnP_s h
            obtain ⟨x17, h18, h⟩ := h
            refine g_getR B fl_RX9_20 (by decide) dX9_word_77 h18 ?_
            refine g_iload B 1 dX9_word_80 rfl ?_
            replace h := bnP_s h
            obtain ⟨x19, h20, h⟩ := h
            refine g_callVs0 (st := []) B (cX1_leafOfc h20) (Nat.le_of_ble_eq_true rfl) rfl rfl mi_X1_leafOf lk_RX9_179 ⟨Nat.le_of_ble_eq_true rfl, Nat.le_of_ble_eq_true rfl⟩ rfl rfl (Nat.le_of_ble_eq_true rfl) dX9_word_82 (Nat.zero_le _) (Nat.zero_le _) ?_
            replace h := Option.some.inj h
            subst h
            exact g_iret B hE (Nat.zero_le _) (Nat.zero_le _) dX9_word_85
          replace h := ifn n0 h
          by_cases n1 : v3 = 1
          · replace h := ifp n1 h
            rw [n1]
            refine g_tableIn B 86 dX9_word_35 (by decide) (by decide) rfl (by decide) ?_
            refine g_aload B 0 dX9_word_86 rfl ?_
            replace h := bnP_s h
            obtain ⟨x21, h22, h⟩ := h
            refine g_getRg B fl_RX9_192 (by decide) dX9_word_88 h22 ?_
            refine g_iload B 1 dX9_word_91 rfl ?_
            replace h := bnP_s h
            obtain ⟨x23, h24, h⟩ := h
            refine g_zald B dX9_word_93 h24 ?_
            refine g_if_eq B 101 dX9_word_94 (by decide) (fun hc => ?_) (fun hc => ?_)
            · replace h := ifp hc h
              refine g_iconst (v := 0) B dX9_word_101 (by decide) ?_
              replace h := Option.some.inj h
              subst h
              exact g_iret B hE (Nat.zero_le _) (Nat.zero_le _) dX9_word_102
            · replace h := ifn hc h
              refine g_iconst (v := 1) B dX9_word_97 (by decide) ?_
              refine g_goto B 102 dX9_word_98 (by decide) ?_
              replace h := Option.some.inj h
              subst h
              exact g_iret B hE (Nat.zero_le _) (Nat.zero_le _) dX9_word_102
          replace h := ifn n1 h
          by_cases n2 : v3 = 2
          · replace h := ifp n2 h
            rw [n2]
            refine g_tableIn B 103 dX9_word_35 (by decide) (by decide) rfl (by decide) ?_
            refine g_aload B 0 dX9_word_103 rfl ?_
            refine g_aload B 2 dX9_word_105 rfl ?_
            replace h := bnP_s h
            obtain ⟨x25, h26, h⟩ := h
            refine g_getI B fl_RX9_170 (by decide) dX9_word_107 h26 ?_
            refine g_iload B 1 dX9_word_110 rfl ?_
            replace h := bnP_s h
            obtain ⟨x27, h28, h⟩ := h
            refine g_callVs0 (st := []) B (cX8_depthOfc h28) (Nat.le_of_ble_eq_true rfl) rfl rfl mi_X8_depthOf lk_RX9_195 ⟨Nat.le_of_ble_eq_true rfl, Nat.le_of_ble_eq_true rfl⟩ rfl rfl (Nat.le_of_ble_eq_true rfl) dX9_word_112 (Nat.zero_le _) (Nat.zero_le _) ?_
            replace h := Option.some.inj h
            subst h
            exact g_iret B hE (Nat.zero_le _) (Nat.zero_le _) dX9_word_115
          replace h := ifn n2 h
          by_cases n3 : v3 = 3
          · replace h := ifp n3 h
            rw [n3]
            refine g_tableIn B 116 dX9_word_35 (by decide) (by decide) rfl (by decide) ?_
            refine g_aload B 0 dX9_word_116 rfl ?_
            replace h := bnP_s h
            obtain ⟨x29, h30, h⟩ := h
            refine g_getRg B fl_RX9_198 (by decide) dX9_word_118 h30 ?_
            refine g_iload B 1 dX9_word_121 rfl ?_
            replace h := bnP_s h
            obtain ⟨x31, h32, h⟩ := h
            refine g_iald B dX9_word_123 h32 ?_
            replace h := Option.some.inj h
            subst h
            exact g_iret B hE (Nat.zero_le _) (Nat.zero_le _) dX9_word_124
          replace h := ifn n3 h
          by_cases n4 : v3 = 4
          · replace h := ifp n4 h
            rw [n4]
            refine g_tableIn B 125 dX9_word_35 (by decide) (by decide) rfl (by decide) ?_
            refine g_aload B 0 dX9_word_125 rfl ?_
            replace h := bnP_s h
            obtain ⟨x33, h34, h⟩ := h
            refine g_getRg B fl_RX9_202 (by decide) dX9_word_127 h34 ?_
            refine g_iload B 1 dX9_word_130 rfl ?_
            replace h := bnP_s h
            obtain ⟨x35, h36, h⟩ := h
            refine g_lald B dX9_word_132 h36 ?_
            replace h := bnP_s h
            obtain ⟨x37, h38, h⟩ := h
            refine g_callSs0 (st := []) B (cX9_lettersInc h38) mi_X9_lettersIn lk_RX9_206 ⟨Nat.le_of_ble_eq_true rfl, Nat.le_of_ble_eq_true rfl⟩ rfl rfl (Nat.le_of_ble_eq_true rfl) dX9_word_133 (Nat.zero_le _) (Nat.zero_le _) ?_
            replace h := Option.some.inj h
            subst h
            exact g_iret B hE (Nat.zero_le _) (Nat.zero_le _) dX9_word_136
          replace h := ifn n4 h
          by_cases n5 : v3 = 5
          · replace h := ifp n5 h
            rw [n5]
            refine g_tableIn B 137 dX9_word_35 (by decide) (by decide) rfl (by decide) ?_
            refine g_aload_n B 3 dX9_word_137 rfl rfl ?_
            replace h := bnP_s h
            obtain ⟨x39, h40, h⟩ := h
            refine g_getR B fl_RX9_20 (by decide) dX9_word_138 h40 ?_
            refine g_iload B 1 dX9_word_141 rfl ?_
            replace h := bnP_s h
            obtain ⟨x41, h42, h⟩ := h
            refine g_callVs0 (st := []) B (cX1_isKnownc h42) (Nat.le_of_ble_eq_true rfl) rfl rfl mi_X1_isKnown lk_RX9_210 ⟨Nat.le_of_ble_eq_true rfl, Nat.le_of_ble_eq_true rfl⟩ rfl rfl (Nat.le_of_ble_eq_true rfl) dX9_word_143 (Nat.zero_le _) (Nat.zero_le _) ?_
            refine g_if_eq B 153 dX9_word_146 (by decide) (fun hc => ?_) (fun hc => ?_)
            · replace h := ifn (bI0 hc) h
              refine g_iconst (v := 0) B dX9_word_153 (by decide) ?_
              replace h := Option.some.inj h
              subst h
              exact g_iret B hE (Nat.zero_le _) (Nat.zero_le _) dX9_word_154
            · replace h := ifp (bI1 hc) h
              refine g_iconst (v := 1) B dX9_word_149 (by decide) ?_
              refine g_goto B 154 dX9_word_150 (by decide) ?_
              replace h := Option.some.inj h
              subst h
              exact g_iret B hE (Nat.zero_le _) (Nat.zero_le _) dX9_word_154
          replace h := ifn n5 h
          by_cases n6 : v3 = 6
          · replace h := ifp n6 h
            rw [n6]
            refine g_tableIn B 155 dX9_word_35 (by decide) (by decide) rfl (by decide) ?_
            refine g_aload B 0 dX9_word_155 rfl ?_
            refine g_aload B 2 dX9_word_157 rfl ?_
            replace h := bnP_s h
            obtain ⟨x43, h44, h⟩ := h
            refine g_getI B fl_RX9_170 (by decide) dX9_word_159 h44 ?_
            refine g_iload B 1 dX9_word_162 rfl ?_
            replace h := bnP_s h
            obtain ⟨x45, h46, h⟩ := h
            refine g_callVs0 (st := []) B (cX8_innermostOfc h46) (Nat.le_of_ble_eq_true rfl) rfl rfl mi_X8_innermostOf lk_RX9_214 ⟨Nat.le_of_ble_eq_true rfl, Nat.le_of_ble_eq_true rfl⟩ rfl rfl (Nat.le_of_ble_eq_true rfl) dX9_word_164 (Nat.zero_le _) (Nat.zero_le _) ?_
            replace h := Option.some.inj h
            subst h
            exact g_iret B hE (Nat.zero_le _) (Nat.zero_le _) dX9_word_167
          replace h := ifn n6 h
          have mn0 := tne n0 (k := 0) (by decide)
          have mn1 := tne n1 (k := 1) (by decide)
          have mn2 := tne n2 (k := 2) (by decide)
          have mn3 := tne n3 (k := 3) (by decide)
          have mn4 := tne n4 (k := 4) (by decide)
          have mn5 := tne n5 (k := 5) (by decide)
          have mn6 := tne n6 (k := 6) (by decide)
          refine g_tableOut B 168 dX9_word_35 (by omega) (by decide) ?_
          refine g_aload_n B 3 dX9_word_168 rfl rfl ?_
          replace h := bnP_s h
          obtain ⟨x13, h14, h⟩ := h
          refine g_getR B fl_RX9_20 (by decide) dX9_word_169 h14 ?_
          refine g_iload B 1 dX9_word_172 rfl ?_
          replace h := bnP_s h
          obtain ⟨x15, h16, h⟩ := h
          refine g_callVs0 (st := []) B (cX1_copiesWithc h16) (Nat.le_of_ble_eq_true rfl) rfl rfl mi_X1_copiesWith lk_RX9_217 ⟨Nat.le_of_ble_eq_true rfl, Nat.le_of_ble_eq_true rfl⟩ rfl rfl (Nat.le_of_ble_eq_true rfl) dX9_word_174 (Nat.zero_le _) (Nat.zero_le _) ?_
          replace h := Option.some.inj h
          subst h
          exact g_iret B hE (Nat.zero_le _) (Nat.zero_le _) dX9_word_177
set_option maxRecDepth 100000 in
set_option maxHeartbeats 4000000 in
theorem cX9_requireLeafc {l : Launch} {v0 : Option Nat} {v1 : Int32} {σ : HpT} {o : Except Nat (Unit)} (h : fX9_requireLeaf v0 v1 σ = some o) : IsK σ v0 9 ∧ Ct l yX9_requireLeaf cX9_requireLeaf 2 none 6 90 [va_rf v0, .int v1] σ (oU o) σ (xc o) (xs o) := by
  unfold fX9_requireLeaf at h
  replace h := bnP_s h
  obtain ⟨u, hk, h⟩ := h
  replace hk := isK_s hk
  refine ⟨hk, ?_⟩
  refine ct_start mi_X9_requireLeaf.1 rfl (al_le (al_1 (rf_cat _) (al_1 rfl al_n)) (Nat.le_of_ble_eq_true rfl)) (ag_1 (rf_cat _) (ag_1 rfl ag_n)) (fun Δ Γ B hE hnm => ?_)
  refine g_aload_n B 0 dX9_requireLeaf_0 rfl rfl ?_
  replace h := bnP_s h
  obtain ⟨x1, h2, h⟩ := h
  refine g_getR B fl_RX9_20 (by decide) dX9_requireLeaf_1 h2 ?_
  replace h := bnP_s h
  obtain ⟨x3, h4, h⟩ := h
  refine g_getRg B fl_RX9_108 (by decide) dX9_requireLeaf_4 h4 ?_
  refine g_iload_n B 1 dX9_requireLeaf_7 rfl rfl ?_
  replace h := bnP_s h
  obtain ⟨x5, h6, h⟩ := h
  refine g_callVs0 (st := []) B (cX4_isTherec h6) (Nat.le_of_ble_eq_true rfl) rfl rfl mi_X4_isThere lk_RX9_534 ⟨Nat.le_of_ble_eq_true rfl, Nat.le_of_ble_eq_true rfl⟩ rfl rfl (Nat.le_of_ble_eq_true rfl) dX9_requireLeaf_8 (Nat.zero_le _) (Nat.zero_le _) ?_
  refine g_if_ne B 25 dX9_requireLeaf_11 (by decide) (fun hc => ?_) (fun hc => ?_)
  · replace h := ifp (bI1 hc) h
    replace h := Option.some.inj h
    subst h
    exact g_vret B hE (Nat.zero_le _) (Nat.zero_le _) dX9_requireLeaf_25
  · replace h := ifn (bI0 hc) h
    replace h := Option.some.inj h
    subst h
    exact g_throwW B tw_RX9_238_242 (j := 21) rfl hE (by decide) (Nat.le_of_ble_eq_true rfl) dX9_requireLeaf_14 dX9_requireLeaf_17 dX9_requireLeaf_18 dX9_requireLeaf_21 dX9_requireLeaf_24 (Nat.le_refl 1) (Nat.le_refl 6)
set_option maxRecDepth 100000 in
set_option maxHeartbeats 4000000 in
theorem cX9_leafc {l : Launch} {v0 : Option Nat} {v1 : Int32} {v2 : Int32} {σ : HpT} {o : Except Nat (Int32)} (h : fX9_leaf v0 v1 v2 σ = some o) : IsK σ v0 9 ∧ Ct l yX9_leaf cX9_leaf 3 (some .int) 7 111 [va_rf v0, .int v1, .int v2] σ (oI o) σ (xc o) (xs o) := by
  unfold fX9_leaf at h
  replace h := bnP_s h
  obtain ⟨u, hk, h⟩ := h
  replace hk := isK_s hk
  refine ⟨hk, ?_⟩
  refine ct_start mi_X9_leaf.1 rfl (al_le (al_1 (rf_cat _) (al_1 rfl (al_1 rfl al_n))) (Nat.le_of_ble_eq_true rfl)) (ag_1 (rf_cat _) (ag_1 rfl (ag_1 rfl ag_n))) (fun Δ Γ B hE hnm => ?_)
  refine g_aload_n B 0 dX9_leaf_0 rfl rfl ?_
  replace h := bnX_s h
  rcases h with ⟨e9, h2, e8⟩ | ⟨x1, h2, h⟩
  · subst e8
    exact g_callVx (st := []) B (cX9_requireBookc (o := .error e9) h2) (Nat.le_of_ble_eq_true rfl) rfl rfl mi_X9_requireBook lk_RX9_95 ⟨Nat.le_of_ble_eq_true rfl, Nat.le_of_ble_eq_true rfl⟩ rfl rfl (Nat.le_of_ble_eq_true rfl) dX9_leaf_1 (Nat.le_of_eq rfl) (Nat.le_of_eq rfl) hE
  · skip
    refine g_callVv0 (st := []) B (cX9_requireBookc (o := .ok x1) h2) (Nat.le_of_ble_eq_true rfl) rfl rfl mi_X9_requireBook lk_RX9_95 ⟨Nat.le_of_ble_eq_true rfl, Nat.le_of_ble_eq_true rfl⟩ rfl rfl (Nat.le_of_ble_eq_true rfl) dX9_leaf_1 (Nat.zero_le _) (Nat.zero_le _) ?_
    refine g_aload_n B 0 dX9_leaf_4 rfl rfl ?_
    refine g_iload_n B 1 dX9_leaf_5 rfl rfl ?_
    replace h := bnX_s h
    rcases h with ⟨e9, h4, e8⟩ | ⟨x3, h4, h⟩
    · subst e8
      exact g_callVx (st := []) B (cX9_requireLeafc (o := .error e9) h4) (Nat.le_of_ble_eq_true rfl) rfl rfl mi_X9_requireLeaf lk_RX9_254 ⟨Nat.le_of_ble_eq_true rfl, Nat.le_of_ble_eq_true rfl⟩ rfl rfl (Nat.le_of_ble_eq_true rfl) dX9_leaf_6 (Nat.le_of_eq rfl) (Nat.le_of_eq rfl) hE
    · skip
      refine g_callVv0 (st := []) B (cX9_requireLeafc (o := .ok x3) h4) (Nat.le_of_ble_eq_true rfl) rfl rfl mi_X9_requireLeaf lk_RX9_254 ⟨Nat.le_of_ble_eq_true rfl, Nat.le_of_ble_eq_true rfl⟩ rfl rfl (Nat.le_of_ble_eq_true rfl) dX9_leaf_6 (Nat.zero_le _) (Nat.zero_le _) ?_
      refine g_iload_n B 2 dX9_leaf_9 rfl rfl ?_
      refine g_iconst (v := 5) B dX9_leaf_10 (by decide) ?_
      replace h := bnX_s h
      rcases h with ⟨e9, h6, e8⟩ | ⟨x5, h6, h⟩
      · subst e8
        exact g_callSx (st := []) B (cX9_requireUpToc (o := .error e9) h6) mi_X9_requireUpTo lk_RX9_98 ⟨Nat.le_of_ble_eq_true rfl, Nat.le_of_ble_eq_true rfl⟩ rfl rfl (Nat.le_of_ble_eq_true rfl) dX9_leaf_11 (Nat.le_of_eq rfl) (Nat.le_of_eq rfl) hE
      · skip
        refine g_callSv0 (st := []) B (cX9_requireUpToc (o := .ok x5) h6) mi_X9_requireUpTo lk_RX9_98 ⟨Nat.le_of_ble_eq_true rfl, Nat.le_of_ble_eq_true rfl⟩ rfl rfl (Nat.le_of_ble_eq_true rfl) dX9_leaf_11 (Nat.zero_le _) (Nat.zero_le _) ?_
        refine g_iload_n B 2 dX9_leaf_14 rfl rfl ?_
        by_cases n0 : v2 = 0
        · replace h := ifp n0 h
          rw [n0]
          refine g_tableIn B 48 dX9_leaf_15 (by decide) (by decide) rfl (by decide) ?_
          refine g_aload_n B 0 dX9_leaf_48 rfl rfl ?_
          replace h := bnP_s h
          obtain ⟨x11, h12, h⟩ := h
          refine g_getR B fl_RX9_20 (by decide) dX9_leaf_49 h12 ?_
          replace h := bnP_s h
          obtain ⟨x13, h14, h⟩ := h
          refine g_getRg B fl_RX9_108 (by decide) dX9_leaf_52 h14 ?_
          refine g_iload_n B 1 dX9_leaf_55 rfl rfl ?_
          replace h := bnP_s h
          obtain ⟨x15, h16, h⟩ := h
          refine g_callVs0 (st := []) B (cX4_stateOfc h16) (Nat.le_of_ble_eq_true rfl) rfl rfl mi_X4_stateOf lk_RX9_257 ⟨Nat.le_of_ble_eq_true rfl, Nat.le_of_ble_eq_true rfl⟩ rfl rfl (Nat.le_of_ble_eq_true rfl) dX9_leaf_56 (Nat.zero_le _) (Nat.zero_le _) ?_
          replace h := Option.some.inj h
          subst h
          exact g_iret B hE (Nat.zero_le _) (Nat.zero_le _) dX9_leaf_59
        replace h := ifn n0 h
        by_cases n1 : v2 = 1
        · replace h := ifp n1 h
          rw [n1]
          refine g_tableIn B 60 dX9_leaf_15 (by decide) (by decide) rfl (by decide) ?_
          refine g_aload_n B 0 dX9_leaf_60 rfl rfl ?_
          replace h := bnP_s h
          obtain ⟨x17, h18, h⟩ := h
          refine g_getR B fl_RX9_20 (by decide) dX9_leaf_61 h18 ?_
          refine g_iload_n B 1 dX9_leaf_64 rfl rfl ?_
          replace h := bnP_s h
          obtain ⟨x19, h20, h⟩ := h
          refine g_callVs0 (st := []) B (cX1_wordsOnc h20) (Nat.le_of_ble_eq_true rfl) rfl rfl mi_X1_wordsOn lk_RX9_260 ⟨Nat.le_of_ble_eq_true rfl, Nat.le_of_ble_eq_true rfl⟩ rfl rfl (Nat.le_of_ble_eq_true rfl) dX9_leaf_65 (Nat.zero_le _) (Nat.zero_le _) ?_
          replace h := Option.some.inj h
          subst h
          exact g_iret B hE (Nat.zero_le _) (Nat.zero_le _) dX9_leaf_68
        replace h := ifn n1 h
        by_cases n2 : v2 = 2
        · replace h := ifp n2 h
          rw [n2]
          refine g_tableIn B 69 dX9_leaf_15 (by decide) (by decide) rfl (by decide) ?_
          refine g_aload_n B 0 dX9_leaf_69 rfl rfl ?_
          replace h := bnP_s h
          obtain ⟨x21, h22, h⟩ := h
          refine g_getR B fl_RX9_20 (by decide) dX9_leaf_70 h22 ?_
          refine g_iload_n B 1 dX9_leaf_73 rfl rfl ?_
          replace h := bnP_s h
          obtain ⟨x23, h24, h⟩ := h
          refine g_callVs0 (st := []) B (cX1_actsOnc h24) (Nat.le_of_ble_eq_true rfl) rfl rfl mi_X1_actsOn lk_RX9_263 ⟨Nat.le_of_ble_eq_true rfl, Nat.le_of_ble_eq_true rfl⟩ rfl rfl (Nat.le_of_ble_eq_true rfl) dX9_leaf_74 (Nat.zero_le _) (Nat.zero_le _) ?_
          replace h := Option.some.inj h
          subst h
          exact g_iret B hE (Nat.zero_le _) (Nat.zero_le _) dX9_leaf_77
        replace h := ifn n2 h
        by_cases n3 : v2 = 3
        · replace h := ifp n3 h
          rw [n3]
          refine g_tableIn B 78 dX9_leaf_15 (by decide) (by decide) rfl (by decide) ?_
          refine g_aload_n B 0 dX9_leaf_78 rfl rfl ?_
          replace h := bnP_s h
          obtain ⟨x25, h26, h⟩ := h
          refine g_getR B fl_RX9_20 (by decide) dX9_leaf_79 h26 ?_
          replace h := bnP_s h
          obtain ⟨x27, h28, h⟩ := h
          refine g_getRg B fl_RX9_108 (by decide) dX9_leaf_82 h28 ?_
          refine g_iload_n B 1 dX9_leaf_85 rfl rfl ?_
          replace h := bnP_s h
          obtain ⟨x29, h30, h⟩ := h
          refine g_callVs0 (st := []) B (cX4_mateOfc h30) (Nat.le_of_ble_eq_true rfl) rfl rfl mi_X4_mateOf lk_RX9_266 ⟨Nat.le_of_ble_eq_true rfl, Nat.le_of_ble_eq_true rfl⟩ rfl rfl (Nat.le_of_ble_eq_true rfl) dX9_leaf_86 (Nat.zero_le _) (Nat.zero_le _) ?_
          replace h := Option.some.inj h
          subst h
          exact g_iret B hE (Nat.zero_le _) (Nat.zero_le _) dX9_leaf_89
        replace h := ifn n3 h
        by_cases n4 : v2 = 4
        · replace h := ifp n4 h
          rw [n4]
          refine g_tableIn B 90 dX9_leaf_15 (by decide) (by decide) rfl (by decide) ?_
          refine g_aload_n B 0 dX9_leaf_90 rfl rfl ?_
          replace h := bnP_s h
          obtain ⟨x31, h32, h⟩ := h
          refine g_getR B fl_RX9_20 (by decide) dX9_leaf_91 h32 ?_
          replace h := bnP_s h
          obtain ⟨x33, h34, h⟩ := h
          refine g_getRg B fl_RX9_108 (by decide) dX9_leaf_94 h34 ?_
          refine g_iload_n B 1 dX9_leaf_97 rfl rfl ?_
          replace h := bnP_s h
          obtain ⟨x35, h36, h⟩ := h
          refine g_callVs0 (st := []) B (cX4_gatheringOfc h36) (Nat.le_of_ble_eq_true rfl) rfl rfl mi_X4_gatheringOf lk_RX9_269 ⟨Nat.le_of_ble_eq_true rfl, Nat.le_of_ble_eq_true rfl⟩ rfl rfl (Nat.le_of_ble_eq_true rfl) dX9_leaf_98 (Nat.zero_le _) (Nat.zero_le _) ?_
          replace h := Option.some.inj h
          subst h
          exact g_iret B hE (Nat.zero_le _) (Nat.zero_le _) dX9_leaf_101
        replace h := ifn n4 h
        have mn0 := tne n0 (k := 0) (by decide)
        have mn1 := tne n1 (k := 1) (by decide)
        have mn2 := tne n2 (k := 2) (by decide)
        have mn3 := tne n3 (k := 3) (by decide)
        have mn4 := tne n4 (k := 4) (by decide)
        refine g_tableOut B 102 dX9_leaf_15 (by omega) (by decide) ?_
        refine g_aload_n B 0 dX9_leaf_102 rfl rfl ?_
        replace h := bnP_s h
        obtain ⟨x7, h8, h⟩ := h
        refine g_getR B fl_RX9_20 (by decide) dX9_leaf_103 h8 ?_
        refine g_iload_n B 1 dX9_leaf_106 rfl rfl ?_
        replace h := bnP_s h
        obtain ⟨x9, h10, h⟩ := h
        refine g_callVs0 (st := []) B (cX1_firstActOnc h10) (Nat.le_of_ble_eq_true rfl) rfl rfl mi_X1_firstActOn lk_RX9_272 ⟨Nat.le_of_ble_eq_true rfl, Nat.le_of_ble_eq_true rfl⟩ rfl rfl (Nat.le_of_ble_eq_true rfl) dX9_leaf_107 (Nat.zero_le _) (Nat.zero_le _) ?_
        replace h := Option.some.inj h
        subst h
        exact g_iret B hE (Nat.zero_le _) (Nat.zero_le _) dX9_leaf_110
set_option maxRecDepth 100000 in
set_option maxHeartbeats 4000000 in
theorem cX9_requireCopyc {l : Launch} {v0 : Option Nat} {v1 : Int32} {σ : HpT} {o : Except Nat (Option Nat)} (h : fX9_requireCopy v0 v1 σ = some o) : IsK σ v0 9 ∧ Ct l yX9_requireCopy cX9_requireCopy 2 (some (.object "NotaryBook$Copy")) 6 90 [va_rf v0, .int v1] σ (oA o) σ (xc o) (xs o) := by
  unfold fX9_requireCopy at h
  replace h := bnP_s h
  obtain ⟨u, hk, h⟩ := h
  replace hk := isK_s hk
  refine ⟨hk, ?_⟩
  refine ct_start mi_X9_requireCopy.1 rfl (al_le (al_1 (rf_cat _) (al_1 rfl al_n)) (Nat.le_of_ble_eq_true rfl)) (ag_1 (rf_cat _) (ag_1 rfl ag_n)) (fun Δ Γ B hE hnm => ?_)
  refine g_iload_n B 1 dX9_requireCopy_0 rfl rfl ?_
  refine g_if_lt B 15 dX9_requireCopy_1 (by decide) (fun hc => ?_) (fun hc => ?_)
  · replace h := ifp hc h
    replace h := Option.some.inj h
    subst h
    exact g_throwW B tw_RX9_238_242 (j := 22) rfl hE (by decide) (Nat.le_of_ble_eq_true rfl) dX9_requireCopy_15 dX9_requireCopy_18 dX9_requireCopy_19 dX9_requireCopy_22 dX9_requireCopy_25 (Nat.le_refl 1) (Nat.le_refl 6)
  · replace h := ifn hc h
    refine g_iload_n B 1 dX9_requireCopy_4 rfl rfl ?_
    refine g_aload_n B 0 dX9_requireCopy_5 rfl rfl ?_
    replace h := bnP_s h
    obtain ⟨x1, h2, h⟩ := h
    refine g_getR B fl_RX9_20 (by decide) dX9_requireCopy_6 h2 ?_
    replace h := bnP_s h
    obtain ⟨x3, h4, h⟩ := h
    refine g_getI B fl_RX9_128 (by decide) dX9_requireCopy_9 h4 ?_
    refine g_icmp_lt B 26 dX9_requireCopy_12 (by decide) (fun hc => ?_) (fun hc => ?_)
    · replace h := ifp hc h
      refine g_aload_n B 0 dX9_requireCopy_26 rfl rfl ?_
      replace h := bnP_s h
      obtain ⟨x5, h6, h⟩ := h
      refine g_getR B fl_RX9_20 (by decide) dX9_requireCopy_27 h6 ?_
      replace h := bnP_s h
      obtain ⟨x7, h8, h⟩ := h
      refine g_getRg B fl_RX9_530 (by decide) dX9_requireCopy_30 h8 ?_
      refine g_iload_n B 1 dX9_requireCopy_33 rfl rfl ?_
      replace h := bnP_s h
      obtain ⟨x9, h10, h⟩ := h
      refine g_ralds B (κ := 26) (by decide) rfl dX9_requireCopy_34 h10 ?_
      replace h := Option.some.inj h
      subst h
      exact g_aret B hE (Or.inl ⟨_, rfl⟩) (Nat.zero_le _) (Nat.zero_le _) dX9_requireCopy_35
    · replace h := ifn hc h
      replace h := Option.some.inj h
      subst h
      exact g_throwW B tw_RX9_238_242 (j := 22) rfl hE (by decide) (Nat.le_of_ble_eq_true rfl) dX9_requireCopy_15 dX9_requireCopy_18 dX9_requireCopy_19 dX9_requireCopy_22 dX9_requireCopy_25 (Nat.le_refl 1) (Nat.le_refl 6)
set_option maxRecDepth 100000 in
set_option maxHeartbeats 4000000 in
theorem cX9_copyc {l : Launch} {v0 : Option Nat} {v1 : Int32} {v2 : Int32} {σ : HpT} {o : Except Nat (Int32)} (h : fX9_copy v0 v1 v2 σ = some o) : IsK σ v0 9 ∧ Ct l yX9_copy cX9_copy 4 (some .int) 7 111 [va_rf v0, .int v1, .int v2] σ (oI o) σ (xc o) (xs o) := by
  unfold fX9_copy at h
  replace h := bnP_s h
  obtain ⟨u, hk, h⟩ := h
  replace hk := isK_s hk
  refine ⟨hk, ?_⟩
  refine ct_start mi_X9_copy.1 rfl (al_le (al_1 (rf_cat _) (al_1 rfl (al_1 rfl al_n))) (Nat.le_of_ble_eq_true rfl)) (ag_1 (rf_cat _) (ag_1 rfl (ag_1 rfl ag_n))) (fun Δ Γ B hE hnm => ?_)
  refine g_aload_n B 0 dX9_copy_0 rfl rfl ?_
  replace h := bnX_s h
  rcases h with ⟨e9, h2, e8⟩ | ⟨x1, h2, h⟩
  · subst e8
    exact g_callVx (st := []) B (cX9_requireBookc (o := .error e9) h2) (Nat.le_of_ble_eq_true rfl) rfl rfl mi_X9_requireBook lk_RX9_95 ⟨Nat.le_of_ble_eq_true rfl, Nat.le_of_ble_eq_true rfl⟩ rfl rfl (Nat.le_of_ble_eq_true rfl) dX9_copy_1 (Nat.le_of_eq rfl) (Nat.le_of_eq rfl) hE
  · skip
    refine g_callVv0 (st := []) B (cX9_requireBookc (o := .ok x1) h2) (Nat.le_of_ble_eq_true rfl) rfl rfl mi_X9_requireBook lk_RX9_95 ⟨Nat.le_of_ble_eq_true rfl, Nat.le_of_ble_eq_true rfl⟩ rfl rfl (Nat.le_of_ble_eq_true rfl) dX9_copy_1 (Nat.zero_le _) (Nat.zero_le _) ?_
    refine g_aload_n B 0 dX9_copy_4 rfl rfl ?_
    refine g_iload_n B 1 dX9_copy_5 rfl rfl ?_
    replace h := bnX_s h
    rcases h with ⟨e9, h4, e8⟩ | ⟨x3, h4, h⟩
    · subst e8
      exact g_callVx (st := []) B (cX9_requireCopyc (o := .error e9) h4) (Nat.le_of_ble_eq_true rfl) rfl rfl mi_X9_requireCopy lk_RX9_275 ⟨Nat.le_of_ble_eq_true rfl, Nat.le_of_ble_eq_true rfl⟩ rfl rfl (Nat.le_of_ble_eq_true rfl) dX9_copy_6 (Nat.le_of_eq rfl) (Nat.le_of_eq rfl) hE
    · skip
      refine g_callVs0 (st := []) B (cX9_requireCopyc (o := .ok x3) h4) (Nat.le_of_ble_eq_true rfl) rfl rfl mi_X9_requireCopy lk_RX9_275 ⟨Nat.le_of_ble_eq_true rfl, Nat.le_of_ble_eq_true rfl⟩ rfl rfl (Nat.le_of_ble_eq_true rfl) dX9_copy_6 (Nat.zero_le _) (Nat.zero_le _) ?_
      refine g_astore_n B dX9_copy_9 rfl (Nat.le_of_ble_eq_true rfl) (s1_c (f1_k rfl (f1_k rfl (f1_1 rfl rfl f1_n)))) ?_
      refine g_iload_n B 3 dX9_copy_10 rfl rfl ?_
      refine g_iconst (v := 4) B dX9_copy_11 (by decide) ?_
      replace h := bnX_s h
      rcases h with ⟨e9, h6, e8⟩ | ⟨x5, h6, h⟩
      · subst e8
        exact g_callSx (st := []) B (cX9_requireUpToc (o := .error e9) h6) mi_X9_requireUpTo lk_RX9_98 ⟨Nat.le_of_ble_eq_true rfl, Nat.le_of_ble_eq_true rfl⟩ rfl rfl (Nat.le_of_ble_eq_true rfl) dX9_copy_12 (Nat.le_of_eq rfl) (Nat.le_of_eq rfl) hE
      · skip
        refine g_callSv0 (st := []) B (cX9_requireUpToc (o := .ok x5) h6) mi_X9_requireUpTo lk_RX9_98 ⟨Nat.le_of_ble_eq_true rfl, Nat.le_of_ble_eq_true rfl⟩ rfl rfl (Nat.le_of_ble_eq_true rfl) dX9_copy_12 (Nat.zero_le _) (Nat.zero_le _) ?_
        refine g_iload_n B 3 dX9_copy_15 rfl rfl ?_
        by_cases n0 : v2 = 0
        · replace h := ifp n0 h
          rw [n0]
          refine g_tableIn B 48 dX9_copy_16 (by decide) (by decide) rfl (by decide) ?_
          refine g_aload_n B 0 dX9_copy_48 rfl rfl ?_
          replace h := bnP_s h
          obtain ⟨x11, h12, h⟩ := h
          refine g_getI B fl_RX9_279 (by decide) dX9_copy_49 h12 ?_
          replace h := Option.some.inj h
          subst h
          exact g_iret B hE (Nat.zero_le _) (Nat.zero_le _) dX9_copy_52
        replace h := ifn n0 h
        by_cases n1 : v2 = 1
        · replace h := ifp n1 h
          rw [n1]
          refine g_tableIn B 53 dX9_copy_16 (by decide) (by decide) rfl (by decide) ?_
          refine g_aload_n B 0 dX9_copy_53 rfl rfl ?_
          replace h := bnP_s h
          obtain ⟨x13, h14, h⟩ := h
          refine g_getI B fl_RX9_284 (by decide) dX9_copy_54 h14 ?_
          replace h := Option.some.inj h
          subst h
          exact g_iret B hE (Nat.zero_le _) (Nat.zero_le _) dX9_copy_57
        replace h := ifn n1 h
        by_cases n2 : v2 = 2
        · replace h := ifp n2 h
          rw [n2]
          refine g_tableIn B 58 dX9_copy_16 (by decide) (by decide) rfl (by decide) ?_
          refine g_aload_n B 0 dX9_copy_58 rfl rfl ?_
          replace h := bnP_s h
          obtain ⟨x15, h16, h⟩ := h
          refine g_getI B fl_RX9_287 (by decide) dX9_copy_59 h16 ?_
          replace h := Option.some.inj h
          subst h
          exact g_iret B hE (Nat.zero_le _) (Nat.zero_le _) dX9_copy_62
        replace h := ifn n2 h
        by_cases n3 : v2 = 3
        · replace h := ifp n3 h
          rw [n3]
          refine g_tableIn B 63 dX9_copy_16 (by decide) (by decide) rfl (by decide) ?_
          refine g_aload_n B 0 dX9_copy_63 rfl rfl ?_
          replace h := bnP_s h
          obtain ⟨x17, h18, h⟩ := h
          refine g_callVs0 (st := []) B (cX3_feec h18) (Nat.le_of_ble_eq_true rfl) rfl rfl mi_X3_fee lk_RX9_288 ⟨Nat.le_of_ble_eq_true rfl, Nat.le_of_ble_eq_true rfl⟩ rfl rfl (Nat.le_of_ble_eq_true rfl) dX9_copy_64 (Nat.zero_le _) (Nat.zero_le _) ?_
          replace h := Option.some.inj h
          subst h
          exact g_iret B hE (Nat.zero_le _) (Nat.zero_le _) dX9_copy_67
        replace h := ifn n3 h
        have mn0 := tne n0 (k := 0) (by decide)
        have mn1 := tne n1 (k := 1) (by decide)
        have mn2 := tne n2 (k := 2) (by decide)
        have mn3 := tne n3 (k := 3) (by decide)
        refine g_tableOut B 68 dX9_copy_16 (by omega) (by decide) ?_
        refine g_aload_n B 1 dX9_copy_68 rfl rfl ?_
        replace h := bnP_s h
        obtain ⟨x7, h8, h⟩ := h
        refine g_getR B fl_RX9_20 (by decide) dX9_copy_69 h8 ?_
        refine g_aload_n B 0 dX9_copy_72 rfl rfl ?_
        replace h := bnP_s h
        obtain ⟨x9, h10, h⟩ := h
        refine g_callVs0 (st := []) B (cX1_knownByAlonec h10) (Nat.le_of_ble_eq_true rfl) rfl rfl mi_X1_knownByAlone lk_RX9_290 ⟨Nat.le_of_ble_eq_true rfl, Nat.le_of_ble_eq_true rfl⟩ rfl rfl (Nat.le_of_ble_eq_true rfl) dX9_copy_73 (Nat.zero_le _) (Nat.zero_le _) ?_
        replace h := Option.some.inj h
        subst h
        exact g_iret B hE (Nat.zero_le _) (Nat.zero_le _) dX9_copy_76
set_option maxRecDepth 100000 in
set_option maxHeartbeats 4000000 in
theorem cX9_hasc {l : Launch} {v0 : Option Nat} {v1 : Int32} {v2 : Int32} {σ : HpT} {o : Except Nat (Bool)} (h : fX9_has v0 v1 v2 σ = some o) : IsK σ v0 9 ∧ Ct l yX9_has cX9_has 5 (some .boolean) 7 111 [va_rf v0, .int v1, .int v2] σ (oB o) σ (xc o) (xs o) := by
  unfold fX9_has at h
  replace h := bnP_s h
  obtain ⟨u, hk, h⟩ := h
  replace hk := isK_s hk
  refine ⟨hk, ?_⟩
  refine ct_start mi_X9_has.1 rfl (al_le (al_1 (rf_cat _) (al_1 rfl (al_1 rfl al_n))) (Nat.le_of_ble_eq_true rfl)) (ag_1 (rf_cat _) (ag_1 rfl (ag_1 rfl ag_n))) (fun Δ Γ B hE hnm => ?_)
  refine g_aload_n B 0 dX9_has_0 rfl rfl ?_
  replace h := bnX_s h
  rcases h with ⟨e9, h2, e8⟩ | ⟨x1, h2, h⟩
  · subst e8
    exact g_callVx (st := []) B (cX9_requireBookc (o := .error e9) h2) (Nat.le_of_ble_eq_true rfl) rfl rfl mi_X9_requireBook lk_RX9_95 ⟨Nat.le_of_ble_eq_true rfl, Nat.le_of_ble_eq_true rfl⟩ rfl rfl (Nat.le_of_ble_eq_true rfl) dX9_has_1 (Nat.le_of_eq rfl) (Nat.le_of_eq rfl) hE
  · skip
    refine g_callVv0 (st := []) B (cX9_requireBookc (o := .ok x1) h2) (Nat.le_of_ble_eq_true rfl) rfl rfl mi_X9_requireBook lk_RX9_95 ⟨Nat.le_of_ble_eq_true rfl, Nat.le_of_ble_eq_true rfl⟩ rfl rfl (Nat.le_of_ble_eq_true rfl) dX9_has_1 (Nat.zero_le _) (Nat.zero_le _) ?_
    refine g_aload_n B 0 dX9_has_4 rfl rfl ?_
    refine g_iload_n B 1 dX9_has_5 rfl rfl ?_
    replace h := bnX_s h
    rcases h with ⟨e9, h4, e8⟩ | ⟨x3, h4, h⟩
    · subst e8
      exact g_callVx (st := []) B (cX9_requireCopyc (o := .error e9) h4) (Nat.le_of_ble_eq_true rfl) rfl rfl mi_X9_requireCopy lk_RX9_275 ⟨Nat.le_of_ble_eq_true rfl, Nat.le_of_ble_eq_true rfl⟩ rfl rfl (Nat.le_of_ble_eq_true rfl) dX9_has_6 (Nat.le_of_eq rfl) (Nat.le_of_eq rfl) hE
    · skip
      refine g_callVs0 (st := []) B (cX9_requireCopyc (o := .ok x3) h4) (Nat.le_of_ble_eq_true rfl) rfl rfl mi_X9_requireCopy lk_RX9_275 ⟨Nat.le_of_ble_eq_true rfl, Nat.le_of_ble_eq_true rfl⟩ rfl rfl (Nat.le_of_ble_eq_true rfl) dX9_has_6 (Nat.zero_le _) (Nat.zero_le _) ?_
      refine g_astore_n B dX9_has_9 rfl (Nat.le_of_ble_eq_true rfl) (s1_c (f1_k rfl (f1_k rfl (f1_1 rfl rfl f1_n)))) ?_
      refine g_aload_n B 1 dX9_has_10 rfl rfl ?_
      refine g_aload_n B 0 dX9_has_11 rfl rfl ?_
      replace h := bnP_s h
      obtain ⟨x5, h6, h⟩ := h
      refine g_getI B fl_RX9_279 (by decide) dX9_has_12 h6 ?_
      replace h := bnX_s h
      rcases h with ⟨e9, h8, e8⟩ | ⟨x7, h8, h⟩
      · subst e8
        exact g_callVx (st := []) B (cX9_requireActc (o := .error e9) h8) (Nat.le_of_ble_eq_true rfl) rfl rfl mi_X9_requireAct lk_RX9_153 ⟨Nat.le_of_ble_eq_true rfl, Nat.le_of_ble_eq_true rfl⟩ rfl rfl (Nat.le_of_ble_eq_true rfl) dX9_has_15 (Nat.le_of_eq rfl) (Nat.le_of_eq rfl) hE
      · skip
        refine g_callVs0 (st := []) B (cX9_requireActc (o := .ok x7) h8) (Nat.le_of_ble_eq_true rfl) rfl rfl mi_X9_requireAct lk_RX9_153 ⟨Nat.le_of_ble_eq_true rfl, Nat.le_of_ble_eq_true rfl⟩ rfl rfl (Nat.le_of_ble_eq_true rfl) dX9_has_15 (Nat.zero_le _) (Nat.zero_le _) ?_
        refine g_iload_n B 3 dX9_has_18 rfl rfl ?_
        replace h := bnX_s h
        rcases h with ⟨e9, h10, e8⟩ | ⟨x9, h10, h⟩
        · subst e8
          exact g_callSx (st := []) B (cX9_requireWordc (o := .error e9) h10) mi_X9_requireWord lk_RX9_188 ⟨Nat.le_of_ble_eq_true rfl, Nat.le_of_ble_eq_true rfl⟩ rfl rfl (Nat.le_of_ble_eq_true rfl) dX9_has_19 (Nat.le_of_eq rfl) (Nat.le_of_eq rfl) hE
        · skip
          refine g_callSs0 (st := []) B (cX9_requireWordc (o := .ok x9) h10) mi_X9_requireWord lk_RX9_188 ⟨Nat.le_of_ble_eq_true rfl, Nat.le_of_ble_eq_true rfl⟩ rfl rfl (Nat.le_of_ble_eq_true rfl) dX9_has_19 (Nat.zero_le _) (Nat.zero_le _) ?_
          refine g_istore B dX9_has_22 (Nat.le_of_ble_eq_true rfl) (s1_c (f1_1 rfl (rf_cat _) (f1_k rfl (f1_k rfl (f1_k rfl f1_n))))) ?_
          refine g_aload_n B 1 dX9_has_24 rfl rfl ?_
          refine g_aload_n B 2 dX9_has_25 rfl rfl ?_
          replace h := bnP_s h
          obtain ⟨x11, h12, h⟩ := h
          refine g_getR B fl_RX9_20 (by decide) dX9_has_26 h12 ?_
          replace h := bnP_s h
          obtain ⟨x13, h14, h⟩ := h
          refine g_getRg B fl_RX9_114 (by decide) dX9_has_29 h14 ?_
          refine g_iload B 0 dX9_has_32 rfl ?_
          replace h := bnP_s h
          obtain ⟨x15, h16, h⟩ := h
          refine g_callVs0 (st := []) B (cX3_holdsc h16) (Nat.le_of_ble_eq_true rfl) rfl rfl mi_X3_holds lk_RX9_294 ⟨Nat.le_of_ble_eq_true rfl, Nat.le_of_ble_eq_true rfl⟩ rfl rfl (Nat.le_of_ble_eq_true rfl) dX9_has_34 (Nat.zero_le _) (Nat.zero_le _) ?_
          replace h := Option.some.inj h
          subst h
          exact g_zret B hE (nar_bI _) (Nat.zero_le _) (Nat.zero_le _) dX9_has_37
set_option maxRecDepth 100000 in
set_option maxHeartbeats 4000000 in
theorem cX9_gapc {l : Launch} {v0 : Option Nat} {σ : HpT} {o : Except Nat (Int32)} (h : fX9_gap v0 σ = some o) : IsK σ v0 9 ∧ Ct l yX9_gap cX9_gap 1 (some .int) 7 110 [va_rf v0] σ (oI o) σ (xc o) (xs o) := by
  unfold fX9_gap at h
  replace h := bnP_s h
  obtain ⟨u, hk, h⟩ := h
  replace hk := isK_s hk
  refine ⟨hk, ?_⟩
  refine ct_start mi_X9_gap.1 rfl (al_le (al_1 (rf_cat _) al_n) (Nat.le_of_ble_eq_true rfl)) (ag_1 (rf_cat _) ag_n) (fun Δ Γ B hE hnm => ?_)
  refine g_aload_n B 0 dX9_gap_0 rfl rfl ?_
  replace h := bnX_s h
  rcases h with ⟨e9, h2, e8⟩ | ⟨x1, h2, h⟩
  · subst e8
    exact g_callVx (st := []) B (cX9_requireBookc (o := .error e9) h2) (Nat.le_of_ble_eq_true rfl) rfl rfl mi_X9_requireBook lk_RX9_95 ⟨Nat.le_of_ble_eq_true rfl, Nat.le_of_ble_eq_true rfl⟩ rfl rfl (Nat.le_of_ble_eq_true rfl) dX9_gap_1 (Nat.le_of_eq rfl) (Nat.le_of_eq rfl) hE
  · skip
    refine g_callVv0 (st := []) B (cX9_requireBookc (o := .ok x1) h2) (Nat.le_of_ble_eq_true rfl) rfl rfl mi_X9_requireBook lk_RX9_95 ⟨Nat.le_of_ble_eq_true rfl, Nat.le_of_ble_eq_true rfl⟩ rfl rfl (Nat.le_of_ble_eq_true rfl) dX9_gap_1 (Nat.zero_le _) (Nat.zero_le _) ?_
    refine g_aload_n B 0 dX9_gap_4 rfl rfl ?_
    replace h := bnP_s h
    obtain ⟨x3, h4, h⟩ := h
    refine g_getR B fl_RX9_20 (by decide) dX9_gap_5 h4 ?_
    replace h := bnP_s h
    obtain ⟨x5, h6, h⟩ := h
    refine g_callVs0 (st := []) B (cX1_wordsGapc h6) (Nat.le_of_ble_eq_true rfl) rfl rfl mi_X1_wordsGap lk_RX9_298 ⟨Nat.le_of_ble_eq_true rfl, Nat.le_of_ble_eq_true rfl⟩ rfl rfl (Nat.le_of_ble_eq_true rfl) dX9_gap_8 (Nat.zero_le _) (Nat.zero_le _) ?_
    refine g_aload_n B 0 dX9_gap_11 rfl rfl ?_
    replace h := bnP_s h
    obtain ⟨x7, h8, h⟩ := h
    refine g_getR B fl_RX9_20 (by decide) dX9_gap_12 h8 ?_
    replace h := bnP_s h
    obtain ⟨x9, h10, h⟩ := h
    refine g_callVs0 (st := [.int x5]) B (cX1_standingGapc h10) (Nat.le_of_ble_eq_true rfl) rfl rfl mi_X1_standingGap lk_RX9_301 ⟨Nat.le_of_ble_eq_true rfl, Nat.le_of_ble_eq_true rfl⟩ rfl rfl (Nat.le_of_ble_eq_true rfl) dX9_gap_15 (Nat.zero_le _) (Nat.zero_le _) ?_
    refine g_iadd B dX9_gap_18 ?_
    refine g_aload_n B 0 dX9_gap_19 rfl rfl ?_
    replace h := bnP_s h
    obtain ⟨x11, h12, h⟩ := h
    refine g_getR B fl_RX9_20 (by decide) dX9_gap_20 h12 ?_
    replace h := bnP_s h
    obtain ⟨x13, h14, h⟩ := h
    refine g_callVs0 (st := [.int (x5 + x9)]) B (cX1_cashGapc h14) (Nat.le_of_ble_eq_true rfl) rfl rfl mi_X1_cashGap lk_RX9_304 ⟨Nat.le_of_ble_eq_true rfl, Nat.le_of_ble_eq_true rfl⟩ rfl rfl (Nat.le_of_ble_eq_true rfl) dX9_gap_23 (Nat.zero_le _) (Nat.zero_le _) ?_
    refine g_iadd B dX9_gap_26 ?_
    refine g_aload_n B 0 dX9_gap_27 rfl rfl ?_
    replace h := bnP_s h
    obtain ⟨x15, h16, h⟩ := h
    refine g_getR B fl_RX9_20 (by decide) dX9_gap_28 h16 ?_
    replace h := bnP_s h
    obtain ⟨x17, h18, h⟩ := h
    refine g_callVs0 (st := [.int ((x5 + x9) + x13)]) B (cX1_numbersGapc h18) (Nat.le_of_ble_eq_true rfl) rfl rfl mi_X1_numbersGap lk_RX9_307 ⟨Nat.le_of_ble_eq_true rfl, Nat.le_of_ble_eq_true rfl⟩ rfl rfl (Nat.le_of_ble_eq_true rfl) dX9_gap_31 (Nat.zero_le _) (Nat.zero_le _) ?_
    refine g_iadd B dX9_gap_34 ?_
    replace h := Option.some.inj h
    subst h
    exact g_iret B hE (Nat.zero_le _) (Nat.zero_le _) dX9_gap_35
set_option maxRecDepth 100000 in
set_option maxHeartbeats 4000000 in
theorem cX9_whyNotSealc {l : Launch} {v0 : Option Nat} {v1 : Int32} {v2 : Int32} {σ : HpT} {o : Except Nat (Int32)} (h : fX9_whyNotSeal v0 v1 v2 σ = some o) : IsK σ v0 9 ∧ Ct l yX9_whyNotSeal cX9_whyNotSeal 3 (some .int) 7 111 [va_rf v0, .int v1, .int v2] σ (oI o) σ (xc o) (xs o) := by
  unfold fX9_whyNotSeal at h
  replace h := bnP_s h
  obtain ⟨u, hk, h⟩ := h
  replace hk := isK_s hk
  refine ⟨hk, ?_⟩
  refine ct_start mi_X9_whyNotSeal.1 rfl (al_le (al_1 (rf_cat _) (al_1 rfl (al_1 rfl al_n))) (Nat.le_of_ble_eq_true rfl)) (ag_1 (rf_cat _) (ag_1 rfl (ag_1 rfl ag_n))) (fun Δ Γ B hE hnm => ?_)
  refine g_aload_n B 0 dX9_whyNotSeal_0 rfl rfl ?_
  replace h := bnX_s h
  rcases h with ⟨e9, h2, e8⟩ | ⟨x1, h2, h⟩
  · subst e8
    exact g_callVx (st := []) B (cX9_requireBookc (o := .error e9) h2) (Nat.le_of_ble_eq_true rfl) rfl rfl mi_X9_requireBook lk_RX9_95 ⟨Nat.le_of_ble_eq_true rfl, Nat.le_of_ble_eq_true rfl⟩ rfl rfl (Nat.le_of_ble_eq_true rfl) dX9_whyNotSeal_1 (Nat.le_of_eq rfl) (Nat.le_of_eq rfl) hE
  · skip
    refine g_callVv0 (st := []) B (cX9_requireBookc (o := .ok x1) h2) (Nat.le_of_ble_eq_true rfl) rfl rfl mi_X9_requireBook lk_RX9_95 ⟨Nat.le_of_ble_eq_true rfl, Nat.le_of_ble_eq_true rfl⟩ rfl rfl (Nat.le_of_ble_eq_true rfl) dX9_whyNotSeal_1 (Nat.zero_le _) (Nat.zero_le _) ?_
    refine g_iload_n B 1 dX9_whyNotSeal_4 rfl rfl ?_
    refine g_bipush (v := 9) B dX9_whyNotSeal_5 (by decide) ?_
    replace h := bnX_s h
    rcases h with ⟨e9, h4, e8⟩ | ⟨x3, h4, h⟩
    · subst e8
      exact g_callSx (st := []) B (cX9_requireUpToc (o := .error e9) h4) mi_X9_requireUpTo lk_RX9_98 ⟨Nat.le_of_ble_eq_true rfl, Nat.le_of_ble_eq_true rfl⟩ rfl rfl (Nat.le_of_ble_eq_true rfl) dX9_whyNotSeal_7 (Nat.le_of_eq rfl) (Nat.le_of_eq rfl) hE
    · skip
      refine g_callSv0 (st := []) B (cX9_requireUpToc (o := .ok x3) h4) mi_X9_requireUpTo lk_RX9_98 ⟨Nat.le_of_ble_eq_true rfl, Nat.le_of_ble_eq_true rfl⟩ rfl rfl (Nat.le_of_ble_eq_true rfl) dX9_whyNotSeal_7 (Nat.zero_le _) (Nat.zero_le _) ?_
      refine g_iload_n B 2 dX9_whyNotSeal_10 rfl rfl ?_
      refine g_bipush (v := 99) B dX9_whyNotSeal_11 (by decide) ?_
      replace h := bnX_s h
      rcases h with ⟨e9, h6, e8⟩ | ⟨x5, h6, h⟩
      · subst e8
        exact g_callSx (st := []) B (cX9_requireUpToc (o := .error e9) h6) mi_X9_requireUpTo lk_RX9_98 ⟨Nat.le_of_ble_eq_true rfl, Nat.le_of_ble_eq_true rfl⟩ rfl rfl (Nat.le_of_ble_eq_true rfl) dX9_whyNotSeal_13 (Nat.le_of_eq rfl) (Nat.le_of_eq rfl) hE
      · skip
        refine g_callSv0 (st := []) B (cX9_requireUpToc (o := .ok x5) h6) mi_X9_requireUpTo lk_RX9_98 ⟨Nat.le_of_ble_eq_true rfl, Nat.le_of_ble_eq_true rfl⟩ rfl rfl (Nat.le_of_ble_eq_true rfl) dX9_whyNotSeal_13 (Nat.zero_le _) (Nat.zero_le _) ?_
        refine g_aload_n B 0 dX9_whyNotSeal_16 rfl rfl ?_
        replace h := bnP_s h
        obtain ⟨x7, h8, h⟩ := h
        refine g_getR B fl_RX9_20 (by decide) dX9_whyNotSeal_17 h8 ?_
        refine g_iload_n B 1 dX9_whyNotSeal_20 rfl rfl ?_
        refine g_iload_n B 2 dX9_whyNotSeal_21 rfl rfl ?_
        replace h := bnP_s h
        obtain ⟨x9, h10, h⟩ := h
        refine g_callVs0 (st := []) B (cX1_sealReasonc h10) (Nat.le_of_ble_eq_true rfl) rfl rfl mi_X1_sealReason lk_RX9_310 ⟨Nat.le_of_ble_eq_true rfl, Nat.le_of_ble_eq_true rfl⟩ rfl rfl (Nat.le_of_ble_eq_true rfl) dX9_whyNotSeal_22 (Nat.zero_le _) (Nat.zero_le _) ?_
        replace h := Option.some.inj h
        subst h
        exact g_iret B hE (Nat.zero_le _) (Nat.zero_le _) dX9_whyNotSeal_25
set_option maxRecDepth 100000 in
set_option maxHeartbeats 4000000 in
theorem cX9_whyNotCopyc {l : Launch} {v0 : Option Nat} {v1 : Int32} {v2 : Int32} {σ : HpT} {o : Except Nat (Int32)} {σ' : HpT} {a b : Nat} (h : fX9_whyNotCopy v0 v1 v2 σ = some (o, σ', a, b)) : IsK σ v0 9 ∧ Ct l yX9_whyNotCopy cX9_whyNotCopy 3 (some .int) 7 111 [va_rf v0, .int v1, .int v2] σ (oI o) σ' a b := by
  unfold fX9_whyNotCopy at h
  replace h := bnP_s h
  obtain ⟨u, hk, h⟩ := h
  replace hk := isK_s hk
  refine ⟨hk, ?_⟩
  refine ct_start mi_X9_whyNotCopy.1 rfl (al_le (al_1 (rf_cat _) (al_1 rfl (al_1 rfl al_n))) (Nat.le_of_ble_eq_true rfl)) (ag_1 (rf_cat _) (ag_1 rfl (ag_1 rfl ag_n))) (fun Δ Γ B hE hnm => ?_)
  have hka : 0 + a = a := Nat.zero_add a
  have hkb : 0 + b = b := Nat.zero_add b
  have hla : a ≤ a := Nat.le_refl a
  have hlb : b ≤ b := Nat.le_refl b
  refine g_aload_n B 0 dX9_whyNotCopy_0 rfl rfl ?_
  replace h := bnXA_s h
  rcases h with ⟨e9, h2, e8, e7, e6, e5⟩ | ⟨x1, h2, h⟩
  · subst e8; subst e7; subst e6; subst e5
    exact g_callVx (st := []) B (cX9_requireBookc (o := .error e9) h2) (Nat.le_of_ble_eq_true rfl) rfl rfl mi_X9_requireBook lk_RX9_95 ⟨Nat.le_of_ble_eq_true rfl, Nat.le_of_ble_eq_true rfl⟩ rfl rfl (Nat.le_of_ble_eq_true rfl) dX9_whyNotCopy_1 (Nat.le_trans (Nat.le_of_eq hka) hla) (Nat.le_trans (Nat.le_of_eq hkb) hlb) hE
  · skip
    refine g_callVv0 (st := []) B (cX9_requireBookc (o := .ok x1) h2) (Nat.le_of_ble_eq_true rfl) rfl rfl mi_X9_requireBook lk_RX9_95 ⟨Nat.le_of_ble_eq_true rfl, Nat.le_of_ble_eq_true rfl⟩ rfl rfl (Nat.le_of_ble_eq_true rfl) dX9_whyNotCopy_1 (Nat.le_trans (bm hka) hla) (Nat.le_trans (bm hkb) hlb) ?_
    refine g_aload_n B 0 dX9_whyNotCopy_4 rfl rfl ?_
    refine g_iload_n B 1 dX9_whyNotCopy_5 rfl rfl ?_
    replace h := bnXA_s h
    rcases h with ⟨e9, h4, e8, e7, e6, e5⟩ | ⟨x3, h4, h⟩
    · subst e8; subst e7; subst e6; subst e5
      exact g_callVx (st := []) B (cX9_requireActc (o := .error e9) h4) (Nat.le_of_ble_eq_true rfl) rfl rfl mi_X9_requireAct lk_RX9_153 ⟨Nat.le_of_ble_eq_true rfl, Nat.le_of_ble_eq_true rfl⟩ rfl rfl (Nat.le_of_ble_eq_true rfl) dX9_whyNotCopy_6 (Nat.le_trans (Nat.le_of_eq hka) hla) (Nat.le_trans (Nat.le_of_eq hkb) hlb) hE
    · skip
      refine g_callVs0 (st := []) B (cX9_requireActc (o := .ok x3) h4) (Nat.le_of_ble_eq_true rfl) rfl rfl mi_X9_requireAct lk_RX9_153 ⟨Nat.le_of_ble_eq_true rfl, Nat.le_of_ble_eq_true rfl⟩ rfl rfl (Nat.le_of_ble_eq_true rfl) dX9_whyNotCopy_6 (Nat.le_trans (bm hka) hla) (Nat.le_trans (bm hkb) hlb) ?_
      refine g_pop B dX9_whyNotCopy_9 (rf_cat _) ?_
      refine g_iload_n B 2 dX9_whyNotCopy_10 rfl rfl ?_
      refine g_iconst (v := 2) B dX9_whyNotCopy_11 (by decide) ?_
      replace h := bnXA_s h
      rcases h with ⟨e9, h6, e8, e7, e6, e5⟩ | ⟨x5, h6, h⟩
      · subst e8; subst e7; subst e6; subst e5
        exact g_callSx (st := []) B (cX9_requireUpToc (o := .error e9) h6) mi_X9_requireUpTo lk_RX9_98 ⟨Nat.le_of_ble_eq_true rfl, Nat.le_of_ble_eq_true rfl⟩ rfl rfl (Nat.le_of_ble_eq_true rfl) dX9_whyNotCopy_12 (Nat.le_trans (Nat.le_of_eq hka) hla) (Nat.le_trans (Nat.le_of_eq hkb) hlb) hE
      · skip
        refine g_callSv0 (st := []) B (cX9_requireUpToc (o := .ok x5) h6) mi_X9_requireUpTo lk_RX9_98 ⟨Nat.le_of_ble_eq_true rfl, Nat.le_of_ble_eq_true rfl⟩ rfl rfl (Nat.le_of_ble_eq_true rfl) dX9_whyNotCopy_12 (Nat.le_trans (bm hka) hla) (Nat.le_trans (bm hkb) hlb) ?_
        refine g_aload_n B 0 dX9_whyNotCopy_15 rfl rfl ?_
        replace h := bnP_s h
        obtain ⟨x7, h8, h⟩ := h
        refine g_getR B fl_RX9_20 (by decide) dX9_whyNotCopy_16 h8 ?_
        refine g_iload_n B 1 dX9_whyNotCopy_19 rfl rfl ?_
        refine g_iload_n B 2 dX9_whyNotCopy_20 rfl rfl ?_
        replace h := bnS_s h
        obtain ⟨x9, s11, h10, h⟩ := h
        refine g_callVs0 (st := []) B (cX1_copyReasonc h10) (Nat.le_of_ble_eq_true rfl) rfl rfl mi_X1_copyReason lk_RX9_313 ⟨Nat.le_of_ble_eq_true rfl, Nat.le_of_ble_eq_true rfl⟩ rfl rfl (Nat.le_of_ble_eq_true rfl) dX9_whyNotCopy_21 (Nat.le_trans (bm hka) hla) (Nat.le_trans (bm hkb) hlb) ?_
        obtain ⟨w1, w2, w3, w4⟩ := inA h
        clear h
        subst w1
        subst w2
        subst w3
        subst w4
        exact g_iret B hE (Nat.le_trans (Nat.le_of_eq hka) hla) (Nat.le_trans (Nat.le_of_eq hkb) hlb) dX9_whyNotCopy_24
set_option maxRecDepth 100000 in
set_option maxHeartbeats 4000000 in
theorem cX9_whyNotStrikec {l : Launch} {v0 : Option Nat} {v1 : Int32} {σ : HpT} {o : Except Nat (Int32)} (h : fX9_whyNotStrike v0 v1 σ = some o) : IsK σ v0 9 ∧ Ct l yX9_whyNotStrike cX9_whyNotStrike 2 (some .int) 7 110 [va_rf v0, .int v1] σ (oI o) σ (xc o) (xs o) := by
  unfold fX9_whyNotStrike at h
  replace h := bnP_s h
  obtain ⟨u, hk, h⟩ := h
  replace hk := isK_s hk
  refine ⟨hk, ?_⟩
  refine ct_start mi_X9_whyNotStrike.1 rfl (al_le (al_1 (rf_cat _) (al_1 rfl al_n)) (Nat.le_of_ble_eq_true rfl)) (ag_1 (rf_cat _) (ag_1 rfl ag_n)) (fun Δ Γ B hE hnm => ?_)
  refine g_aload_n B 0 dX9_whyNotStrike_0 rfl rfl ?_
  replace h := bnX_s h
  rcases h with ⟨e9, h2, e8⟩ | ⟨x1, h2, h⟩
  · subst e8
    exact g_callVx (st := []) B (cX9_requireBookc (o := .error e9) h2) (Nat.le_of_ble_eq_true rfl) rfl rfl mi_X9_requireBook lk_RX9_95 ⟨Nat.le_of_ble_eq_true rfl, Nat.le_of_ble_eq_true rfl⟩ rfl rfl (Nat.le_of_ble_eq_true rfl) dX9_whyNotStrike_1 (Nat.le_of_eq rfl) (Nat.le_of_eq rfl) hE
  · skip
    refine g_callVv0 (st := []) B (cX9_requireBookc (o := .ok x1) h2) (Nat.le_of_ble_eq_true rfl) rfl rfl mi_X9_requireBook lk_RX9_95 ⟨Nat.le_of_ble_eq_true rfl, Nat.le_of_ble_eq_true rfl⟩ rfl rfl (Nat.le_of_ble_eq_true rfl) dX9_whyNotStrike_1 (Nat.zero_le _) (Nat.zero_le _) ?_
    refine g_aload_n B 0 dX9_whyNotStrike_4 rfl rfl ?_
    replace h := bnP_s h
    obtain ⟨x3, h4, h⟩ := h
    refine g_getR B fl_RX9_20 (by decide) dX9_whyNotStrike_5 h4 ?_
    refine g_iload_n B 1 dX9_whyNotStrike_8 rfl rfl ?_
    replace h := bnP_s h
    obtain ⟨x5, h6, h⟩ := h
    refine g_callVs0 (st := []) B (cX1_strikeReasonc h6) (Nat.le_of_ble_eq_true rfl) rfl rfl mi_X1_strikeReason lk_RX9_316 ⟨Nat.le_of_ble_eq_true rfl, Nat.le_of_ble_eq_true rfl⟩ rfl rfl (Nat.le_of_ble_eq_true rfl) dX9_whyNotStrike_9 (Nat.zero_le _) (Nat.zero_le _) ?_
    replace h := Option.some.inj h
    subst h
    exact g_iret B hE (Nat.zero_le _) (Nat.zero_le _) dX9_whyNotStrike_12
set_option maxRecDepth 100000 in
set_option maxHeartbeats 4000000 in
theorem cX9_unknownIfc {l : Launch} {v0 : Option Nat} {v1 : Int32} {σ : HpT} {o : Except Nat (Int32)} (h : fX9_unknownIf v0 v1 σ = some o) : IsK σ v0 9 ∧ Ct l yX9_unknownIf cX9_unknownIf 2 (some .int) 7 111 [va_rf v0, .int v1] σ (oI o) σ (xc o) (xs o) := by
  unfold fX9_unknownIf at h
  replace h := bnP_s h
  obtain ⟨u, hk, h⟩ := h
  replace hk := isK_s hk
  refine ⟨hk, ?_⟩
  refine ct_start mi_X9_unknownIf.1 rfl (al_le (al_1 (rf_cat _) (al_1 rfl al_n)) (Nat.le_of_ble_eq_true rfl)) (ag_1 (rf_cat _) (ag_1 rfl ag_n)) (fun Δ Γ B hE hnm => ?_)
  refine g_aload_n B 0 dX9_unknownIf_0 rfl rfl ?_
  replace h := bnX_s h
  rcases h with ⟨e9, h2, e8⟩ | ⟨x1, h2, h⟩
  · subst e8
    exact g_callVx (st := []) B (cX9_requireBookc (o := .error e9) h2) (Nat.le_of_ble_eq_true rfl) rfl rfl mi_X9_requireBook lk_RX9_95 ⟨Nat.le_of_ble_eq_true rfl, Nat.le_of_ble_eq_true rfl⟩ rfl rfl (Nat.le_of_ble_eq_true rfl) dX9_unknownIf_1 (Nat.le_of_eq rfl) (Nat.le_of_eq rfl) hE
  · skip
    refine g_callVv0 (st := []) B (cX9_requireBookc (o := .ok x1) h2) (Nat.le_of_ble_eq_true rfl) rfl rfl mi_X9_requireBook lk_RX9_95 ⟨Nat.le_of_ble_eq_true rfl, Nat.le_of_ble_eq_true rfl⟩ rfl rfl (Nat.le_of_ble_eq_true rfl) dX9_unknownIf_1 (Nat.zero_le _) (Nat.zero_le _) ?_
    refine g_aload_n B 0 dX9_unknownIf_4 rfl rfl ?_
    refine g_iload_n B 1 dX9_unknownIf_5 rfl rfl ?_
    replace h := bnX_s h
    rcases h with ⟨e9, h4, e8⟩ | ⟨x3, h4, h⟩
    · subst e8
      exact g_callVx (st := []) B (cX9_requireLeafc (o := .error e9) h4) (Nat.le_of_ble_eq_true rfl) rfl rfl mi_X9_requireLeaf lk_RX9_254 ⟨Nat.le_of_ble_eq_true rfl, Nat.le_of_ble_eq_true rfl⟩ rfl rfl (Nat.le_of_ble_eq_true rfl) dX9_unknownIf_6 (Nat.le_of_eq rfl) (Nat.le_of_eq rfl) hE
    · skip
      refine g_callVv0 (st := []) B (cX9_requireLeafc (o := .ok x3) h4) (Nat.le_of_ble_eq_true rfl) rfl rfl mi_X9_requireLeaf lk_RX9_254 ⟨Nat.le_of_ble_eq_true rfl, Nat.le_of_ble_eq_true rfl⟩ rfl rfl (Nat.le_of_ble_eq_true rfl) dX9_unknownIf_6 (Nat.zero_le _) (Nat.zero_le _) ?_
      refine g_aload_n B 0 dX9_unknownIf_9 rfl rfl ?_
      replace h := bnP_s h
      obtain ⟨x5, h6, h⟩ := h
      refine g_getR B fl_RX9_20 (by decide) dX9_unknownIf_10 h6 ?_
      refine g_iload_n B 1 dX9_unknownIf_13 rfl rfl ?_
      replace h := bnP_s h
      obtain ⟨x7, h8, h⟩ := h
      refine g_callVs0 (st := []) B (cX1_wouldBeUnknownc h8) (Nat.le_of_ble_eq_true rfl) rfl rfl mi_X1_wouldBeUnknown lk_RX9_319 ⟨Nat.le_of_ble_eq_true rfl, Nat.le_of_ble_eq_true rfl⟩ rfl rfl (Nat.le_of_ble_eq_true rfl) dX9_unknownIf_14 (Nat.zero_le _) (Nat.zero_le _) ?_
      replace h := Option.some.inj h
      subst h
      exact g_iret B hE (Nat.zero_le _) (Nat.zero_le _) dX9_unknownIf_17
set_option maxRecDepth 100000 in
set_option maxHeartbeats 4000000 in
theorem cX9_shakenOutc {l : Launch} {v0 : Option Nat} {σ : HpT} {o : Except Nat (Int32)} {σ' : HpT} {a b : Nat} (h : fX9_shakenOut v0 σ = some (o, σ', a, b)) : IsK σ v0 9 ∧ Ct l yX9_shakenOut cX9_shakenOut 2 (some .int) 7 110 [va_rf v0] σ (oI o) σ' a b := by
  unfold fX9_shakenOut at h
  replace h := bnP_s h
  obtain ⟨u, hk, h⟩ := h
  replace hk := isK_s hk
  refine ⟨hk, ?_⟩
  refine ct_start mi_X9_shakenOut.1 rfl (al_le (al_1 (rf_cat _) al_n) (Nat.le_of_ble_eq_true rfl)) (ag_1 (rf_cat _) ag_n) (fun Δ Γ B hE hnm => ?_)
  have hka : 0 + a = a := Nat.zero_add a
  have hkb : 0 + b = b := Nat.zero_add b
  have hla : a ≤ a := Nat.le_refl a
  have hlb : b ≤ b := Nat.le_refl b
  refine g_aload_n B 0 dX9_shakenOut_0 rfl rfl ?_
  replace h := bnXA_s h
  rcases h with ⟨e9, h2, e8, e7, e6, e5⟩ | ⟨x1, h2, h⟩
  · subst e8; subst e7; subst e6; subst e5
    exact g_callVx (st := []) B (cX9_requireBookc (o := .error e9) h2) (Nat.le_of_ble_eq_true rfl) rfl rfl mi_X9_requireBook lk_RX9_95 ⟨Nat.le_of_ble_eq_true rfl, Nat.le_of_ble_eq_true rfl⟩ rfl rfl (Nat.le_of_ble_eq_true rfl) dX9_shakenOut_1 (Nat.le_trans (Nat.le_of_eq hka) hla) (Nat.le_trans (Nat.le_of_eq hkb) hlb) hE
  · skip
    refine g_callVv0 (st := []) B (cX9_requireBookc (o := .ok x1) h2) (Nat.le_of_ble_eq_true rfl) rfl rfl mi_X9_requireBook lk_RX9_95 ⟨Nat.le_of_ble_eq_true rfl, Nat.le_of_ble_eq_true rfl⟩ rfl rfl (Nat.le_of_ble_eq_true rfl) dX9_shakenOut_1 (Nat.le_trans (bm hka) hla) (Nat.le_trans (bm hkb) hlb) ?_
    refine g_aload_n B 0 dX9_shakenOut_4 rfl rfl ?_
    replace h := bnP_s h
    obtain ⟨x3, h4, h⟩ := h
    refine g_getR B fl_RX9_48 (by decide) dX9_shakenOut_5 h4 ?_
    refine g_aload_n B 0 dX9_shakenOut_8 rfl rfl ?_
    replace h := bnP_s h
    obtain ⟨x5, h6, h⟩ := h
    refine g_getR B fl_RX9_20 (by decide) dX9_shakenOut_9 h6 ?_
    replace h := bnP_s h
    obtain ⟨x7, h8, h⟩ := h
    refine g_getRg B fl_RX9_108 (by decide) dX9_shakenOut_12 h8 ?_
    replace h := bnP_s h
    obtain ⟨s11, h10, h⟩ := h
    refine g_callVv0 (st := []) B (cX4_takec h10) (Nat.le_of_ble_eq_true rfl) rfl rfl mi_X4_take lk_RX9_322 ⟨Nat.le_of_ble_eq_true rfl, Nat.le_of_ble_eq_true rfl⟩ rfl rfl (Nat.le_of_ble_eq_true rfl) dX9_shakenOut_15 (Nat.le_trans (bm hka) hla) (Nat.le_trans (bm hkb) hlb) ?_
    refine g_iconst (v := 0) B dX9_shakenOut_18 (by decide) ?_
    refine g_istore_n B dX9_shakenOut_19 rfl (Nat.le_of_ble_eq_true rfl) (s1_c (f1_1 rfl (rf_cat _) f1_n)) ?_
    replace h := bnS_s h
    obtain ⟨r13, s27, h14, h⟩ := h
    have kE15 : GW Δ Γ (0) (0) 42 [(1, .int r13)] [] s27 := by
      refine g_iload_n B 0 dX9_shakenOut_42 rfl rfl ?_
      obtain ⟨w1, w2, w3, w4⟩ := inA h
      clear h
      subst w1
      subst w2
      subst w3
      subst w4
      exact g_iret B hE (Nat.le_trans (Nat.le_of_eq hka) hla) (Nat.le_trans (Nat.le_of_eq hkb) hlb) dX9_shakenOut_43
    clear h
    refine g_sub [1, 0] rfl ?_
    refine lpS_w (I := fun q12 s21 => GW Δ Γ (0) (0) 20 [(0, va_rf v0), (1, .int q12)] [] s21) (r := r13) (σr := s27) ?_ FUEL 0 s11 h14
    intro q12 s21 x19 s9 h hI17 hR18
    unfold fX9_shakenOut_l1 at h
    refine g_iload_n B 1 dX9_shakenOut_20 rfl rfl ?_
    refine g_bipush (v := 12) B dX9_shakenOut_21 (by decide) ?_
    refine g_icmp_ge B 42 dX9_shakenOut_23 (by decide) (fun hc => ?_) (fun hc => ?_)
    · replace h := ifp hc h
      obtain ⟨w1, w2⟩ := inS h
      clear h
      subst w1
      subst w2
      obtain ⟨e8, e7⟩ := hR18 _ rfl
      subst e8
      subst e7
      exact g_sub [1] rfl kE15
    · replace h := ifn hc h
      refine g_aload_n B 0 dX9_shakenOut_26 rfl rfl ?_
      replace h := bnP_s h
      obtain ⟨x22, h23, h⟩ := h
      refine g_getR B fl_RX9_48 (by decide) dX9_shakenOut_27 h23 ?_
      replace h := bnS_s h
      obtain ⟨x24, s26, h25, h⟩ := h
      refine g_callVs0 (st := []) B (cX4_dropLoosec h25) (Nat.le_of_ble_eq_true rfl) rfl rfl mi_X4_dropLoose lk_RX9_326 ⟨Nat.le_of_ble_eq_true rfl, Nat.le_of_ble_eq_true rfl⟩ rfl rfl (Nat.le_of_ble_eq_true rfl) dX9_shakenOut_30 (Nat.le_trans (bm hka) hla) (Nat.le_trans (bm hkb) hlb) ?_
      refine g_if_le B 42 dX9_shakenOut_33 (by decide) (fun hc => ?_) (fun hc => ?_)
      · replace h := ifp hc h
        obtain ⟨w1, w2⟩ := inS h
        clear h
        subst w1
        subst w2
        obtain ⟨e8, e7⟩ := hR18 _ rfl
        subst e8
        subst e7
        exact g_sub [1] rfl kE15
      · replace h := ifn hc h
        refine g_iinc (v := (q12 + 1)) B 1 dX9_shakenOut_36 rfl (by first | rfl | (congr 1; decide)) (Nat.le_of_ble_eq_true rfl) (s1_c (f1_1 rfl (rf_cat _) (f1_x f1_n))) ?_
        refine g_goto B 20 dX9_shakenOut_39 (by decide) ?_
        obtain ⟨w1, w2⟩ := inS h
        clear h
        subst w1
        subst w2
        exact g_sub [1, 0] rfl (hI17 _ rfl)
set_option maxRecDepth 100000 in
set_option maxHeartbeats 4000000 in
theorem cX9_copyWordsc {l : Launch} {v0 : Option Nat} {v1 : Int32} {v2 : Int32} {σ : HpT} {o : Except Nat (Int32)} {σ' : HpT} {a b : Nat} (h : fX9_copyWords v0 v1 v2 σ = some (o, σ', a, b)) : IsK σ v0 9 ∧ Ct l yX9_copyWords cX9_copyWords 4 (some .int) 7 111 [va_rf v0, .int v1, .int v2] σ (oI o) σ' a b := by
  unfold fX9_copyWords at h
  replace h := bnP_s h
  obtain ⟨u, hk, h⟩ := h
  replace hk := isK_s hk
  refine ⟨hk, ?_⟩
  refine ct_start mi_X9_copyWords.1 rfl (al_le (al_1 (rf_cat _) (al_1 rfl (al_1 rfl al_n))) (Nat.le_of_ble_eq_true rfl)) (ag_1 (rf_cat _) (ag_1 rfl (ag_1 rfl ag_n))) (fun Δ Γ B hE hnm => ?_)
  have hka : 0 + a = a := Nat.zero_add a
  have hkb : 0 + b = b := Nat.zero_add b
  have hla : a ≤ a := Nat.le_refl a
  have hlb : b ≤ b := Nat.le_refl b
  refine g_aload_n B 0 dX9_copyWords_0 rfl rfl ?_
  replace h := bnXA_s h
  rcases h with ⟨e9, h2, e8, e7, e6, e5⟩ | ⟨x1, h2, h⟩
  · subst e8; subst e7; subst e6; subst e5
    exact g_callVx (st := []) B (cX9_requireBookc (o := .error e9) h2) (Nat.le_of_ble_eq_true rfl) rfl rfl mi_X9_requireBook lk_RX9_95 ⟨Nat.le_of_ble_eq_true rfl, Nat.le_of_ble_eq_true rfl⟩ rfl rfl (Nat.le_of_ble_eq_true rfl) dX9_copyWords_1 (Nat.le_trans (Nat.le_of_eq hka) hla) (Nat.le_trans (Nat.le_of_eq hkb) hlb) hE
  · skip
    refine g_callVv0 (st := []) B (cX9_requireBookc (o := .ok x1) h2) (Nat.le_of_ble_eq_true rfl) rfl rfl mi_X9_requireBook lk_RX9_95 ⟨Nat.le_of_ble_eq_true rfl, Nat.le_of_ble_eq_true rfl⟩ rfl rfl (Nat.le_of_ble_eq_true rfl) dX9_copyWords_1 (Nat.le_trans (bm hka) hla) (Nat.le_trans (bm hkb) hlb) ?_
    refine g_aload_n B 0 dX9_copyWords_4 rfl rfl ?_
    refine g_iload_n B 1 dX9_copyWords_5 rfl rfl ?_
    replace h := bnXA_s h
    rcases h with ⟨e9, h4, e8, e7, e6, e5⟩ | ⟨x3, h4, h⟩
    · subst e8; subst e7; subst e6; subst e5
      exact g_callVx (st := []) B (cX9_requireActc (o := .error e9) h4) (Nat.le_of_ble_eq_true rfl) rfl rfl mi_X9_requireAct lk_RX9_153 ⟨Nat.le_of_ble_eq_true rfl, Nat.le_of_ble_eq_true rfl⟩ rfl rfl (Nat.le_of_ble_eq_true rfl) dX9_copyWords_6 (Nat.le_trans (Nat.le_of_eq hka) hla) (Nat.le_trans (Nat.le_of_eq hkb) hlb) hE
    · skip
      refine g_callVs0 (st := []) B (cX9_requireActc (o := .ok x3) h4) (Nat.le_of_ble_eq_true rfl) rfl rfl mi_X9_requireAct lk_RX9_153 ⟨Nat.le_of_ble_eq_true rfl, Nat.le_of_ble_eq_true rfl⟩ rfl rfl (Nat.le_of_ble_eq_true rfl) dX9_copyWords_6 (Nat.le_trans (bm hka) hla) (Nat.le_trans (bm hkb) hlb) ?_
      refine g_astore_n B dX9_copyWords_9 rfl (Nat.le_of_ble_eq_true rfl) (s1_c (f1_k rfl (f1_k rfl (f1_1 rfl rfl f1_n)))) ?_
      refine g_iload_n B 3 dX9_copyWords_10 rfl rfl ?_
      refine g_iconst (v := 2) B dX9_copyWords_11 (by decide) ?_
      replace h := bnXA_s h
      rcases h with ⟨e9, h6, e8, e7, e6, e5⟩ | ⟨x5, h6, h⟩
      · subst e8; subst e7; subst e6; subst e5
        exact g_callSx (st := []) B (cX9_requireUpToc (o := .error e9) h6) mi_X9_requireUpTo lk_RX9_98 ⟨Nat.le_of_ble_eq_true rfl, Nat.le_of_ble_eq_true rfl⟩ rfl rfl (Nat.le_of_ble_eq_true rfl) dX9_copyWords_12 (Nat.le_trans (Nat.le_of_eq hka) hla) (Nat.le_trans (Nat.le_of_eq hkb) hlb) hE
      · skip
        refine g_callSv0 (st := []) B (cX9_requireUpToc (o := .ok x5) h6) mi_X9_requireUpTo lk_RX9_98 ⟨Nat.le_of_ble_eq_true rfl, Nat.le_of_ble_eq_true rfl⟩ rfl rfl (Nat.le_of_ble_eq_true rfl) dX9_copyWords_12 (Nat.le_trans (bm hka) hla) (Nat.le_trans (bm hkb) hlb) ?_
        refine g_aload_n B 1 dX9_copyWords_15 rfl rfl ?_
        replace h := bnP_s h
        obtain ⟨x7, h8, h⟩ := h
        refine g_getR B fl_RX9_20 (by decide) dX9_copyWords_16 h8 ?_
        replace h := bnP_s h
        obtain ⟨x9, h10, h⟩ := h
        refine g_getRg B fl_RX9_332 (by decide) dX9_copyWords_19 h10 ?_
        refine g_aload_n B 1 dX9_copyWords_22 rfl rfl ?_
        replace h := bnP_s h
        obtain ⟨x11, h12, h⟩ := h
        refine g_getR B fl_RX9_20 (by decide) dX9_copyWords_23 h12 ?_
        replace h := bnP_s h
        obtain ⟨x13, h14, h⟩ := h
        refine g_getRg B fl_RX9_114 (by decide) dX9_copyWords_26 h14 ?_
        refine g_aload_n B 0 dX9_copyWords_29 rfl rfl ?_
        refine g_iload_n B 3 dX9_copyWords_30 rfl rfl ?_
        replace h := bnP_s h
        obtain ⟨s17, h16, h⟩ := h
        refine g_callVv0 (st := []) B (cX3_drawc h16) (Nat.le_of_ble_eq_true rfl) rfl rfl mi_X3_draw lk_RX9_336 ⟨Nat.le_of_ble_eq_true rfl, Nat.le_of_ble_eq_true rfl⟩ rfl rfl (Nat.le_of_ble_eq_true rfl) dX9_copyWords_31 (Nat.le_trans (bm hka) hla) (Nat.le_trans (bm hkb) hlb) ?_
        refine g_aload_n B 1 dX9_copyWords_34 rfl rfl ?_
        replace h := bnP_s h
        obtain ⟨x18, h19, h⟩ := h
        refine g_getR B fl_RX9_20 (by decide) dX9_copyWords_35 h19 ?_
        replace h := bnP_s h
        obtain ⟨x20, h21, h⟩ := h
        refine g_getRg B fl_RX9_332 (by decide) dX9_copyWords_38 h21 ?_
        replace h := bnP_s h
        obtain ⟨x22, h23, h⟩ := h
        refine g_getI B fl_RX9_287 (by decide) dX9_copyWords_41 h23 ?_
        obtain ⟨w1, w2, w3, w4⟩ := inA h
        clear h
        subst w1
        subst w2
        subst w3
        subst w4
        exact g_iret B hE (Nat.le_trans (Nat.le_of_eq hka) hla) (Nat.le_trans (Nat.le_of_eq hkb) hlb) dX9_copyWords_44
set_option maxRecDepth 100000 in
set_option maxHeartbeats 4000000 in
theorem cX9_standingIfc {l : Launch} {v0 : Option Nat} {v1 : Int32} {v2 : Int32} {σ : HpT} {o : Except Nat (Int32)} {σ' : HpT} {a b : Nat} (h : fX9_standingIf v0 v1 v2 σ = some (o, σ', a, b)) : IsK σ v0 9 ∧ Ct l yX9_standingIf cX9_standingIf 4 (some .int) 7 110 [va_rf v0, .int v1, .int v2] σ (oI o) σ' a b := by
  unfold fX9_standingIf at h
  replace h := bnP_s h
  obtain ⟨u, hk, h⟩ := h
  replace hk := isK_s hk
  refine ⟨hk, ?_⟩
  refine ct_start mi_X9_standingIf.1 rfl (al_le (al_1 (rf_cat _) (al_1 rfl (al_1 rfl al_n))) (Nat.le_of_ble_eq_true rfl)) (ag_1 (rf_cat _) (ag_1 rfl (ag_1 rfl ag_n))) (fun Δ Γ B hE hnm => ?_)
  have hka : 0 + a = a := Nat.zero_add a
  have hkb : 0 + b = b := Nat.zero_add b
  have hla : a ≤ a := Nat.le_refl a
  have hlb : b ≤ b := Nat.le_refl b
  refine g_aload_n B 0 dX9_standingIf_0 rfl rfl ?_
  replace h := bnXA_s h
  rcases h with ⟨e9, h2, e8, e7, e6, e5⟩ | ⟨x1, h2, h⟩
  · subst e8; subst e7; subst e6; subst e5
    exact g_callVx (st := []) B (cX9_requireBookc (o := .error e9) h2) (Nat.le_of_ble_eq_true rfl) rfl rfl mi_X9_requireBook lk_RX9_95 ⟨Nat.le_of_ble_eq_true rfl, Nat.le_of_ble_eq_true rfl⟩ rfl rfl (Nat.le_of_ble_eq_true rfl) dX9_standingIf_1 (Nat.le_trans (Nat.le_of_eq hka) hla) (Nat.le_trans (Nat.le_of_eq hkb) hlb) hE
  · skip
    refine g_callVv0 (st := []) B (cX9_requireBookc (o := .ok x1) h2) (Nat.le_of_ble_eq_true rfl) rfl rfl mi_X9_requireBook lk_RX9_95 ⟨Nat.le_of_ble_eq_true rfl, Nat.le_of_ble_eq_true rfl⟩ rfl rfl (Nat.le_of_ble_eq_true rfl) dX9_standingIf_1 (Nat.le_trans (bm hka) hla) (Nat.le_trans (bm hkb) hlb) ?_
    refine g_aload_n B 0 dX9_standingIf_4 rfl rfl ?_
    replace h := bnP_s h
    obtain ⟨x3, h4, h⟩ := h
    refine g_getR B fl_RX9_20 (by decide) dX9_standingIf_5 h4 ?_
    refine g_iload_n B 1 dX9_standingIf_8 rfl rfl ?_
    replace h := bnP_s h
    obtain ⟨x5, h6, h⟩ := h
    refine g_callVs0 (st := []) B (cX1_strikeReasonc h6) (Nat.le_of_ble_eq_true rfl) rfl rfl mi_X1_strikeReason lk_RX9_316 ⟨Nat.le_of_ble_eq_true rfl, Nat.le_of_ble_eq_true rfl⟩ rfl rfl (Nat.le_of_ble_eq_true rfl) dX9_standingIf_9 (Nat.le_trans (bm hka) hla) (Nat.le_trans (bm hkb) hlb) ?_
    refine g_istore_n B dX9_standingIf_12 rfl (Nat.le_of_ble_eq_true rfl) (s1_c (f1_k rfl (f1_k rfl (f1_1 rfl rfl f1_n)))) ?_
    refine g_iload_n B 0 dX9_standingIf_13 rfl rfl ?_
    refine g_iconst (v := 1) B dX9_standingIf_14 (by decide) ?_
    refine g_icmp_eq B 23 dX9_standingIf_15 (by decide) (fun hc => ?_) (fun hc => ?_)
    · replace h := ifp hc h
      obtain ⟨w1, w2, w3, w4⟩ := inA h
      clear h
      subst w1
      subst w2
      subst w3
      subst w4
      exact g_throwW B tw_RX9_78_82 (j := 23) rfl hE (by decide) (Nat.le_of_ble_eq_true rfl) dX9_standingIf_23 dX9_standingIf_26 dX9_standingIf_27 dX9_standingIf_30 dX9_standingIf_33 (Nat.le_trans (Nat.le_of_eq hka) hla) (Nat.le_trans (Nat.le_of_eq hkb) hlb)
    · replace h := ifn hc h
      refine g_iload_n B 0 dX9_standingIf_18 rfl rfl ?_
      refine g_iconst (v := 2) B dX9_standingIf_19 (by decide) ?_
      refine g_icmp_ne B 34 dX9_standingIf_20 (by decide) (fun hc => ?_) (fun hc => ?_)
      · replace h := ifn hc h
        refine g_iload_n B 3 dX9_standingIf_34 rfl rfl ?_
        refine g_if_ne B 63 dX9_standingIf_35 (by decide) (fun hc => ?_) (fun hc => ?_)
        · replace h := ifn hc h
          refine g_aload_n B 1 dX9_standingIf_63 rfl rfl ?_
          replace h := bnP_s h
          obtain ⟨x7, h8, h⟩ := h
          refine g_getR B fl_RX9_20 (by decide) dX9_standingIf_64 h8 ?_
          refine g_iload_n B 2 dX9_standingIf_67 rfl rfl ?_
          replace h := bnS_s h
          obtain ⟨x9, s11, h10, h⟩ := h
          refine g_callVs0 (st := []) B (cX1_seekClauseAroundc h10) (Nat.le_of_ble_eq_true rfl) rfl rfl mi_X1_seekClauseAround lk_RX9_348 ⟨Nat.le_of_ble_eq_true rfl, Nat.le_of_ble_eq_true rfl⟩ rfl rfl (Nat.le_of_ble_eq_true rfl) dX9_standingIf_68 (Nat.le_trans (bm hka) hla) (Nat.le_trans (bm hkb) hlb) ?_
          refine g_if_ne B 85 dX9_standingIf_71 (by decide) (fun hc => ?_) (fun hc => ?_)
          · replace h := ifp (bI1 hc) h
            refine g_aload_n B 1 dX9_standingIf_85 rfl rfl ?_
            replace h := bnP_s h
            obtain ⟨x12, h13, h⟩ := h
            refine g_getR B fl_RX9_20 (by decide) dX9_standingIf_86 h13 ?_
            replace h := bnP_s h
            obtain ⟨x14, h15, h⟩ := h
            refine g_callVs0 (st := []) B (cX1_openStandingc h15) (Nat.le_of_ble_eq_true rfl) rfl rfl mi_X1_openStanding lk_RX9_345 ⟨Nat.le_of_ble_eq_true rfl, Nat.le_of_ble_eq_true rfl⟩ rfl rfl (Nat.le_of_ble_eq_true rfl) dX9_standingIf_89 (Nat.le_trans (bm hka) hla) (Nat.le_trans (bm hkb) hlb) ?_
            refine g_aload_n B 1 dX9_standingIf_92 rfl rfl ?_
            replace h := bnP_s h
            obtain ⟨x16, h17, h⟩ := h
            refine g_getR B fl_RX9_20 (by decide) dX9_standingIf_93 h17 ?_
            replace h := bnP_s h
            obtain ⟨x18, h19, h⟩ := h
            refine g_getRg B fl_RX9_114 (by decide) dX9_standingIf_96 h19 ?_
            refine g_aload_n B 1 dX9_standingIf_99 rfl rfl ?_
            replace h := bnP_s h
            obtain ⟨x20, h21, h⟩ := h
            refine g_getR B fl_RX9_20 (by decide) dX9_standingIf_100 h21 ?_
            replace h := bnP_s h
            obtain ⟨x22, h23, h⟩ := h
            refine g_getRg B fl_RX9_228 (by decide) dX9_standingIf_103 h23 ?_
            replace h := bnP_s h
            obtain ⟨x24, h25, h⟩ := h
            refine g_getI B fl_RX9_243 (by decide) dX9_standingIf_106 h25 ?_
            refine g_aload_n B 1 dX9_standingIf_109 rfl rfl ?_
            replace h := bnP_s h
            obtain ⟨x26, h27, h⟩ := h
            refine g_getR B fl_RX9_20 (by decide) dX9_standingIf_110 h27 ?_
            replace h := bnP_s h
            obtain ⟨x28, h29, h⟩ := h
            refine g_getRg B fl_RX9_228 (by decide) dX9_standingIf_113 h29 ?_
            replace h := bnP_s h
            obtain ⟨x30, h31, h⟩ := h
            refine g_getI B fl_RX9_244 (by decide) dX9_standingIf_116 h31 ?_
            replace h := bnP_s h
            obtain ⟨x32, h33, h⟩ := h
            refine g_callVs0 (st := [.int x14]) B (cX8_unstruckFromc h33) (Nat.le_of_ble_eq_true rfl) rfl rfl mi_X8_unstruckFrom lk_RX9_245 ⟨Nat.le_of_ble_eq_true rfl, Nat.le_of_ble_eq_true rfl⟩ rfl rfl (Nat.le_of_ble_eq_true rfl) dX9_standingIf_119 (Nat.le_trans (bm hka) hla) (Nat.le_trans (bm hkb) hlb) ?_
            refine g_isub B dX9_standingIf_122 ?_
            obtain ⟨w1, w2, w3, w4⟩ := inA h
            clear h
            subst w1
            subst w2
            subst w3
            subst w4
            exact g_iret B hE (Nat.le_trans (Nat.le_of_eq hka) hla) (Nat.le_trans (Nat.le_of_eq hkb) hlb) dX9_standingIf_123
          · replace h := ifn (bI0 hc) h
            obtain ⟨w1, w2, w3, w4⟩ := inA h
            clear h
            subst w1
            subst w2
            subst w3
            subst w4
            exact g_throwW B tw_RX9_78_82 (j := 24) rfl hE (by decide) (Nat.le_of_ble_eq_true rfl) dX9_standingIf_74 dX9_standingIf_77 dX9_standingIf_78 dX9_standingIf_81 dX9_standingIf_84 (Nat.le_trans (Nat.le_of_eq hka) hla) (Nat.le_trans (Nat.le_of_eq hkb) hlb)
        · replace h := ifp hc h
          refine g_iload_n B 0 dX9_standingIf_38 rfl rfl ?_
          refine g_iconst (v := 3) B dX9_standingIf_39 (by decide) ?_
          refine g_icmp_ne B 53 dX9_standingIf_40 (by decide) (fun hc => ?_) (fun hc => ?_)
          · replace h := ifn hc h
            refine g_aload_n B 1 dX9_standingIf_53 rfl rfl ?_
            replace h := bnP_s h
            obtain ⟨x34, h35, h⟩ := h
            refine g_getR B fl_RX9_20 (by decide) dX9_standingIf_54 h35 ?_
            replace h := bnP_s h
            obtain ⟨x36, h37, h⟩ := h
            refine g_callVs0 (st := []) B (cX1_openStandingc h37) (Nat.le_of_ble_eq_true rfl) rfl rfl mi_X1_openStanding lk_RX9_345 ⟨Nat.le_of_ble_eq_true rfl, Nat.le_of_ble_eq_true rfl⟩ rfl rfl (Nat.le_of_ble_eq_true rfl) dX9_standingIf_57 (Nat.le_trans (bm hka) hla) (Nat.le_trans (bm hkb) hlb) ?_
            refine g_iconst (v := 1) B dX9_standingIf_60 (by decide) ?_
            refine g_isub B dX9_standingIf_61 ?_
            obtain ⟨w1, w2, w3, w4⟩ := inA h
            clear h
            subst w1
            subst w2
            subst w3
            subst w4
            exact g_iret B hE (Nat.le_trans (Nat.le_of_eq hka) hla) (Nat.le_trans (Nat.le_of_eq hkb) hlb) dX9_standingIf_62
          · replace h := ifp hc h
            refine g_aload_n B 1 dX9_standingIf_43 rfl rfl ?_
            replace h := bnP_s h
            obtain ⟨x38, h39, h⟩ := h
            refine g_getR B fl_RX9_20 (by decide) dX9_standingIf_44 h39 ?_
            replace h := bnP_s h
            obtain ⟨x40, h41, h⟩ := h
            refine g_callVs0 (st := []) B (cX1_openStandingc h41) (Nat.le_of_ble_eq_true rfl) rfl rfl mi_X1_openStanding lk_RX9_345 ⟨Nat.le_of_ble_eq_true rfl, Nat.le_of_ble_eq_true rfl⟩ rfl rfl (Nat.le_of_ble_eq_true rfl) dX9_standingIf_47 (Nat.le_trans (bm hka) hla) (Nat.le_trans (bm hkb) hlb) ?_
            refine g_goto B 62 dX9_standingIf_50 (by decide) ?_
            obtain ⟨w1, w2, w3, w4⟩ := inA h
            clear h
            subst w1
            subst w2
            subst w3
            subst w4
            exact g_iret B hE (Nat.le_trans (Nat.le_of_eq hka) hla) (Nat.le_trans (Nat.le_of_eq hkb) hlb) dX9_standingIf_62
      · replace h := ifp hc h
        obtain ⟨w1, w2, w3, w4⟩ := inA h
        clear h
        subst w1
        subst w2
        subst w3
        subst w4
        exact g_throwW B tw_RX9_78_82 (j := 23) rfl hE (by decide) (Nat.le_of_ble_eq_true rfl) dX9_standingIf_23 dX9_standingIf_26 dX9_standingIf_27 dX9_standingIf_30 dX9_standingIf_33 (Nat.le_trans (Nat.le_of_eq hka) hla) (Nat.le_trans (Nat.le_of_eq hkb) hlb)
set_option maxRecDepth 100000 in
set_option maxHeartbeats 4000000 in
theorem cX9_rowAtc {l : Launch} {v0 : Option Nat} {v1 : Int32} {σ : HpT} {o : Except Nat (Option Nat)} {σ' : HpT} {a b : Nat} (h : fX9_rowAt v0 v1 σ = some (o, σ', a, b)) : Ct l yX9_rowAt cX9_rowAt 2 (some (.object "NotaryBook$Book")) 3 62 [va_rf v0, .int v1] σ (oA o) σ' a b := by
  unfold fX9_rowAt at h
  refine ct_start mi_X9_rowAt.1 rfl (al_le (al_1 (rf_cat _) (al_1 rfl al_n)) (Nat.le_of_ble_eq_true rfl)) (ag_1 (rf_cat _) (ag_1 rfl ag_n)) (fun Δ Γ B hE hnm => ?_)
  have hka : 0 + a = a := Nat.zero_add a
  have hkb : 0 + b = b := Nat.zero_add b
  have hla : a ≤ a := Nat.le_refl a
  have hlb : b ≤ b := Nat.le_refl b
  refine g_aload_n B 0 dX9_rowAt_0 rfl rfl ?_
  refine g_iload_n B 1 dX9_rowAt_1 rfl rfl ?_
  replace h := bnP_s h
  obtain ⟨x1, h2, h⟩ := h
  refine g_ralds B (κ := 27) (by decide) rfl dX9_rowAt_2 h2 ?_
  replace h := bnA_o h
  obtain ⟨z32, s25, a26, b27, h4, er7, h, la, lb⟩ := h
  have k6 : ∀ j3, z32 = .ok j3 → GW Δ Γ (0 + a26) (0 + b27) 16 [(0, va_rf v0), (1, .int v1)] [] s25 := by
    intro j3 ej
    replace h := h _ ej
    obtain ⟨a28, b29, h, ea, eb⟩ := h
    subst ea; subst eb
    have hka := bk hka
    have hkb := bk hkb
    refine g_aload_n B 0 dX9_rowAt_16 rfl rfl ?_
    refine g_iload_n B 1 dX9_rowAt_17 rfl rfl ?_
    replace h := bnP_s h
    obtain ⟨x30, h31, h⟩ := h
    refine g_ralds B (κ := 27) (by decide) rfl dX9_rowAt_18 h31 ?_
    obtain ⟨w1, w2, w3, w4⟩ := inA h
    clear h
    subst w1
    subst w2
    subst w3
    subst w4
    exact g_aret B hE (Or.inl ⟨_, rfl⟩) (Nat.le_trans (Nat.le_of_eq hka) hla) (Nat.le_trans (Nat.le_of_eq hkb) hlb) dX9_rowAt_19
  clear h
  have h := h4
  clear h4
  replace hla := Nat.le_trans (bj hka la) hla
  replace hlb := Nat.le_trans (bj hkb lb) hlb
  replace hka : 0 + a26 = _ := rfl
  replace hkb : 0 + b27 = _ := rfl
  refine g_ifnonnull B 16 dX9_rowAt_3 (by decide) (fun hc => ?_) (fun hc => ?_)
  · replace h := ifn hc h
    obtain ⟨w1, w2, w3, w4⟩ := inA h
    clear h
    subst w1
    subst w2
    subst w3
    subst w4
    refine g_cost hka hkb ?_
    exact g_sub [0, 1] rfl (k6 _ rfl)
  · replace h := ifp hc h
    refine g_aload_n B 0 dX9_rowAt_6 rfl rfl ?_
    refine g_iload_n B 1 dX9_rowAt_7 rfl rfl ?_
    replace h := bnA_s h
    rcases h with ⟨e9, h9, e8⟩ | ⟨x8, s10, a11, b12, a13, b14, h9, h, ea, eb⟩
    · exact absurd h9 (by simp [nwA, nwR]; try (split <;> simp))
    · subst ea; subst eb
      have hka := bk hka
      have hkb := bk hkb
      refine g_new B nw_RX9_17 dX9_rowAt_8 h9 (Nat.le_trans (bm hka) hla) (Nat.le_trans (bm hkb) hlb) ?_
      refine g_dup B dX9_rowAt_11 (rf_cat _) ?_
      replace h := bnA_s h
      rcases h with ⟨e9, h16, e8⟩ | ⟨x15, s17, a18, b19, a20, b21, h16, h, ea, eb⟩
      · subst e8; obtain ⟨e8, e7, e6, e5⟩ := er7 _ rfl; subst e8; subst e7; subst e6; subst e5
        exact g_callIx (st := [va_rf x8, .int v1, va_rf v0]) B (cX1_initc (o := .error e9) h16) mi_X1_init lk_RX9_19 ⟨Nat.le_of_ble_eq_true rfl, Nat.le_of_ble_eq_true rfl⟩ rfl rfl (Nat.le_of_ble_eq_true rfl) dX9_rowAt_12 (Nat.le_trans (Nat.le_of_eq hka) hla) (Nat.le_trans (Nat.le_of_eq hkb) hlb) hE
      · subst ea; subst eb
        have hka := bk hka
        have hkb := bk hkb
        refine g_callIvA (st := [va_rf x8, .int v1, va_rf v0]) B (cX1_initc (o := .ok x15) h16) mi_X1_init lk_RX9_19 ⟨Nat.le_of_ble_eq_true rfl, Nat.le_of_ble_eq_true rfl⟩ rfl rfl (Nat.le_of_ble_eq_true rfl) dX9_rowAt_12 (Nat.le_trans (bm hka) hla) (Nat.le_trans (bm hkb) hlb) ?_
        replace h := bnP_s h
        obtain ⟨s24, h23, h⟩ := h
        refine g_rast B (κ := 27) (κ2 := 1) (by decide) (by decide) rfl (fun _ => rfl) dX9_rowAt_15 h23 ?_
        obtain ⟨w1, w2, w3, w4⟩ := inA h
        clear h
        subst w1
        subst w2
        subst w3
        subst w4
        refine g_cost hka hkb ?_
        exact g_sub [0, 1] rfl (k6 _ rfl)
set_option maxRecDepth 100000 in
set_option maxHeartbeats 4000000 in
theorem cX9_rememberc {l : Launch} {v0 : Option Nat} {σ : HpT} {o : Except Nat (Unit)} {σ' : HpT} {a b : Nat} (h : fX9_remember v0 σ = some (o, σ', a, b)) : IsK σ v0 9 ∧ Ct l yX9_remember cX9_remember 1 none 4 104 [va_rf v0] σ (oU o) σ' a b := by
  unfold fX9_remember at h
  replace h := bnP_s h
  obtain ⟨u, hk, h⟩ := h
  replace hk := isK_s hk
  refine ⟨hk, ?_⟩
  refine ct_start mi_X9_remember.1 rfl (al_le (al_1 (rf_cat _) al_n) (Nat.le_of_ble_eq_true rfl)) (ag_1 (rf_cat _) ag_n) (fun Δ Γ B hE hnm => ?_)
  have hka : 0 + a = a := Nat.zero_add a
  have hkb : 0 + b = b := Nat.zero_add b
  have hla : a ≤ a := Nat.le_refl a
  have hlb : b ≤ b := Nat.le_refl b
  refine g_aload_n B 0 dX9_remember_0 rfl rfl ?_
  replace h := bnP_s h
  obtain ⟨x1, h2, h⟩ := h
  refine g_getI B fl_RX9_491 (by decide) dX9_remember_1 h2 ?_
  refine g_bipush (v := 8) B dX9_remember_4 (by decide) ?_
  replace h := bnS_s h
  obtain ⟨j3, s18, h4, h⟩ := h
  have k6 : GW Δ Γ (0) (0) 32 [(0, va_rf v0)] [] s18 := by
    refine g_aload_n B 0 dX9_remember_32 rfl rfl ?_
    replace h := bnP_s h
    obtain ⟨x19, h20, h⟩ := h
    refine g_getR B fl_RX9_34 (by decide) dX9_remember_33 h20 ?_
    refine g_aload_n B 0 dX9_remember_36 rfl rfl ?_
    replace h := bnP_s h
    obtain ⟨x21, h22, h⟩ := h
    refine g_getI B fl_RX9_499 (by decide) dX9_remember_37 h22 ?_
    refine g_aload_n B 0 dX9_remember_40 rfl rfl ?_
    replace h := bnP_s h
    obtain ⟨x23, h24, h⟩ := h
    refine g_getI B fl_RX9_491 (by decide) dX9_remember_41 h24 ?_
    refine g_iadd B dX9_remember_44 ?_
    refine g_bipush (v := 8) B dX9_remember_45 (by decide) ?_
    refine g_irem B dX9_remember_47 (by decide) ?_
    replace h := bnA_s h
    rcases h with ⟨e9, h26, e8⟩ | ⟨x25, s27, a28, b29, a30, b31, h26, h, ea, eb⟩
    · subst e8
      exact g_callSx (st := []) B (cX9_rowAtc (o := .error e9) h26) mi_X9_rowAt lk_RX9_502 ⟨Nat.le_of_ble_eq_true rfl, Nat.le_of_ble_eq_true rfl⟩ rfl rfl (Nat.le_of_ble_eq_true rfl) dX9_remember_48 (Nat.le_trans (Nat.le_of_eq hka) hla) (Nat.le_trans (Nat.le_of_eq hkb) hlb) hE
    · subst ea; subst eb
      have hka := bk hka
      have hkb := bk hkb
      refine g_callSsA (st := []) B (cX9_rowAtc (o := .ok x25) h26) mi_X9_rowAt lk_RX9_502 ⟨Nat.le_of_ble_eq_true rfl, Nat.le_of_ble_eq_true rfl⟩ rfl rfl (Nat.le_of_ble_eq_true rfl) dX9_remember_48 (Nat.le_trans (bm hka) hla) (Nat.le_trans (bm hkb) hlb) ?_
      refine g_aload_n B 0 dX9_remember_51 rfl rfl ?_
      replace h := bnP_s h
      obtain ⟨x32, h33, h⟩ := h
      refine g_getR B fl_RX9_20 (by decide) dX9_remember_52 h33 ?_
      replace h := bnP_s h
      obtain ⟨s36, h35, h⟩ := h
      refine g_callVv0 (st := []) B (cX1_takec h35) (Nat.le_of_ble_eq_true rfl) rfl rfl mi_X1_take lk_RX9_509 ⟨Nat.le_of_ble_eq_true rfl, Nat.le_of_ble_eq_true rfl⟩ rfl rfl (Nat.le_of_ble_eq_true rfl) dX9_remember_55 (Nat.le_trans (bm hka) hla) (Nat.le_trans (bm hkb) hlb) ?_
      refine g_aload_n B 0 dX9_remember_58 rfl rfl ?_
      refine g_dup B dX9_remember_59 (rf_cat _) ?_
      replace h := bnP_s h
      obtain ⟨x37, h38, h⟩ := h
      refine g_getI B fl_RX9_491 (by decide) dX9_remember_60 h38 ?_
      refine g_iconst (v := 1) B dX9_remember_63 (by decide) ?_
      refine g_iadd B dX9_remember_64 ?_
      replace h := bnP_s h
      obtain ⟨s41, h40, h⟩ := h
      refine g_putI B fl_RX9_491 (by decide) dX9_remember_65 h40 ?_
      obtain ⟨w1, w2, w3, w4⟩ := inA h
      clear h
      subst w1
      subst w2
      subst w3
      subst w4
      exact g_vret B hE (Nat.le_trans (Nat.le_of_eq hka) hla) (Nat.le_trans (Nat.le_of_eq hkb) hlb) dX9_remember_68
  clear h
  have h := h4
  clear h4
  refine g_icmp_ne B 32 dX9_remember_6 (by decide) (fun hc => ?_) (fun hc => ?_)
  · replace h := ifn hc h
    obtain ⟨w1, w2⟩ := inS h
    clear h
    subst w1
    subst w2
    exact g_sub [0] rfl k6
  · replace h := ifp hc h
    refine g_aload_n B 0 dX9_remember_9 rfl rfl ?_
    refine g_aload_n B 0 dX9_remember_10 rfl rfl ?_
    replace h := bnP_s h
    obtain ⟨x8, h9, h⟩ := h
    refine g_getI B fl_RX9_499 (by decide) dX9_remember_11 h9 ?_
    refine g_iconst (v := 1) B dX9_remember_14 (by decide) ?_
    refine g_iadd B dX9_remember_15 ?_
    refine g_bipush (v := 8) B dX9_remember_16 (by decide) ?_
    refine g_irem B dX9_remember_18 (by decide) ?_
    replace h := bnP_s h
    obtain ⟨s12, h11, h⟩ := h
    refine g_putI B fl_RX9_499 (by decide) dX9_remember_19 h11 ?_
    refine g_aload_n B 0 dX9_remember_22 rfl rfl ?_
    refine g_dup B dX9_remember_23 (rf_cat _) ?_
    replace h := bnP_s h
    obtain ⟨x13, h14, h⟩ := h
    refine g_getI B fl_RX9_491 (by decide) dX9_remember_24 h14 ?_
    refine g_iconst (v := 1) B dX9_remember_27 (by decide) ?_
    refine g_isub B dX9_remember_28 ?_
    replace h := bnP_s h
    obtain ⟨s17, h16, h⟩ := h
    refine g_putI B fl_RX9_491 (by decide) dX9_remember_29 h16 ?_
    obtain ⟨w1, w2⟩ := inS h
    clear h
    subst w1
    subst w2
    exact g_sub [0] rfl k6
set_option maxRecDepth 100000 in
set_option maxHeartbeats 4000000 in
theorem cX9_strikec {l : Launch} {v0 : Option Nat} {v1 : Int32} {σ : HpT} {o : Except Nat (Int32)} {σ' : HpT} {a b : Nat} (h : fX9_strike v0 v1 σ = some (o, σ', a, b)) : IsK σ v0 9 ∧ Ct l yX9_strike cX9_strike 2 (some .int) 7 124 [va_rf v0, .int v1] σ (oI o) σ' a b := by
  unfold fX9_strike at h
  replace h := bnP_s h
  obtain ⟨u, hk, h⟩ := h
  replace hk := isK_s hk
  refine ⟨hk, ?_⟩
  refine ct_start mi_X9_strike.1 rfl (al_le (al_1 (rf_cat _) (al_1 rfl al_n)) (Nat.le_of_ble_eq_true rfl)) (ag_1 (rf_cat _) (ag_1 rfl ag_n)) (fun Δ Γ B hE hnm => ?_)
  have hka : 0 + a = a := Nat.zero_add a
  have hkb : 0 + b = b := Nat.zero_add b
  have hla : a ≤ a := Nat.le_refl a
  have hlb : b ≤ b := Nat.le_refl b
  refine g_aload_n B 0 dX9_strike_0 rfl rfl ?_
  replace h := bnXA_s h
  rcases h with ⟨e9, h2, e8, e7, e6, e5⟩ | ⟨x1, h2, h⟩
  · subst e8; subst e7; subst e6; subst e5
    exact g_callVx (st := []) B (cX9_requireBookc (o := .error e9) h2) (Nat.le_of_ble_eq_true rfl) rfl rfl mi_X9_requireBook lk_RX9_95 ⟨Nat.le_of_ble_eq_true rfl, Nat.le_of_ble_eq_true rfl⟩ rfl rfl (Nat.le_of_ble_eq_true rfl) dX9_strike_1 (Nat.le_trans (Nat.le_of_eq hka) hla) (Nat.le_trans (Nat.le_of_eq hkb) hlb) hE
  · skip
    refine g_callVv0 (st := []) B (cX9_requireBookc (o := .ok x1) h2) (Nat.le_of_ble_eq_true rfl) rfl rfl mi_X9_requireBook lk_RX9_95 ⟨Nat.le_of_ble_eq_true rfl, Nat.le_of_ble_eq_true rfl⟩ rfl rfl (Nat.le_of_ble_eq_true rfl) dX9_strike_1 (Nat.le_trans (bm hka) hla) (Nat.le_trans (bm hkb) hlb) ?_
    refine g_aload_n B 0 dX9_strike_4 rfl rfl ?_
    replace h := bnP_s h
    obtain ⟨x3, h4, h⟩ := h
    refine g_getR B fl_RX9_20 (by decide) dX9_strike_5 h4 ?_
    refine g_iload_n B 1 dX9_strike_8 rfl rfl ?_
    replace h := bnP_s h
    obtain ⟨x5, h6, h⟩ := h
    refine g_callVs0 (st := []) B (cX1_strikeReasonc h6) (Nat.le_of_ble_eq_true rfl) rfl rfl mi_X1_strikeReason lk_RX9_316 ⟨Nat.le_of_ble_eq_true rfl, Nat.le_of_ble_eq_true rfl⟩ rfl rfl (Nat.le_of_ble_eq_true rfl) dX9_strike_9 (Nat.le_trans (bm hka) hla) (Nat.le_trans (bm hkb) hlb) ?_
    refine g_if_eq B 26 dX9_strike_12 (by decide) (fun hc => ?_) (fun hc => ?_)
    · replace h := ifp hc h
      refine g_aload_n B 0 dX9_strike_26 rfl rfl ?_
      replace h := bnA_s h
      rcases h with ⟨e9, h8, e8⟩ | ⟨x7, s9, a10, b11, a12, b13, h8, h, ea, eb⟩
      · subst e8
        exact g_callVx (st := []) B (cX9_rememberc (o := .error e9) h8) (Nat.le_of_ble_eq_true rfl) rfl rfl mi_X9_remember lk_RX9_430 ⟨Nat.le_of_ble_eq_true rfl, Nat.le_of_ble_eq_true rfl⟩ rfl rfl (Nat.le_of_ble_eq_true rfl) dX9_strike_27 (Nat.le_trans (Nat.le_of_eq hka) hla) (Nat.le_trans (Nat.le_of_eq hkb) hlb) hE
      · subst ea; subst eb
        have hka := bk hka
        have hkb := bk hkb
        refine g_callVvA (st := []) B (cX9_rememberc (o := .ok x7) h8) (Nat.le_of_ble_eq_true rfl) rfl rfl mi_X9_remember lk_RX9_430 ⟨Nat.le_of_ble_eq_true rfl, Nat.le_of_ble_eq_true rfl⟩ rfl rfl (Nat.le_of_ble_eq_true rfl) dX9_strike_27 (Nat.le_trans (bm hka) hla) (Nat.le_trans (bm hkb) hlb) ?_
        refine g_aload_n B 0 dX9_strike_30 rfl rfl ?_
        replace h := bnP_s h
        obtain ⟨x14, h15, h⟩ := h
        refine g_getR B fl_RX9_20 (by decide) dX9_strike_31 h15 ?_
        refine g_iload_n B 1 dX9_strike_34 rfl rfl ?_
        replace h := bnP_s h
        obtain ⟨s18, h17, h⟩ := h
        refine g_callVv0 (st := []) B (cX1_strikeWordc h17) (Nat.le_of_ble_eq_true rfl) rfl rfl mi_X1_strikeWord lk_RX9_441 ⟨Nat.le_of_ble_eq_true rfl, Nat.le_of_ble_eq_true rfl⟩ rfl rfl (Nat.le_of_ble_eq_true rfl) dX9_strike_35 (Nat.le_trans (bm hka) hla) (Nat.le_trans (bm hkb) hlb) ?_
        refine g_aload_n B 0 dX9_strike_38 rfl rfl ?_
        replace h := bnP_s h
        obtain ⟨x19, h20, h⟩ := h
        refine g_getR B fl_RX9_20 (by decide) dX9_strike_39 h20 ?_
        replace h := bnP_s h
        obtain ⟨x21, h22, h⟩ := h
        refine g_callVs0 (st := []) B (cX1_openStandingc h22) (Nat.le_of_ble_eq_true rfl) rfl rfl mi_X1_openStanding lk_RX9_345 ⟨Nat.le_of_ble_eq_true rfl, Nat.le_of_ble_eq_true rfl⟩ rfl rfl (Nat.le_of_ble_eq_true rfl) dX9_strike_42 (Nat.le_trans (bm hka) hla) (Nat.le_trans (bm hkb) hlb) ?_
        obtain ⟨w1, w2, w3, w4⟩ := inA h
        clear h
        subst w1
        subst w2
        subst w3
        subst w4
        exact g_iret B hE (Nat.le_trans (Nat.le_of_eq hka) hla) (Nat.le_trans (Nat.le_of_eq hkb) hlb) dX9_strike_45
    · replace h := ifn hc h
      obtain ⟨w1, w2, w3, w4⟩ := inA h
      clear h
      subst w1
      subst w2
      subst w3
      subst w4
      exact g_throwW B tw_RX9_78_82 (j := 25) rfl hE (by decide) (Nat.le_of_ble_eq_true rfl) dX9_strike_15 dX9_strike_18 dX9_strike_19 dX9_strike_22 dX9_strike_25 (Nat.le_trans (Nat.le_of_eq hka) hla) (Nat.le_trans (Nat.le_of_eq hkb) hlb)
set_option maxRecDepth 100000 in
set_option maxHeartbeats 4000000 in
theorem cX9_strikeClausec {l : Launch} {v0 : Option Nat} {v1 : Int32} {σ : HpT} {o : Except Nat (Int32)} {σ' : HpT} {a b : Nat} (h : fX9_strikeClause v0 v1 σ = some (o, σ', a, b)) : IsK σ v0 9 ∧ Ct l yX9_strikeClause cX9_strikeClause 2 (some .int) 7 124 [va_rf v0, .int v1] σ (oI o) σ' a b := by
  unfold fX9_strikeClause at h
  replace h := bnP_s h
  obtain ⟨u, hk, h⟩ := h
  replace hk := isK_s hk
  refine ⟨hk, ?_⟩
  refine ct_start mi_X9_strikeClause.1 rfl (al_le (al_1 (rf_cat _) (al_1 rfl al_n)) (Nat.le_of_ble_eq_true rfl)) (ag_1 (rf_cat _) (ag_1 rfl ag_n)) (fun Δ Γ B hE hnm => ?_)
  have hka : 0 + a = a := Nat.zero_add a
  have hkb : 0 + b = b := Nat.zero_add b
  have hla : a ≤ a := Nat.le_refl a
  have hlb : b ≤ b := Nat.le_refl b
  refine g_aload_n B 0 dX9_strikeClause_0 rfl rfl ?_
  replace h := bnXA_s h
  rcases h with ⟨e9, h2, e8, e7, e6, e5⟩ | ⟨x1, h2, h⟩
  · subst e8; subst e7; subst e6; subst e5
    exact g_callVx (st := []) B (cX9_requireBookc (o := .error e9) h2) (Nat.le_of_ble_eq_true rfl) rfl rfl mi_X9_requireBook lk_RX9_95 ⟨Nat.le_of_ble_eq_true rfl, Nat.le_of_ble_eq_true rfl⟩ rfl rfl (Nat.le_of_ble_eq_true rfl) dX9_strikeClause_1 (Nat.le_trans (Nat.le_of_eq hka) hla) (Nat.le_trans (Nat.le_of_eq hkb) hlb) hE
  · skip
    refine g_callVv0 (st := []) B (cX9_requireBookc (o := .ok x1) h2) (Nat.le_of_ble_eq_true rfl) rfl rfl mi_X9_requireBook lk_RX9_95 ⟨Nat.le_of_ble_eq_true rfl, Nat.le_of_ble_eq_true rfl⟩ rfl rfl (Nat.le_of_ble_eq_true rfl) dX9_strikeClause_1 (Nat.le_trans (bm hka) hla) (Nat.le_trans (bm hkb) hlb) ?_
    refine g_aload_n B 0 dX9_strikeClause_4 rfl rfl ?_
    replace h := bnP_s h
    obtain ⟨x3, h4, h⟩ := h
    refine g_getR B fl_RX9_20 (by decide) dX9_strikeClause_5 h4 ?_
    refine g_iload_n B 1 dX9_strikeClause_8 rfl rfl ?_
    replace h := bnS_s h
    obtain ⟨x5, s7, h6, h⟩ := h
    refine g_callVs0 (st := []) B (cX1_seekClauseAroundc h6) (Nat.le_of_ble_eq_true rfl) rfl rfl mi_X1_seekClauseAround lk_RX9_348 ⟨Nat.le_of_ble_eq_true rfl, Nat.le_of_ble_eq_true rfl⟩ rfl rfl (Nat.le_of_ble_eq_true rfl) dX9_strikeClause_9 (Nat.le_trans (bm hka) hla) (Nat.le_trans (bm hkb) hlb) ?_
    refine g_if_ne B 26 dX9_strikeClause_12 (by decide) (fun hc => ?_) (fun hc => ?_)
    · replace h := ifp (bI1 hc) h
      refine g_aload_n B 0 dX9_strikeClause_26 rfl rfl ?_
      replace h := bnA_s h
      rcases h with ⟨e9, h9, e8⟩ | ⟨x8, s10, a11, b12, a13, b14, h9, h, ea, eb⟩
      · subst e8
        exact g_callVx (st := []) B (cX9_rememberc (o := .error e9) h9) (Nat.le_of_ble_eq_true rfl) rfl rfl mi_X9_remember lk_RX9_430 ⟨Nat.le_of_ble_eq_true rfl, Nat.le_of_ble_eq_true rfl⟩ rfl rfl (Nat.le_of_ble_eq_true rfl) dX9_strikeClause_27 (Nat.le_trans (Nat.le_of_eq hka) hla) (Nat.le_trans (Nat.le_of_eq hkb) hlb) hE
      · subst ea; subst eb
        have hka := bk hka
        have hkb := bk hkb
        refine g_callVvA (st := []) B (cX9_rememberc (o := .ok x8) h9) (Nat.le_of_ble_eq_true rfl) rfl rfl mi_X9_remember lk_RX9_430 ⟨Nat.le_of_ble_eq_true rfl, Nat.le_of_ble_eq_true rfl⟩ rfl rfl (Nat.le_of_ble_eq_true rfl) dX9_strikeClause_27 (Nat.le_trans (bm hka) hla) (Nat.le_trans (bm hkb) hlb) ?_
        refine g_aload_n B 0 dX9_strikeClause_30 rfl rfl ?_
        replace h := bnP_s h
        obtain ⟨x15, h16, h⟩ := h
        refine g_getR B fl_RX9_20 (by decide) dX9_strikeClause_31 h16 ?_
        refine g_iload_n B 1 dX9_strikeClause_34 rfl rfl ?_
        replace h := bnS_s h
        obtain ⟨x17, s19, h18, h⟩ := h
        refine g_callVs0 (st := []) B (cX1_strikeAroundc h18) (Nat.le_of_ble_eq_true rfl) rfl rfl mi_X1_strikeAround lk_RX9_446 ⟨Nat.le_of_ble_eq_true rfl, Nat.le_of_ble_eq_true rfl⟩ rfl rfl (Nat.le_of_ble_eq_true rfl) dX9_strikeClause_35 (Nat.le_trans (bm hka) hla) (Nat.le_trans (bm hkb) hlb) ?_
        obtain ⟨w1, w2, w3, w4⟩ := inA h
        clear h
        subst w1
        subst w2
        subst w3
        subst w4
        exact g_iret B hE (Nat.le_trans (Nat.le_of_eq hka) hla) (Nat.le_trans (Nat.le_of_eq hkb) hlb) dX9_strikeClause_38
    · replace h := ifn (bI0 hc) h
      obtain ⟨w1, w2, w3, w4⟩ := inA h
      clear h
      subst w1
      subst w2
      subst w3
      subst w4
      exact g_throwW B tw_RX9_78_82 (j := 26) rfl hE (by decide) (Nat.le_of_ble_eq_true rfl) dX9_strikeClause_15 dX9_strikeClause_18 dX9_strikeClause_19 dX9_strikeClause_22 dX9_strikeClause_25 (Nat.le_trans (Nat.le_of_eq hka) hla) (Nat.le_trans (Nat.le_of_eq hkb) hlb)
set_option maxRecDepth 100000 in
set_option maxHeartbeats 4000000 in
theorem cX9_inputWordc {l : Launch} {v0 : Option Nat} {v1 : Int32} {σ : HpT} {r : Int64} (h : fX9_inputWord v0 v1 σ = some r) : IsK σ v0 9 ∧ Ct l yX9_inputWord cX9_inputWord 5 (some .long) 1 22 [va_rf v0, .int v1] σ (.ok (some (.long r))) σ 0 0 := by
  unfold fX9_inputWord at h
  replace h := bnP_s h
  obtain ⟨u, hk, h⟩ := h
  replace hk := isK_s hk
  refine ⟨hk, ?_⟩
  refine ct_start mi_X9_inputWord.1 rfl (al_le (al_1 (rf_cat _) (al_1 rfl al_n)) (Nat.le_of_ble_eq_true rfl)) (ag_1 (rf_cat _) (ag_1 rfl ag_n)) (fun Δ Γ B hE hnm => ?_)
  refine g_iload_n B 1 dX9_inputWord_0 rfl rfl ?_
  refine g_bipush (v := 8) B dX9_inputWord_1 (by decide) ?_
  refine g_icmp_le B 8 dX9_inputWord_3 (by decide) (fun hc => ?_) (fun hc => ?_)
  · replace h := ifp hc h
    refine g_lconst (v := 0) B dX9_inputWord_8 (by decide) ?_
    refine g_lstore_n B dX9_inputWord_9 rfl (Nat.le_of_ble_eq_true rfl) (s2_c (f2_k rfl (f2_1 rfl rfl f2_n))) ?_
    refine g_iconst (v := 0) B dX9_inputWord_10 (by decide) ?_
    refine g_istore B dX9_inputWord_11 (Nat.le_of_ble_eq_true rfl) (s1_c (f1_k rfl (f1_k rfl (f1_k rfl f1_n)))) ?_
    replace h := bnP_s h
    obtain ⟨r2, h3, h⟩ := h
    have kE4 : ∀ y22, r2 = .inl y22 → GW Δ Γ (0) (0) 52 [(2, .long y22)] [] σ := by
      intro y22 er
      subst er
      dsimp only at h
      refine g_lload_n B 0 dX9_inputWord_52 rfl rfl ?_
      replace h := Option.some.inj h
      subst h
      exact g_lret B hE (Nat.zero_le _) (Nat.zero_le _) dX9_inputWord_53
    have kR5 : ∀ vv, r2 = .inr vv → En Δ Γ (.ok (some (.long vv))) σ 0 0 (some .long) ∧ 0 ≤ 0 ∧ 0 ≤ 0 := by
      intro vv er
      subst er
      dsimp only at h
      replace h := Option.some.inj h
      subst h
      exact ⟨hE, Nat.zero_le _, Nat.zero_le _⟩
    clear h
    refine g_sub [2, 3, 1, 0] rfl ?_
    refine lpP_w (I := fun q1 => GW Δ Γ (0) (0) 13 [(0, va_rf v0), (1, .int v1), (2, .long q1.1), (4, .int q1.2)] [] σ) (r := r2) ?_ FUEL (0, 0) h3
    intro q1 x8 h hI6 hR7
    unfold fX9_inputWord_l1 at h
    refine g_iload B 3 dX9_inputWord_13 rfl ?_
    refine g_iload_n B 1 dX9_inputWord_15 rfl rfl ?_
    refine g_icmp_ge B 52 dX9_inputWord_16 (by decide) (fun hc => ?_) (fun hc => ?_)
    · replace h := ifp hc h
      replace h := Option.some.inj h
      subst h
      have e8 := hR7 _ rfl
      subst e8
      exact g_sub [2] rfl (kE4 _ rfl)
    · replace h := ifn hc h
      refine g_aload_n B 0 dX9_inputWord_19 rfl rfl ?_
      replace h := bnP_s h
      obtain ⟨x10, h11, h⟩ := h
      refine g_getR B fl_RX9_9 (by decide) dX9_inputWord_20 h11 ?_
      refine g_iload B 3 dX9_inputWord_23 rfl ?_
      replace h := bnP_s h
      obtain ⟨x12, h13, h⟩ := h
      refine g_bald B dX9_inputWord_25 h13 ?_
      replace h := bnP_s h
      obtain ⟨x14, h15, h⟩ := h
      refine g_callSs0 (st := []) B (cX9_isLetterc h15) mi_X9_isLetter lk_RX9_551 ⟨Nat.le_of_ble_eq_true rfl, Nat.le_of_ble_eq_true rfl⟩ rfl rfl (Nat.le_of_ble_eq_true rfl) dX9_inputWord_26 (Nat.zero_le _) (Nat.zero_le _) ?_
      refine g_if_ne B 34 dX9_inputWord_29 (by decide) (fun hc => ?_) (fun hc => ?_)
      · replace h := ifp (bI1 hc) h
        refine g_lload_n B 2 dX9_inputWord_34 rfl rfl ?_
        refine g_aload_n B 0 dX9_inputWord_35 rfl rfl ?_
        replace h := bnP_s h
        obtain ⟨x16, h17, h⟩ := h
        refine g_getR B fl_RX9_9 (by decide) dX9_inputWord_36 h17 ?_
        refine g_iload B 3 dX9_inputWord_39 rfl ?_
        replace h := bnP_s h
        obtain ⟨x18, h19, h⟩ := h
        refine g_bald B dX9_inputWord_41 h19 ?_
        replace h := bnP_s h
        obtain ⟨x20, h21, h⟩ := h
        refine g_callSs0 (st := []) B (cX9_joinedc h21) mi_X9_joined lk_RX9_547 ⟨Nat.le_of_ble_eq_true rfl, Nat.le_of_ble_eq_true rfl⟩ rfl rfl (Nat.le_of_ble_eq_true rfl) dX9_inputWord_42 (Nat.zero_le _) (Nat.zero_le _) ?_
        refine g_lstore_n B dX9_inputWord_45 rfl (Nat.le_of_ble_eq_true rfl) (s2_c (f2_k rfl (f2_1 rfl rfl (f2_x (f2_k rfl f2_n))))) ?_
        refine g_iinc (v := (q1.2 + 1)) B 3 dX9_inputWord_46 rfl (by first | rfl | (congr 1; decide)) (Nat.le_of_ble_eq_true rfl) (s1_c (f1_k rfl (f1_k rfl (f1_k rfl (f1_x f1_n))))) ?_
        refine g_goto B 13 dX9_inputWord_49 (by decide) ?_
        replace h := Option.some.inj h
        subst h
        exact g_sub [2, 3, 1, 0] rfl (hI6 _ rfl)
      · replace h := ifn (bI0 hc) h
        refine g_lconst (v := 0) B dX9_inputWord_32 (by decide) ?_
        replace h := Option.some.inj h
        subst h
        have e8 := hR7 _ rfl
        obtain ⟨hE, hc9, hs9⟩ := kR5 _ e8.symm
        exact g_lret B hE hc9 hs9 dX9_inputWord_33
  · replace h := ifn hc h
    refine g_lconst (v := 0) B dX9_inputWord_6 (by decide) ?_
    replace h := Option.some.inj h
    subst h
    exact g_lret B hE (Nat.zero_le _) (Nat.zero_le _) dX9_inputWord_7
