theorem mi_X10_actOf : MI yX10_actOf cX10_actOf 3 (some .int) 1 := ⟨by decide +kernel, (mw (i := 2373) (by decide +kernel) rfl), (mw (i := 176) (by decide +kernel) rfl), by decide +kernel, by decide +kernel⟩
theorem mi_X10_copies : MI yX10_copies cX10_copies 3 none 2 := ⟨by decide +kernel, (mw (i := 2377) (by decide +kernel) rfl), (mw (i := 176) (by decide +kernel) rfl), by decide +kernel, by decide +kernel⟩
theorem mi_X10_copiesWith : MI yX10_copiesWith cX10_copiesWith 4 (some .int) 1 := ⟨by decide +kernel, (mw (i := 2361) (by decide +kernel) rfl), (mw (i := 176) (by decide +kernel) rfl), by decide +kernel, by decide +kernel⟩
theorem mi_X10_depthOf : MI yX10_depthOf cX10_depthOf 4 (some .int) 1 := ⟨by decide +kernel, (mw (i := 2472) (by decide +kernel) rfl), (mw (i := 176) (by decide +kernel) rfl), by decide +kernel, by decide +kernel⟩
theorem mi_X10_feeOf : MI yX10_feeOf cX10_feeOf 1 (some .int) 1 := ⟨by decide +kernel, (mw (i := 2380) (by decide +kernel) rfl), (mw (i := 176) (by decide +kernel) rfl), by decide +kernel, by decide +kernel⟩
theorem mi_X10_firstStanding : MI yX10_firstStanding cX10_firstStanding 3 (some .int) 1 := ⟨by decide +kernel, (mw (i := 2341) (by decide +kernel) rfl), (mw (i := 176) (by decide +kernel) rfl), by decide +kernel, by decide +kernel⟩
theorem mi_X10_hasBy : MI yX10_hasBy cX10_hasBy 4 (some .boolean) 3 := ⟨by decide +kernel, (mw (i := 2337) (by decide +kernel) rfl), (mw (i := 176) (by decide +kernel) rfl), by decide +kernel, by decide +kernel⟩
theorem mi_X10_hasWord : MI yX10_hasWord cX10_hasWord 3 (some .boolean) 2 := ⟨by decide +kernel, (mw (i := 2365) (by decide +kernel) rfl), (mw (i := 176) (by decide +kernel) rfl), by decide +kernel, by decide +kernel⟩
theorem mi_X10_isKnown : MI yX10_isKnown cX10_isKnown 2 (some .boolean) 1 := ⟨by decide +kernel, (mw (i := 2349) (by decide +kernel) rfl), (mw (i := 176) (by decide +kernel) rfl), by decide +kernel, by decide +kernel⟩
theorem mi_X10_isOnLost : MI yX10_isOnLost cX10_isOnLost 2 (some .boolean) 1 := ⟨by decide +kernel, (mw (i := 2353) (by decide +kernel) rfl), (mw (i := 176) (by decide +kernel) rfl), by decide +kernel, by decide +kernel⟩
theorem mi_X10_lastStanding : MI yX10_lastStanding cX10_lastStanding 3 (some .int) 1 := ⟨by decide +kernel, (mw (i := 2345) (by decide +kernel) rfl), (mw (i := 176) (by decide +kernel) rfl), by decide +kernel, by decide +kernel⟩
theorem mi_X10_leafHere : MI yX10_leafHere cX10_leafHere 1 (some .int) 0 := ⟨by decide +kernel, (mw (i := 2393) (by decide +kernel) rfl), (mw (i := 176) (by decide +kernel) rfl), by decide +kernel, by decide +kernel⟩
theorem mi_X10_load : MI yX10_load cX10_load 3 (some .int) 1 := ⟨by decide +kernel, (mw (i := 2101) (by decide +kernel) rfl), (mw (i := 176) (by decide +kernel) rfl), by decide +kernel, by decide +kernel⟩
theorem mi_X10_loosens : MI yX10_loosens cX10_loosens 3 none 1 := ⟨by decide +kernel, (mw (i := 2401) (by decide +kernel) rfl), (mw (i := 176) (by decide +kernel) rfl), by decide +kernel, by decide +kernel⟩
theorem mi_X10_loses : MI yX10_loses cX10_loses 2 none 1 := ⟨by decide +kernel, (mw (i := 2397) (by decide +kernel) rfl), (mw (i := 176) (by decide +kernel) rfl), by decide +kernel, by decide +kernel⟩
theorem mi_X10_ofCopy : MI yX10_ofCopy cX10_ofCopy 3 (some .int) 2 := ⟨by decide +kernel, (mw (i := 2369) (by decide +kernel) rfl), (mw (i := 176) (by decide +kernel) rfl), by decide +kernel, by decide +kernel⟩
theorem mi_X10_readsCancel : MI yX10_readsCancel cX10_readsCancel 1 none 0 := ⟨by decide +kernel, (mw (i := 2324) (by decide +kernel) rfl), (mw (i := 176) (by decide +kernel) rfl), by decide +kernel, by decide +kernel⟩
theorem mi_X10_readsCopy : MI yX10_readsCopy cX10_readsCopy 3 none 0 := ⟨by decide +kernel, (mw (i := 2329) (by decide +kernel) rfl), (mw (i := 176) (by decide +kernel) rfl), by decide +kernel, by decide +kernel⟩
theorem mi_X10_readsFind : MI yX10_readsFind cX10_readsFind 2 none 0 := ⟨by decide +kernel, (mw (i := 2406) (by decide +kernel) rfl), (mw (i := 176) (by decide +kernel) rfl), by decide +kernel, by decide +kernel⟩
theorem mi_X10_readsLeafLine : MI yX10_readsLeafLine cX10_readsLeafLine 1 none 0 := ⟨by decide +kernel, (mw (i := 2384) (by decide +kernel) rfl), (mw (i := 176) (by decide +kernel) rfl), by decide +kernel, by decide +kernel⟩
theorem mi_X10_readsLine : MI yX10_readsLine cX10_readsLine 1 none 0 := ⟨by decide +kernel, (mw (i := 2165) (by decide +kernel) rfl), (mw (i := 176) (by decide +kernel) rfl), by decide +kernel, by decide +kernel⟩
theorem mi_X10_readsLose : MI yX10_readsLose cX10_readsLose 2 none 0 := ⟨by decide +kernel, (mw (i := 2389) (by decide +kernel) rfl), (mw (i := 176) (by decide +kernel) rfl), by decide +kernel, by decide +kernel⟩
theorem mi_X10_readsSeal : MI yX10_readsSeal cX10_readsSeal 4 none 0 := ⟨by decide +kernel, (mw (i := 2303) (by decide +kernel) rfl), (mw (i := 176) (by decide +kernel) rfl), by decide +kernel, by decide +kernel⟩
theorem mi_X10_readsSew : MI yX10_readsSew cX10_readsSew 2 none 0 := ⟨by decide +kernel, (mw (i := 2415) (by decide +kernel) rfl), (mw (i := 176) (by decide +kernel) rfl), by decide +kernel, by decide +kernel⟩
theorem mi_X10_readsShake : MI yX10_readsShake cX10_readsShake 2 none 0 := ⟨by decide +kernel, (mw (i := 2420) (by decide +kernel) rfl), (mw (i := 176) (by decide +kernel) rfl), by decide +kernel, by decide +kernel⟩
theorem mi_X10_readsText : MI yX10_readsText cX10_readsText 1 none 0 := ⟨by decide +kernel, (mw (i := 2123) (by decide +kernel) rfl), (mw (i := 176) (by decide +kernel) rfl), by decide +kernel, by decide +kernel⟩
theorem mi_X10_recovers : MI yX10_recovers cX10_recovers 3 none 1 := ⟨by decide +kernel, (mw (i := 2410) (by decide +kernel) rfl), (mw (i := 176) (by decide +kernel) rfl), by decide +kernel, by decide +kernel⟩
theorem mi_X10_shakes : MI yX10_shakes cX10_shakes 3 (some .int) 0 := ⟨by decide +kernel, (mw (i := 2424) (by decide +kernel) rfl), (mw (i := 176) (by decide +kernel) rfl), by decide +kernel, by decide +kernel⟩
theorem mi_X10_statusOf : MI yX10_statusOf cX10_statusOf 2 (some .int) 1 := ⟨by decide +kernel, (mw (i := 2357) (by decide +kernel) rfl), (mw (i := 176) (by decide +kernel) rfl), by decide +kernel, by decide +kernel⟩
theorem mi_X10_whyCopy : MI yX10_whyCopy cX10_whyCopy 4 (some .int) 2 := ⟨by decide +kernel, (mw (i := 2333) (by decide +kernel) rfl), (mw (i := 176) (by decide +kernel) rfl), by decide +kernel, by decide +kernel⟩
theorem fl_RX10_324 : Fl RX10 324 10 7 .int false := ⟨RX10, TX10, 24, tyX10, rfl, by decide, rfl, lay_10, (mw (i := 2008) (by decide +kernel) rfl), tyX10_ok, nmX10, tyX10_ok 7 (by decide), rfl, by decide, by decide⟩
theorem lk_RX10_215 : LV RX10 215 yX10_number := ⟨(mw (i := 2154) (by decide +kernel) rfl), (mw (i := 2156) (by decide +kernel) rfl), (mw (i := 48) (by decide +kernel) rfl)⟩
theorem lk_RX10_218 : LV RX10 218 yX10_whySeal := ⟨(mw (i := 2304) (by decide +kernel) rfl), (mw (i := 2306) (by decide +kernel) rfl), (mw (i := 82) (by decide +kernel) rfl)⟩
theorem lk_RX10_221 : LV RX10 221 yX10_seals := ⟨(mw (i := 2316) (by decide +kernel) rfl), (mw (i := 2318) (by decide +kernel) rfl), (mw (i := 85) (by decide +kernel) rfl)⟩
theorem lk_RX10_224 : LV RX10 224 yX10_whyCopy := ⟨(mw (i := 2330) (by decide +kernel) rfl), (mw (i := 2332) (by decide +kernel) rfl), (mw (i := 88) (by decide +kernel) rfl)⟩
theorem lk_RX10_227 : LV RX10 227 yX10_copies := ⟨(mw (i := 2374) (by decide +kernel) rfl), (mw (i := 2376) (by decide +kernel) rfl), (mw (i := 99) (by decide +kernel) rfl)⟩
theorem lk_RX10_234 : LV RX10 234 yX10_leafHere := ⟨(mw (i := 2390) (by decide +kernel) rfl), (mw (i := 2392) (by decide +kernel) rfl), (mw (i := 102) (by decide +kernel) rfl)⟩
theorem lk_RX10_237 : LV RX10 237 yX10_statusOf := ⟨(mw (i := 2354) (by decide +kernel) rfl), (mw (i := 2356) (by decide +kernel) rfl), (mw (i := 94) (by decide +kernel) rfl)⟩
theorem lk_RX10_240 : LV RX10 240 yX10_loses := ⟨(mw (i := 2394) (by decide +kernel) rfl), (mw (i := 2396) (by decide +kernel) rfl), (mw (i := 103) (by decide +kernel) rfl)⟩
theorem lk_RX10_243 : LV RX10 243 yX10_recovers := ⟨(mw (i := 2407) (by decide +kernel) rfl), (mw (i := 2409) (by decide +kernel) rfl), (mw (i := 106) (by decide +kernel) rfl)⟩
theorem lk_RX10_246 : LV RX10 246 yX10_shakes := ⟨(mw (i := 2421) (by decide +kernel) rfl), (mw (i := 2423) (by decide +kernel) rfl), (mw (i := 109) (by decide +kernel) rfl)⟩
theorem lk_RX10_251 : LV RX10 251 yX10_readsAct := ⟨(mw (i := 2167) (by decide +kernel) rfl), (mw (i := 2169) (by decide +kernel) rfl), (mw (i := 51) (by decide +kernel) rfl)⟩
theorem lk_RX10_256 : LV RX10 256 yX10_readsStrike := ⟨(mw (i := 2238) (by decide +kernel) rfl), (mw (i := 2240) (by decide +kernel) rfl), (mw (i := 67) (by decide +kernel) rfl)⟩
theorem lk_RX10_261 : LV RX10 261 yX10_readsOut := ⟨(mw (i := 2275) (by decide +kernel) rfl), (mw (i := 2277) (by decide +kernel) rfl), (mw (i := 76) (by decide +kernel) rfl)⟩
theorem lk_RX10_266 : LV RX10 266 yX10_readsInsert := ⟨(mw (i := 2291) (by decide +kernel) rfl), (mw (i := 2293) (by decide +kernel) rfl), (mw (i := 79) (by decide +kernel) rfl)⟩
theorem lk_RX10_271 : LV RX10 271 yX10_readsSeal := ⟨(mw (i := 2300) (by decide +kernel) rfl), (mw (i := 2302) (by decide +kernel) rfl), (mw (i := 81) (by decide +kernel) rfl)⟩
theorem lk_RX10_276 : LV RX10 276 yX10_readsCancel := ⟨(mw (i := 2321) (by decide +kernel) rfl), (mw (i := 2323) (by decide +kernel) rfl), (mw (i := 86) (by decide +kernel) rfl)⟩
theorem lk_RX10_281 : LV RX10 281 yX10_readsCopy := ⟨(mw (i := 2326) (by decide +kernel) rfl), (mw (i := 2328) (by decide +kernel) rfl), (mw (i := 87) (by decide +kernel) rfl)⟩
theorem lk_RX10_284 : LV RX10 284 yX10_readsLeafLine := ⟨(mw (i := 2381) (by decide +kernel) rfl), (mw (i := 2383) (by decide +kernel) rfl), (mw (i := 100) (by decide +kernel) rfl)⟩
theorem lk_RX10_289 : LV RX10 289 yX10_readsLose := ⟨(mw (i := 2386) (by decide +kernel) rfl), (mw (i := 2388) (by decide +kernel) rfl), (mw (i := 101) (by decide +kernel) rfl)⟩
theorem lk_RX10_294 : LV RX10 294 yX10_readsFind := ⟨(mw (i := 2403) (by decide +kernel) rfl), (mw (i := 2405) (by decide +kernel) rfl), (mw (i := 105) (by decide +kernel) rfl)⟩
theorem lk_RX10_299 : LV RX10 299 yX10_readsSew := ⟨(mw (i := 2412) (by decide +kernel) rfl), (mw (i := 2414) (by decide +kernel) rfl), (mw (i := 107) (by decide +kernel) rfl)⟩
theorem lk_RX10_304 : LV RX10 304 yX10_readsShake := ⟨(mw (i := 2417) (by decide +kernel) rfl), (mw (i := 2419) (by decide +kernel) rfl), (mw (i := 108) (by decide +kernel) rfl)⟩
theorem lk_RX10_309 : LV RX10 309 yX10_readsLine := ⟨(mw (i := 2162) (by decide +kernel) rfl), (mw (i := 2164) (by decide +kernel) rfl), (mw (i := 50) (by decide +kernel) rfl)⟩
theorem lk_RX10_312 : LV RX10 312 yX10_begins := ⟨(mw (i := 2109) (by decide +kernel) rfl), (mw (i := 2111) (by decide +kernel) rfl), (mw (i := 39) (by decide +kernel) rfl)⟩
theorem lk_RX10_315 : LV RX10 315 yX10_thinks := ⟨(mw (i := 2113) (by decide +kernel) rfl), (mw (i := 2115) (by decide +kernel) rfl), (mw (i := 40) (by decide +kernel) rfl)⟩
theorem lk_RX10_318 : LV RX10 318 yX10_readsText := ⟨(mw (i := 2120) (by decide +kernel) rfl), (mw (i := 2122) (by decide +kernel) rfl), (mw (i := 41) (by decide +kernel) rfl)⟩
theorem lk_RX10_321 : LV RX10 321 yX10_back := ⟨(mw (i := 2425) (by decide +kernel) rfl), (mw (i := 2427) (by decide +kernel) rfl), (mw (i := 110) (by decide +kernel) rfl)⟩
theorem lk_RX10_346 : LV RX10 346 yX10_loosens := ⟨(mw (i := 2398) (by decide +kernel) rfl), (mw (i := 2400) (by decide +kernel) rfl), (mw (i := 104) (by decide +kernel) rfl)⟩
theorem lk_RX10_349 : LV RX10 349 yX10_firstStanding := ⟨(mw (i := 2338) (by decide +kernel) rfl), (mw (i := 2340) (by decide +kernel) rfl), (mw (i := 90) (by decide +kernel) rfl)⟩
theorem lk_RX10_352 : LV RX10 352 yX10_lastStanding := ⟨(mw (i := 2342) (by decide +kernel) rfl), (mw (i := 2344) (by decide +kernel) rfl), (mw (i := 91) (by decide +kernel) rfl)⟩
theorem lk_RX10_355 : LV RX10 355 yX10_ofCopy := ⟨(mw (i := 2366) (by decide +kernel) rfl), (mw (i := 2368) (by decide +kernel) rfl), (mw (i := 97) (by decide +kernel) rfl)⟩
theorem lk_RX10_358 : LV RX10 358 yX10_actOf := ⟨(mw (i := 2370) (by decide +kernel) rfl), (mw (i := 2372) (by decide +kernel) rfl), (mw (i := 98) (by decide +kernel) rfl)⟩
theorem lk_RX10_361 : LV RX10 361 yX10_hasBy := ⟨(mw (i := 2334) (by decide +kernel) rfl), (mw (i := 2336) (by decide +kernel) rfl), (mw (i := 89) (by decide +kernel) rfl)⟩
theorem lk_RX10_364 : LV RX10 364 yX10_hasWord := ⟨(mw (i := 2362) (by decide +kernel) rfl), (mw (i := 2364) (by decide +kernel) rfl), (mw (i := 96) (by decide +kernel) rfl)⟩
theorem lk_RX10_368 : LV RX10 368 yX10_isOnLost := ⟨(mw (i := 2350) (by decide +kernel) rfl), (mw (i := 2352) (by decide +kernel) rfl), (mw (i := 93) (by decide +kernel) rfl)⟩
theorem lk_RX10_371 : LV RX10 371 yX10_copiesWith := ⟨(mw (i := 2358) (by decide +kernel) rfl), (mw (i := 2360) (by decide +kernel) rfl), (mw (i := 95) (by decide +kernel) rfl)⟩
theorem lk_RX10_374 : LV RX10 374 yX10_isKnown := ⟨(mw (i := 2346) (by decide +kernel) rfl), (mw (i := 2348) (by decide +kernel) rfl), (mw (i := 92) (by decide +kernel) rfl)⟩
theorem lk_RX10_377 : LSt RX10 377 yX10_feeOf := ⟨(mw (i := 2378) (by decide +kernel) rfl), (mw (i := 2379) (by decide +kernel) rfl)⟩
theorem dX10_readsSeal_0 : decode cX10_readsSeal 0 = .ok (.aload_n 0, 1) := by decide +kernel
theorem dX10_readsSeal_1 : decode cX10_readsSeal 1 = .ok (.invokevirtual 122, 3) := by decide +kernel
theorem dX10_readsSeal_4 : decode cX10_readsSeal 4 = .ok (.aload_n 0, 1) := by decide +kernel
theorem dX10_readsSeal_5 : decode cX10_readsSeal 5 = .ok (.iconst 0, 1) := by decide +kernel
theorem dX10_readsSeal_6 : decode cX10_readsSeal 6 = .ok (.bipush 9, 2) := by decide +kernel
theorem dX10_readsSeal_8 : decode cX10_readsSeal 8 = .ok (.invokevirtual 215, 3) := by decide +kernel
theorem dX10_readsSeal_11 : decode cX10_readsSeal 11 = .ok (.istore_n 1, 1) := by decide +kernel
theorem dX10_readsSeal_12 : decode cX10_readsSeal 12 = .ok (.aload_n 0, 1) := by decide +kernel
theorem dX10_readsSeal_13 : decode cX10_readsSeal 13 = .ok (.iconst 0, 1) := by decide +kernel
theorem dX10_readsSeal_14 : decode cX10_readsSeal 14 = .ok (.bipush 99, 2) := by decide +kernel
theorem dX10_readsSeal_16 : decode cX10_readsSeal 16 = .ok (.invokevirtual 118, 3) := by decide +kernel
theorem dX10_readsSeal_19 : decode cX10_readsSeal 19 = .ok (.istore_n 2, 1) := by decide +kernel
theorem dX10_readsSeal_20 : decode cX10_readsSeal 20 = .ok (.aload_n 0, 1) := by decide +kernel
theorem dX10_readsSeal_21 : decode cX10_readsSeal 21 = .ok (.getfield 73, 3) := by decide +kernel
theorem dX10_readsSeal_24 : decode cX10_readsSeal 24 = .ok (.ifCond .ne 17, 3) := by decide +kernel
theorem dX10_readsSeal_27 : decode cX10_readsSeal 27 = .ok (.aload_n 0, 1) := by decide +kernel
theorem dX10_readsSeal_28 : decode cX10_readsSeal 28 = .ok (.iload_n 1, 1) := by decide +kernel
theorem dX10_readsSeal_29 : decode cX10_readsSeal 29 = .ok (.iload_n 2, 1) := by decide +kernel
theorem dX10_readsSeal_30 : decode cX10_readsSeal 30 = .ok (.invokevirtual 218, 3) := by decide +kernel
theorem dX10_readsSeal_33 : decode cX10_readsSeal 33 = .ok (.ifCond .eq 8, 3) := by decide +kernel
theorem dX10_readsSeal_36 : decode cX10_readsSeal 36 = .ok (.aload_n 0, 1) := by decide +kernel
theorem dX10_readsSeal_37 : decode cX10_readsSeal 37 = .ok (.iconst 3, 1) := by decide +kernel
theorem dX10_readsSeal_38 : decode cX10_readsSeal 38 = .ok (.invokevirtual 115, 3) := by decide +kernel
theorem dX10_readsSeal_41 : decode cX10_readsSeal 41 = .ok (.aload_n 0, 1) := by decide +kernel
theorem dX10_readsSeal_42 : decode cX10_readsSeal 42 = .ok (.getfield 73, 3) := by decide +kernel
theorem dX10_readsSeal_45 : decode cX10_readsSeal 45 = .ok (.ifCond .le 4, 3) := by decide +kernel
theorem dX10_readsSeal_48 : decode cX10_readsSeal 48 = .ok (.return_, 1) := by decide +kernel
theorem dX10_readsSeal_49 : decode cX10_readsSeal 49 = .ok (.aload_n 0, 1) := by decide +kernel
theorem dX10_readsSeal_50 : decode cX10_readsSeal 50 = .ok (.iload_n 1, 1) := by decide +kernel
theorem dX10_readsSeal_51 : decode cX10_readsSeal 51 = .ok (.invokevirtual 221, 3) := by decide +kernel
theorem dX10_readsSeal_54 : decode cX10_readsSeal 54 = .ok (.istore_n 3, 1) := by decide +kernel
theorem dX10_readsSeal_55 : decode cX10_readsSeal 55 = .ok (.aload_n 0, 1) := by decide +kernel
theorem dX10_readsSeal_56 : decode cX10_readsSeal 56 = .ok (.invokevirtual 122, 3) := by decide +kernel
theorem dX10_readsSeal_59 : decode cX10_readsSeal 59 = .ok (.return_, 1) := by decide +kernel
theorem dX10_readsCancel_0 : decode cX10_readsCancel 0 = .ok (.aload_n 0, 1) := by decide +kernel
theorem dX10_readsCancel_1 : decode cX10_readsCancel 1 = .ok (.invokevirtual 179, 3) := by decide +kernel
theorem dX10_readsCancel_4 : decode cX10_readsCancel 4 = .ok (.iconst (-1), 1) := by decide +kernel
theorem dX10_readsCancel_5 : decode cX10_readsCancel 5 = .ok (.if_icmp .ne 8, 3) := by decide +kernel
theorem dX10_readsCancel_8 : decode cX10_readsCancel 8 = .ok (.aload_n 0, 1) := by decide +kernel
theorem dX10_readsCancel_9 : decode cX10_readsCancel 9 = .ok (.iconst 3, 1) := by decide +kernel
theorem dX10_readsCancel_10 : decode cX10_readsCancel 10 = .ok (.invokevirtual 115, 3) := by decide +kernel
theorem dX10_readsCancel_13 : decode cX10_readsCancel 13 = .ok (.aload_n 0, 1) := by decide +kernel
theorem dX10_readsCancel_14 : decode cX10_readsCancel 14 = .ok (.getfield 73, 3) := by decide +kernel
theorem dX10_readsCancel_17 : decode cX10_readsCancel 17 = .ok (.ifCond .ne 13, 3) := by decide +kernel
theorem dX10_readsCancel_20 : decode cX10_readsCancel 20 = .ok (.aload_n 0, 1) := by decide +kernel
theorem dX10_readsCancel_21 : decode cX10_readsCancel 21 = .ok (.aload_n 0, 1) := by decide +kernel
theorem dX10_readsCancel_22 : decode cX10_readsCancel 22 = .ok (.invokevirtual 179, 3) := by decide +kernel
theorem dX10_readsCancel_25 : decode cX10_readsCancel 25 = .ok (.iconst 1, 1) := by decide +kernel
theorem dX10_readsCancel_26 : decode cX10_readsCancel 26 = .ok (.iconst 2, 1) := by decide +kernel
theorem dX10_readsCancel_27 : decode cX10_readsCancel 27 = .ok (.invokevirtual 141, 3) := by decide +kernel
theorem dX10_readsCancel_30 : decode cX10_readsCancel 30 = .ok (.aload_n 0, 1) := by decide +kernel
theorem dX10_readsCancel_31 : decode cX10_readsCancel 31 = .ok (.invokevirtual 122, 3) := by decide +kernel
theorem dX10_readsCancel_34 : decode cX10_readsCancel 34 = .ok (.return_, 1) := by decide +kernel
theorem dX10_firstStanding_0 : decode cX10_firstStanding 0 = .ok (.aload_n 0, 1) := by decide +kernel
theorem dX10_firstStanding_1 : decode cX10_firstStanding 1 = .ok (.iload_n 1, 1) := by decide +kernel
theorem dX10_firstStanding_2 : decode cX10_firstStanding 2 = .ok (.iconst 5, 1) := by decide +kernel
theorem dX10_firstStanding_3 : decode cX10_firstStanding 3 = .ok (.invokevirtual 138, 3) := by decide +kernel
theorem dX10_firstStanding_6 : decode cX10_firstStanding 6 = .ok (.istore_n 2, 1) := by decide +kernel
theorem dX10_firstStanding_7 : decode cX10_firstStanding 7 = .ok (.iload_n 2, 1) := by decide +kernel
theorem dX10_firstStanding_8 : decode cX10_firstStanding 8 = .ok (.aload_n 0, 1) := by decide +kernel
theorem dX10_firstStanding_9 : decode cX10_firstStanding 9 = .ok (.iload_n 1, 1) := by decide +kernel
theorem dX10_firstStanding_10 : decode cX10_firstStanding 10 = .ok (.invokevirtual 327, 3) := by decide +kernel
theorem dX10_firstStanding_13 : decode cX10_firstStanding 13 = .ok (.if_icmp .gt 19, 3) := by decide +kernel
theorem dX10_firstStanding_16 : decode cX10_firstStanding 16 = .ok (.aload_n 0, 1) := by decide +kernel
theorem dX10_firstStanding_17 : decode cX10_firstStanding 17 = .ok (.iload_n 2, 1) := by decide +kernel
theorem dX10_firstStanding_18 : decode cX10_firstStanding 18 = .ok (.invokevirtual 330, 3) := by decide +kernel
theorem dX10_firstStanding_21 : decode cX10_firstStanding 21 = .ok (.ifCond .eq 5, 3) := by decide +kernel
theorem dX10_firstStanding_24 : decode cX10_firstStanding 24 = .ok (.iload_n 2, 1) := by decide +kernel
theorem dX10_firstStanding_25 : decode cX10_firstStanding 25 = .ok (.ireturn, 1) := by decide +kernel
theorem dX10_firstStanding_26 : decode cX10_firstStanding 26 = .ok (.iinc 2 1, 3) := by decide +kernel
theorem dX10_firstStanding_29 : decode cX10_firstStanding 29 = .ok (.goto (-22), 3) := by decide +kernel
theorem dX10_firstStanding_32 : decode cX10_firstStanding 32 = .ok (.iconst (-1), 1) := by decide +kernel
theorem dX10_firstStanding_33 : decode cX10_firstStanding 33 = .ok (.ireturn, 1) := by decide +kernel
theorem dX10_lastStanding_0 : decode cX10_lastStanding 0 = .ok (.aload_n 0, 1) := by decide +kernel
theorem dX10_lastStanding_1 : decode cX10_lastStanding 1 = .ok (.iload_n 1, 1) := by decide +kernel
theorem dX10_lastStanding_2 : decode cX10_lastStanding 2 = .ok (.invokevirtual 327, 3) := by decide +kernel
theorem dX10_lastStanding_5 : decode cX10_lastStanding 5 = .ok (.istore_n 2, 1) := by decide +kernel
theorem dX10_lastStanding_6 : decode cX10_lastStanding 6 = .ok (.iload_n 2, 1) := by decide +kernel
theorem dX10_lastStanding_7 : decode cX10_lastStanding 7 = .ok (.aload_n 0, 1) := by decide +kernel
theorem dX10_lastStanding_8 : decode cX10_lastStanding 8 = .ok (.iload_n 1, 1) := by decide +kernel
theorem dX10_lastStanding_9 : decode cX10_lastStanding 9 = .ok (.iconst 5, 1) := by decide +kernel
theorem dX10_lastStanding_10 : decode cX10_lastStanding 10 = .ok (.invokevirtual 138, 3) := by decide +kernel
theorem dX10_lastStanding_13 : decode cX10_lastStanding 13 = .ok (.if_icmp .lt 19, 3) := by decide +kernel
theorem dX10_lastStanding_16 : decode cX10_lastStanding 16 = .ok (.aload_n 0, 1) := by decide +kernel
theorem dX10_lastStanding_17 : decode cX10_lastStanding 17 = .ok (.iload_n 2, 1) := by decide +kernel
theorem dX10_lastStanding_18 : decode cX10_lastStanding 18 = .ok (.invokevirtual 330, 3) := by decide +kernel
theorem dX10_lastStanding_21 : decode cX10_lastStanding 21 = .ok (.ifCond .eq 5, 3) := by decide +kernel
theorem dX10_lastStanding_24 : decode cX10_lastStanding 24 = .ok (.iload_n 2, 1) := by decide +kernel
theorem dX10_lastStanding_25 : decode cX10_lastStanding 25 = .ok (.ireturn, 1) := by decide +kernel
theorem dX10_lastStanding_26 : decode cX10_lastStanding 26 = .ok (.iinc 2 (-1), 3) := by decide +kernel
theorem dX10_lastStanding_29 : decode cX10_lastStanding 29 = .ok (.goto (-23), 3) := by decide +kernel
theorem dX10_lastStanding_32 : decode cX10_lastStanding 32 = .ok (.iconst (-1), 1) := by decide +kernel
theorem dX10_lastStanding_33 : decode cX10_lastStanding 33 = .ok (.ireturn, 1) := by decide +kernel
theorem dX10_hasBy_0 : decode cX10_hasBy 0 = .ok (.aload_n 0, 1) := by decide +kernel
theorem dX10_hasBy_1 : decode cX10_hasBy 1 = .ok (.iload_n 3, 1) := by decide +kernel
theorem dX10_hasBy_2 : decode cX10_hasBy 2 = .ok (.invokevirtual 330, 3) := by decide +kernel
theorem dX10_hasBy_5 : decode cX10_hasBy 5 = .ok (.ifCond .ne 5, 3) := by decide +kernel
theorem dX10_hasBy_8 : decode cX10_hasBy 8 = .ok (.iconst 0, 1) := by decide +kernel
theorem dX10_hasBy_9 : decode cX10_hasBy 9 = .ok (.ireturn, 1) := by decide +kernel
theorem dX10_hasBy_10 : decode cX10_hasBy 10 = .ok (.iload_n 2, 1) := by decide +kernel
theorem dX10_hasBy_11 : decode cX10_hasBy 11 = .ok (.iconst 2, 1) := by decide +kernel
theorem dX10_hasBy_12 : decode cX10_hasBy 12 = .ok (.if_icmp .lt 21, 3) := by decide +kernel
theorem dX10_hasBy_15 : decode cX10_hasBy 15 = .ok (.iload_n 3, 1) := by decide +kernel
theorem dX10_hasBy_16 : decode cX10_hasBy 16 = .ok (.aload_n 0, 1) := by decide +kernel
theorem dX10_hasBy_17 : decode cX10_hasBy 17 = .ok (.iload_n 1, 1) := by decide +kernel
theorem dX10_hasBy_18 : decode cX10_hasBy 18 = .ok (.invokevirtual 349, 3) := by decide +kernel
theorem dX10_hasBy_21 : decode cX10_hasBy 21 = .ok (.if_icmp .eq 12, 3) := by decide +kernel
theorem dX10_hasBy_24 : decode cX10_hasBy 24 = .ok (.iload_n 3, 1) := by decide +kernel
theorem dX10_hasBy_25 : decode cX10_hasBy 25 = .ok (.aload_n 0, 1) := by decide +kernel
theorem dX10_hasBy_26 : decode cX10_hasBy 26 = .ok (.iload_n 1, 1) := by decide +kernel
theorem dX10_hasBy_27 : decode cX10_hasBy 27 = .ok (.invokevirtual 352, 3) := by decide +kernel
theorem dX10_hasBy_30 : decode cX10_hasBy 30 = .ok (.if_icmp .ne 7, 3) := by decide +kernel
theorem dX10_hasBy_33 : decode cX10_hasBy 33 = .ok (.iconst 1, 1) := by decide +kernel
theorem dX10_hasBy_34 : decode cX10_hasBy 34 = .ok (.goto 4, 3) := by decide +kernel
theorem dX10_hasBy_37 : decode cX10_hasBy 37 = .ok (.iconst 0, 1) := by decide +kernel
theorem dX10_hasBy_38 : decode cX10_hasBy 38 = .ok (.ireturn, 1) := by decide +kernel
theorem dX10_statusOf_0 : decode cX10_statusOf 0 = .ok (.aload_n 0, 1) := by decide +kernel
theorem dX10_statusOf_1 : decode cX10_statusOf 1 = .ok (.getfield 9, 3) := by decide +kernel
theorem dX10_statusOf_4 : decode cX10_statusOf 4 = .ok (.bipush 99, 2) := by decide +kernel
theorem dX10_statusOf_6 : decode cX10_statusOf 6 = .ok (.iload_n 1, 1) := by decide +kernel
theorem dX10_statusOf_7 : decode cX10_statusOf 7 = .ok (.iadd, 1) := by decide +kernel
theorem dX10_statusOf_8 : decode cX10_statusOf 8 = .ok (.iaload, 1) := by decide +kernel
theorem dX10_statusOf_9 : decode cX10_statusOf 9 = .ok (.ireturn, 1) := by decide +kernel
theorem dX10_isOnLost_0 : decode cX10_isOnLost 0 = .ok (.aload_n 0, 1) := by decide +kernel
theorem dX10_isOnLost_1 : decode cX10_isOnLost 1 = .ok (.iload_n 1, 1) := by decide +kernel
theorem dX10_isOnLost_2 : decode cX10_isOnLost 2 = .ok (.aload_n 0, 1) := by decide +kernel
theorem dX10_isOnLost_3 : decode cX10_isOnLost 3 = .ok (.getfield 9, 3) := by decide +kernel
theorem dX10_isOnLost_6 : decode cX10_isOnLost 6 = .ok (.iconst 0, 1) := by decide +kernel
theorem dX10_isOnLost_7 : decode cX10_isOnLost 7 = .ok (.iaload, 1) := by decide +kernel
theorem dX10_isOnLost_8 : decode cX10_isOnLost 8 = .ok (.idiv, 1) := by decide +kernel
theorem dX10_isOnLost_9 : decode cX10_isOnLost 9 = .ok (.invokevirtual 237, 3) := by decide +kernel
theorem dX10_isOnLost_12 : decode cX10_isOnLost 12 = .ok (.iconst 2, 1) := by decide +kernel
theorem dX10_isOnLost_13 : decode cX10_isOnLost 13 = .ok (.if_icmp .ne 7, 3) := by decide +kernel
theorem dX10_isOnLost_16 : decode cX10_isOnLost 16 = .ok (.iconst 1, 1) := by decide +kernel
theorem dX10_isOnLost_17 : decode cX10_isOnLost 17 = .ok (.goto 4, 3) := by decide +kernel
theorem dX10_isOnLost_20 : decode cX10_isOnLost 20 = .ok (.iconst 0, 1) := by decide +kernel
theorem dX10_isOnLost_21 : decode cX10_isOnLost 21 = .ok (.ireturn, 1) := by decide +kernel
theorem dX10_ofCopy_0 : decode cX10_ofCopy 0 = .ok (.aload_n 0, 1) := by decide +kernel
theorem dX10_ofCopy_1 : decode cX10_ofCopy 1 = .ok (.getfield 9, 3) := by decide +kernel
theorem dX10_ofCopy_4 : decode cX10_ofCopy 4 = .ok (.bipush 111, 2) := by decide +kernel
theorem dX10_ofCopy_6 : decode cX10_ofCopy 6 = .ok (.iconst 2, 1) := by decide +kernel
theorem dX10_ofCopy_7 : decode cX10_ofCopy 7 = .ok (.iload_n 1, 1) := by decide +kernel
theorem dX10_ofCopy_8 : decode cX10_ofCopy 8 = .ok (.imul, 1) := by decide +kernel
theorem dX10_ofCopy_9 : decode cX10_ofCopy 9 = .ok (.iadd, 1) := by decide +kernel
theorem dX10_ofCopy_10 : decode cX10_ofCopy 10 = .ok (.iload_n 2, 1) := by decide +kernel
theorem dX10_ofCopy_11 : decode cX10_ofCopy 11 = .ok (.iadd, 1) := by decide +kernel
theorem dX10_ofCopy_12 : decode cX10_ofCopy 12 = .ok (.iaload, 1) := by decide +kernel
theorem dX10_ofCopy_13 : decode cX10_ofCopy 13 = .ok (.ireturn, 1) := by decide +kernel
theorem dX10_actOf_0 : decode cX10_actOf 0 = .ok (.iconst 0, 1) := by decide +kernel
theorem dX10_actOf_1 : decode cX10_actOf 1 = .ok (.istore_n 2, 1) := by decide +kernel
theorem dX10_actOf_2 : decode cX10_actOf 2 = .ok (.aload_n 0, 1) := by decide +kernel
theorem dX10_actOf_3 : decode cX10_actOf 3 = .ok (.iload_n 2, 1) := by decide +kernel
theorem dX10_actOf_4 : decode cX10_actOf 4 = .ok (.invokevirtual 327, 3) := by decide +kernel
theorem dX10_actOf_7 : decode cX10_actOf 7 = .ok (.iload_n 1, 1) := by decide +kernel
theorem dX10_actOf_8 : decode cX10_actOf 8 = .ok (.if_icmp .ge 9, 3) := by decide +kernel
theorem dX10_actOf_11 : decode cX10_actOf 11 = .ok (.iinc 2 1, 3) := by decide +kernel
theorem dX10_actOf_14 : decode cX10_actOf 14 = .ok (.goto (-12), 3) := by decide +kernel
theorem dX10_actOf_17 : decode cX10_actOf 17 = .ok (.iload_n 2, 1) := by decide +kernel
theorem dX10_actOf_18 : decode cX10_actOf 18 = .ok (.ireturn, 1) := by decide +kernel
theorem dX10_hasWord_0 : decode cX10_hasWord 0 = .ok (.aload_n 0, 1) := by decide +kernel
theorem dX10_hasWord_1 : decode cX10_hasWord 1 = .ok (.iload_n 1, 1) := by decide +kernel
theorem dX10_hasWord_2 : decode cX10_hasWord 2 = .ok (.iconst 0, 1) := by decide +kernel
theorem dX10_hasWord_3 : decode cX10_hasWord 3 = .ok (.invokevirtual 355, 3) := by decide +kernel
theorem dX10_hasWord_6 : decode cX10_hasWord 6 = .ok (.aload_n 0, 1) := by decide +kernel
theorem dX10_hasWord_7 : decode cX10_hasWord 7 = .ok (.iload_n 2, 1) := by decide +kernel
theorem dX10_hasWord_8 : decode cX10_hasWord 8 = .ok (.invokevirtual 358, 3) := by decide +kernel
theorem dX10_hasWord_11 : decode cX10_hasWord 11 = .ok (.if_icmp .ne 27, 3) := by decide +kernel
theorem dX10_hasWord_14 : decode cX10_hasWord 14 = .ok (.aload_n 0, 1) := by decide +kernel
theorem dX10_hasWord_15 : decode cX10_hasWord 15 = .ok (.aload_n 0, 1) := by decide +kernel
theorem dX10_hasWord_16 : decode cX10_hasWord 16 = .ok (.iload_n 1, 1) := by decide +kernel
theorem dX10_hasWord_17 : decode cX10_hasWord 17 = .ok (.iconst 0, 1) := by decide +kernel
theorem dX10_hasWord_18 : decode cX10_hasWord 18 = .ok (.invokevirtual 355, 3) := by decide +kernel
theorem dX10_hasWord_21 : decode cX10_hasWord 21 = .ok (.aload_n 0, 1) := by decide +kernel
theorem dX10_hasWord_22 : decode cX10_hasWord 22 = .ok (.iload_n 1, 1) := by decide +kernel
theorem dX10_hasWord_23 : decode cX10_hasWord 23 = .ok (.iconst 1, 1) := by decide +kernel
theorem dX10_hasWord_24 : decode cX10_hasWord 24 = .ok (.invokevirtual 355, 3) := by decide +kernel
theorem dX10_hasWord_27 : decode cX10_hasWord 27 = .ok (.iload_n 2, 1) := by decide +kernel
theorem dX10_hasWord_28 : decode cX10_hasWord 28 = .ok (.invokevirtual 361, 3) := by decide +kernel
theorem dX10_hasWord_31 : decode cX10_hasWord 31 = .ok (.ifCond .eq 7, 3) := by decide +kernel
theorem dX10_hasWord_34 : decode cX10_hasWord 34 = .ok (.iconst 1, 1) := by decide +kernel
theorem dX10_hasWord_35 : decode cX10_hasWord 35 = .ok (.goto 4, 3) := by decide +kernel
theorem dX10_hasWord_38 : decode cX10_hasWord 38 = .ok (.iconst 0, 1) := by decide +kernel
theorem dX10_hasWord_39 : decode cX10_hasWord 39 = .ok (.ireturn, 1) := by decide +kernel
theorem dX10_copiesWith_0 : decode cX10_copiesWith 0 = .ok (.iconst 0, 1) := by decide +kernel
theorem dX10_copiesWith_1 : decode cX10_copiesWith 1 = .ok (.istore_n 2, 1) := by decide +kernel
theorem dX10_copiesWith_2 : decode cX10_copiesWith 2 = .ok (.iconst 0, 1) := by decide +kernel
theorem dX10_copiesWith_3 : decode cX10_copiesWith 3 = .ok (.istore_n 3, 1) := by decide +kernel
theorem dX10_copiesWith_4 : decode cX10_copiesWith 4 = .ok (.iload_n 3, 1) := by decide +kernel
theorem dX10_copiesWith_5 : decode cX10_copiesWith 5 = .ok (.aload_n 0, 1) := by decide +kernel
theorem dX10_copiesWith_6 : decode cX10_copiesWith 6 = .ok (.getfield 9, 3) := by decide +kernel
theorem dX10_copiesWith_9 : decode cX10_copiesWith 9 = .ok (.bipush 6, 2) := by decide +kernel
theorem dX10_copiesWith_11 : decode cX10_copiesWith 11 = .ok (.iaload, 1) := by decide +kernel
theorem dX10_copiesWith_12 : decode cX10_copiesWith 12 = .ok (.if_icmp .ge 21, 3) := by decide +kernel
theorem dX10_copiesWith_15 : decode cX10_copiesWith 15 = .ok (.iload_n 2, 1) := by decide +kernel
theorem dX10_copiesWith_16 : decode cX10_copiesWith 16 = .ok (.aload_n 0, 1) := by decide +kernel
theorem dX10_copiesWith_17 : decode cX10_copiesWith 17 = .ok (.iload_n 3, 1) := by decide +kernel
theorem dX10_copiesWith_18 : decode cX10_copiesWith 18 = .ok (.iload_n 1, 1) := by decide +kernel
theorem dX10_copiesWith_19 : decode cX10_copiesWith 19 = .ok (.invokevirtual 364, 3) := by decide +kernel
theorem dX10_copiesWith_22 : decode cX10_copiesWith 22 = .ok (.invokestatic 333, 3) := by decide +kernel
theorem dX10_copiesWith_25 : decode cX10_copiesWith 25 = .ok (.iadd, 1) := by decide +kernel
theorem dX10_copiesWith_26 : decode cX10_copiesWith 26 = .ok (.istore_n 2, 1) := by decide +kernel
theorem dX10_copiesWith_27 : decode cX10_copiesWith 27 = .ok (.iinc 3 1, 3) := by decide +kernel
theorem dX10_copiesWith_30 : decode cX10_copiesWith 30 = .ok (.goto (-26), 3) := by decide +kernel
theorem dX10_copiesWith_33 : decode cX10_copiesWith 33 = .ok (.iload_n 2, 1) := by decide +kernel
theorem dX10_copiesWith_34 : decode cX10_copiesWith 34 = .ok (.ireturn, 1) := by decide +kernel
theorem dX10_isKnown_0 : decode cX10_isKnown 0 = .ok (.aload_n 0, 1) := by decide +kernel
theorem dX10_isKnown_1 : decode cX10_isKnown 1 = .ok (.iload_n 1, 1) := by decide +kernel
theorem dX10_isKnown_2 : decode cX10_isKnown 2 = .ok (.invokevirtual 368, 3) := by decide +kernel
theorem dX10_isKnown_5 : decode cX10_isKnown 5 = .ok (.ifCond .eq 11, 3) := by decide +kernel
theorem dX10_isKnown_8 : decode cX10_isKnown 8 = .ok (.aload_n 0, 1) := by decide +kernel
theorem dX10_isKnown_9 : decode cX10_isKnown 9 = .ok (.iload_n 1, 1) := by decide +kernel
theorem dX10_isKnown_10 : decode cX10_isKnown 10 = .ok (.invokevirtual 371, 3) := by decide +kernel
theorem dX10_isKnown_13 : decode cX10_isKnown 13 = .ok (.ifCond .le 7, 3) := by decide +kernel
theorem dX10_isKnown_16 : decode cX10_isKnown 16 = .ok (.iconst 1, 1) := by decide +kernel
theorem dX10_isKnown_17 : decode cX10_isKnown 17 = .ok (.goto 4, 3) := by decide +kernel
theorem dX10_isKnown_20 : decode cX10_isKnown 20 = .ok (.iconst 0, 1) := by decide +kernel
theorem dX10_isKnown_21 : decode cX10_isKnown 21 = .ok (.ireturn, 1) := by decide +kernel
theorem dX10_whyCopy_0 : decode cX10_whyCopy 0 = .ok (.aload_n 0, 1) := by decide +kernel
theorem dX10_whyCopy_1 : decode cX10_whyCopy 1 = .ok (.iload_n 1, 1) := by decide +kernel
theorem dX10_whyCopy_2 : decode cX10_whyCopy 2 = .ok (.iconst 1, 1) := by decide +kernel
theorem dX10_whyCopy_3 : decode cX10_whyCopy 3 = .ok (.invokevirtual 138, 3) := by decide +kernel
theorem dX10_whyCopy_6 : decode cX10_whyCopy 6 = .ok (.iconst 1, 1) := by decide +kernel
theorem dX10_whyCopy_7 : decode cX10_whyCopy 7 = .ok (.if_icmp .eq 5, 3) := by decide +kernel
theorem dX10_whyCopy_10 : decode cX10_whyCopy 10 = .ok (.iconst 1, 1) := by decide +kernel
theorem dX10_whyCopy_11 : decode cX10_whyCopy 11 = .ok (.ireturn, 1) := by decide +kernel
theorem dX10_whyCopy_12 : decode cX10_whyCopy 12 = .ok (.aload_n 0, 1) := by decide +kernel
theorem dX10_whyCopy_13 : decode cX10_whyCopy 13 = .ok (.iload_n 1, 1) := by decide +kernel
theorem dX10_whyCopy_14 : decode cX10_whyCopy 14 = .ok (.iconst 5, 1) := by decide +kernel
theorem dX10_whyCopy_15 : decode cX10_whyCopy 15 = .ok (.invokevirtual 138, 3) := by decide +kernel
theorem dX10_whyCopy_18 : decode cX10_whyCopy 18 = .ok (.istore_n 3, 1) := by decide +kernel
theorem dX10_whyCopy_19 : decode cX10_whyCopy 19 = .ok (.iload_n 3, 1) := by decide +kernel
theorem dX10_whyCopy_20 : decode cX10_whyCopy 20 = .ok (.aload_n 0, 1) := by decide +kernel
theorem dX10_whyCopy_21 : decode cX10_whyCopy 21 = .ok (.iload_n 1, 1) := by decide +kernel
theorem dX10_whyCopy_22 : decode cX10_whyCopy 22 = .ok (.invokevirtual 327, 3) := by decide +kernel
theorem dX10_whyCopy_25 : decode cX10_whyCopy 25 = .ok (.if_icmp .gt 29, 3) := by decide +kernel
theorem dX10_whyCopy_28 : decode cX10_whyCopy 28 = .ok (.aload_n 0, 1) := by decide +kernel
theorem dX10_whyCopy_29 : decode cX10_whyCopy 29 = .ok (.iload_n 1, 1) := by decide +kernel
theorem dX10_whyCopy_30 : decode cX10_whyCopy 30 = .ok (.iload_n 2, 1) := by decide +kernel
theorem dX10_whyCopy_31 : decode cX10_whyCopy 31 = .ok (.iload_n 3, 1) := by decide +kernel
theorem dX10_whyCopy_32 : decode cX10_whyCopy 32 = .ok (.invokevirtual 361, 3) := by decide +kernel
theorem dX10_whyCopy_35 : decode cX10_whyCopy 35 = .ok (.ifCond .eq 13, 3) := by decide +kernel
theorem dX10_whyCopy_38 : decode cX10_whyCopy 38 = .ok (.aload_n 0, 1) := by decide +kernel
theorem dX10_whyCopy_39 : decode cX10_whyCopy 39 = .ok (.iload_n 3, 1) := by decide +kernel
theorem dX10_whyCopy_40 : decode cX10_whyCopy 40 = .ok (.invokevirtual 374, 3) := by decide +kernel
theorem dX10_whyCopy_43 : decode cX10_whyCopy 43 = .ok (.ifCond .ne 5, 3) := by decide +kernel
theorem dX10_whyCopy_46 : decode cX10_whyCopy 46 = .ok (.iconst 2, 1) := by decide +kernel
theorem dX10_whyCopy_47 : decode cX10_whyCopy 47 = .ok (.ireturn, 1) := by decide +kernel
theorem dX10_whyCopy_48 : decode cX10_whyCopy 48 = .ok (.iinc 3 1, 3) := by decide +kernel
theorem dX10_whyCopy_51 : decode cX10_whyCopy 51 = .ok (.goto (-32), 3) := by decide +kernel
theorem dX10_whyCopy_54 : decode cX10_whyCopy 54 = .ok (.aload_n 0, 1) := by decide +kernel
theorem dX10_whyCopy_55 : decode cX10_whyCopy 55 = .ok (.getfield 9, 3) := by decide +kernel
theorem dX10_whyCopy_58 : decode cX10_whyCopy 58 = .ok (.bipush 6, 2) := by decide +kernel
theorem dX10_whyCopy_60 : decode cX10_whyCopy 60 = .ok (.iaload, 1) := by decide +kernel
theorem dX10_whyCopy_61 : decode cX10_whyCopy 61 = .ok (.bipush 8, 2) := by decide +kernel
theorem dX10_whyCopy_63 : decode cX10_whyCopy 63 = .ok (.if_icmp .ne 7, 3) := by decide +kernel
theorem dX10_whyCopy_66 : decode cX10_whyCopy 66 = .ok (.iconst 3, 1) := by decide +kernel
theorem dX10_whyCopy_67 : decode cX10_whyCopy 67 = .ok (.goto 4, 3) := by decide +kernel
theorem dX10_whyCopy_70 : decode cX10_whyCopy 70 = .ok (.iconst 0, 1) := by decide +kernel
theorem dX10_whyCopy_71 : decode cX10_whyCopy 71 = .ok (.ireturn, 1) := by decide +kernel
theorem dX10_feeOf_0 : decode cX10_feeOf 0 = .ok (.iconst 3, 1) := by decide +kernel
theorem dX10_feeOf_1 : decode cX10_feeOf 1 = .ok (.iload_n 0, 1) := by decide +kernel
theorem dX10_feeOf_2 : decode cX10_feeOf 2 = .ok (.isub, 1) := by decide +kernel
theorem dX10_feeOf_3 : decode cX10_feeOf 3 = .ok (.ireturn, 1) := by decide +kernel
theorem dX10_copies_0 : decode cX10_copies 0 = .ok (.aload_n 0, 1) := by decide +kernel
theorem dX10_copies_1 : decode cX10_copies 1 = .ok (.getfield 9, 3) := by decide +kernel
theorem dX10_copies_4 : decode cX10_copies 4 = .ok (.bipush 111, 2) := by decide +kernel
theorem dX10_copies_6 : decode cX10_copies 6 = .ok (.iconst 2, 1) := by decide +kernel
theorem dX10_copies_7 : decode cX10_copies 7 = .ok (.aload_n 0, 1) := by decide +kernel
theorem dX10_copies_8 : decode cX10_copies 8 = .ok (.getfield 9, 3) := by decide +kernel
theorem dX10_copies_11 : decode cX10_copies 11 = .ok (.bipush 6, 2) := by decide +kernel
theorem dX10_copies_13 : decode cX10_copies 13 = .ok (.iaload, 1) := by decide +kernel
theorem dX10_copies_14 : decode cX10_copies 14 = .ok (.imul, 1) := by decide +kernel
theorem dX10_copies_15 : decode cX10_copies 15 = .ok (.iadd, 1) := by decide +kernel
theorem dX10_copies_16 : decode cX10_copies 16 = .ok (.iconst 0, 1) := by decide +kernel
theorem dX10_copies_17 : decode cX10_copies 17 = .ok (.iadd, 1) := by decide +kernel
theorem dX10_copies_18 : decode cX10_copies 18 = .ok (.iload_n 1, 1) := by decide +kernel
theorem dX10_copies_19 : decode cX10_copies 19 = .ok (.iastore, 1) := by decide +kernel
theorem dX10_copies_20 : decode cX10_copies 20 = .ok (.aload_n 0, 1) := by decide +kernel
theorem dX10_copies_21 : decode cX10_copies 21 = .ok (.getfield 9, 3) := by decide +kernel
theorem dX10_copies_24 : decode cX10_copies 24 = .ok (.bipush 111, 2) := by decide +kernel
theorem dX10_copies_26 : decode cX10_copies 26 = .ok (.iconst 2, 1) := by decide +kernel
theorem dX10_copies_27 : decode cX10_copies 27 = .ok (.aload_n 0, 1) := by decide +kernel
theorem dX10_copies_28 : decode cX10_copies 28 = .ok (.getfield 9, 3) := by decide +kernel
theorem dX10_copies_31 : decode cX10_copies 31 = .ok (.bipush 6, 2) := by decide +kernel
theorem dX10_copies_33 : decode cX10_copies 33 = .ok (.iaload, 1) := by decide +kernel
theorem dX10_copies_34 : decode cX10_copies 34 = .ok (.imul, 1) := by decide +kernel
theorem dX10_copies_35 : decode cX10_copies 35 = .ok (.iadd, 1) := by decide +kernel
theorem dX10_copies_36 : decode cX10_copies 36 = .ok (.iconst 1, 1) := by decide +kernel
theorem dX10_copies_37 : decode cX10_copies 37 = .ok (.iadd, 1) := by decide +kernel
theorem dX10_copies_38 : decode cX10_copies 38 = .ok (.iload_n 2, 1) := by decide +kernel
theorem dX10_copies_39 : decode cX10_copies 39 = .ok (.iastore, 1) := by decide +kernel
theorem dX10_copies_40 : decode cX10_copies 40 = .ok (.aload_n 0, 1) := by decide +kernel
theorem dX10_copies_41 : decode cX10_copies 41 = .ok (.getfield 9, 3) := by decide +kernel
theorem dX10_copies_44 : decode cX10_copies 44 = .ok (.bipush 6, 2) := by decide +kernel
theorem dX10_copies_46 : decode cX10_copies 46 = .ok (.dup2, 1) := by decide +kernel
theorem dX10_copies_47 : decode cX10_copies 47 = .ok (.iaload, 1) := by decide +kernel
theorem dX10_copies_48 : decode cX10_copies 48 = .ok (.iconst 1, 1) := by decide +kernel
theorem dX10_copies_49 : decode cX10_copies 49 = .ok (.iadd, 1) := by decide +kernel
theorem dX10_copies_50 : decode cX10_copies 50 = .ok (.iastore, 1) := by decide +kernel
theorem dX10_copies_51 : decode cX10_copies 51 = .ok (.aload_n 0, 1) := by decide +kernel
theorem dX10_copies_52 : decode cX10_copies 52 = .ok (.getfield 9, 3) := by decide +kernel
theorem dX10_copies_55 : decode cX10_copies 55 = .ok (.bipush 7, 2) := by decide +kernel
theorem dX10_copies_57 : decode cX10_copies 57 = .ok (.dup2, 1) := by decide +kernel
theorem dX10_copies_58 : decode cX10_copies 58 = .ok (.iaload, 1) := by decide +kernel
theorem dX10_copies_59 : decode cX10_copies 59 = .ok (.iload_n 2, 1) := by decide +kernel
theorem dX10_copies_60 : decode cX10_copies 60 = .ok (.invokestatic 377, 3) := by decide +kernel
theorem dX10_copies_63 : decode cX10_copies 63 = .ok (.iadd, 1) := by decide +kernel
theorem dX10_copies_64 : decode cX10_copies 64 = .ok (.iastore, 1) := by decide +kernel
theorem dX10_copies_65 : decode cX10_copies 65 = .ok (.return_, 1) := by decide +kernel
theorem dX10_readsCopy_0 : decode cX10_readsCopy 0 = .ok (.aload_n 0, 1) := by decide +kernel
theorem dX10_readsCopy_1 : decode cX10_readsCopy 1 = .ok (.getfield 9, 3) := by decide +kernel
theorem dX10_readsCopy_4 : decode cX10_readsCopy 4 = .ok (.bipush 6, 2) := by decide +kernel
theorem dX10_readsCopy_6 : decode cX10_readsCopy 6 = .ok (.iaload, 1) := by decide +kernel
theorem dX10_readsCopy_7 : decode cX10_readsCopy 7 = .ok (.bipush 8, 2) := by decide +kernel
theorem dX10_readsCopy_9 : decode cX10_readsCopy 9 = .ok (.if_icmp .ne 8, 3) := by decide +kernel
theorem dX10_readsCopy_12 : decode cX10_readsCopy 12 = .ok (.aload_n 0, 1) := by decide +kernel
theorem dX10_readsCopy_13 : decode cX10_readsCopy 13 = .ok (.iconst 4, 1) := by decide +kernel
theorem dX10_readsCopy_14 : decode cX10_readsCopy 14 = .ok (.invokevirtual 115, 3) := by decide +kernel
theorem dX10_readsCopy_17 : decode cX10_readsCopy 17 = .ok (.aload_n 0, 1) := by decide +kernel
theorem dX10_readsCopy_18 : decode cX10_readsCopy 18 = .ok (.invokevirtual 122, 3) := by decide +kernel
theorem dX10_readsCopy_21 : decode cX10_readsCopy 21 = .ok (.aload_n 0, 1) := by decide +kernel
theorem dX10_readsCopy_22 : decode cX10_readsCopy 22 = .ok (.iconst 1, 1) := by decide +kernel
theorem dX10_readsCopy_23 : decode cX10_readsCopy 23 = .ok (.aload_n 0, 1) := by decide +kernel
theorem dX10_readsCopy_24 : decode cX10_readsCopy 24 = .ok (.getfield 9, 3) := by decide +kernel
theorem dX10_readsCopy_27 : decode cX10_readsCopy 27 = .ok (.iconst 3, 1) := by decide +kernel
theorem dX10_readsCopy_28 : decode cX10_readsCopy 28 = .ok (.iaload, 1) := by decide +kernel
theorem dX10_readsCopy_29 : decode cX10_readsCopy 29 = .ok (.invokevirtual 215, 3) := by decide +kernel
theorem dX10_readsCopy_32 : decode cX10_readsCopy 32 = .ok (.iconst 1, 1) := by decide +kernel
theorem dX10_readsCopy_33 : decode cX10_readsCopy 33 = .ok (.isub, 1) := by decide +kernel
theorem dX10_readsCopy_34 : decode cX10_readsCopy 34 = .ok (.istore_n 1, 1) := by decide +kernel
theorem dX10_readsCopy_35 : decode cX10_readsCopy 35 = .ok (.aload_n 0, 1) := by decide +kernel
theorem dX10_readsCopy_36 : decode cX10_readsCopy 36 = .ok (.iconst 0, 1) := by decide +kernel
theorem dX10_readsCopy_37 : decode cX10_readsCopy 37 = .ok (.iconst 2, 1) := by decide +kernel
theorem dX10_readsCopy_38 : decode cX10_readsCopy 38 = .ok (.invokevirtual 118, 3) := by decide +kernel
theorem dX10_readsCopy_41 : decode cX10_readsCopy 41 = .ok (.istore_n 2, 1) := by decide +kernel
theorem dX10_readsCopy_42 : decode cX10_readsCopy 42 = .ok (.aload_n 0, 1) := by decide +kernel
theorem dX10_readsCopy_43 : decode cX10_readsCopy 43 = .ok (.getfield 73, 3) := by decide +kernel
theorem dX10_readsCopy_46 : decode cX10_readsCopy 46 = .ok (.ifCond .ne 17, 3) := by decide +kernel
theorem dX10_readsCopy_49 : decode cX10_readsCopy 49 = .ok (.aload_n 0, 1) := by decide +kernel
theorem dX10_readsCopy_50 : decode cX10_readsCopy 50 = .ok (.iload_n 1, 1) := by decide +kernel
theorem dX10_readsCopy_51 : decode cX10_readsCopy 51 = .ok (.iload_n 2, 1) := by decide +kernel
theorem dX10_readsCopy_52 : decode cX10_readsCopy 52 = .ok (.invokevirtual 224, 3) := by decide +kernel
theorem dX10_readsCopy_55 : decode cX10_readsCopy 55 = .ok (.ifCond .eq 8, 3) := by decide +kernel
theorem dX10_readsCopy_58 : decode cX10_readsCopy 58 = .ok (.aload_n 0, 1) := by decide +kernel
theorem dX10_readsCopy_59 : decode cX10_readsCopy 59 = .ok (.iconst 3, 1) := by decide +kernel
theorem dX10_readsCopy_60 : decode cX10_readsCopy 60 = .ok (.invokevirtual 115, 3) := by decide +kernel
theorem dX10_readsCopy_63 : decode cX10_readsCopy 63 = .ok (.aload_n 0, 1) := by decide +kernel
theorem dX10_readsCopy_64 : decode cX10_readsCopy 64 = .ok (.getfield 73, 3) := by decide +kernel
theorem dX10_readsCopy_67 : decode cX10_readsCopy 67 = .ok (.ifCond .ne 9, 3) := by decide +kernel
theorem dX10_readsCopy_70 : decode cX10_readsCopy 70 = .ok (.aload_n 0, 1) := by decide +kernel
theorem dX10_readsCopy_71 : decode cX10_readsCopy 71 = .ok (.iload_n 1, 1) := by decide +kernel
theorem dX10_readsCopy_72 : decode cX10_readsCopy 72 = .ok (.iload_n 2, 1) := by decide +kernel
theorem dX10_readsCopy_73 : decode cX10_readsCopy 73 = .ok (.invokevirtual 227, 3) := by decide +kernel
theorem dX10_readsCopy_76 : decode cX10_readsCopy 76 = .ok (.aload_n 0, 1) := by decide +kernel
theorem dX10_readsCopy_77 : decode cX10_readsCopy 77 = .ok (.invokevirtual 122, 3) := by decide +kernel
theorem dX10_readsCopy_80 : decode cX10_readsCopy 80 = .ok (.return_, 1) := by decide +kernel
theorem dX10_leafHere_0 : decode cX10_leafHere 0 = .ok (.aload_n 0, 1) := by decide +kernel
theorem dX10_leafHere_1 : decode cX10_leafHere 1 = .ok (.iconst 0, 1) := by decide +kernel
theorem dX10_leafHere_2 : decode cX10_leafHere 2 = .ok (.aload_n 0, 1) := by decide +kernel
theorem dX10_leafHere_3 : decode cX10_leafHere 3 = .ok (.invokevirtual 231, 3) := by decide +kernel
theorem dX10_leafHere_6 : decode cX10_leafHere 6 = .ok (.iconst 1, 1) := by decide +kernel
theorem dX10_leafHere_7 : decode cX10_leafHere 7 = .ok (.isub, 1) := by decide +kernel
theorem dX10_leafHere_8 : decode cX10_leafHere 8 = .ok (.invokevirtual 118, 3) := by decide +kernel
theorem dX10_leafHere_11 : decode cX10_leafHere 11 = .ok (.ireturn, 1) := by decide +kernel
theorem dX10_loosens_0 : decode cX10_loosens 0 = .ok (.aload_n 0, 1) := by decide +kernel
theorem dX10_loosens_1 : decode cX10_loosens 1 = .ok (.iload_n 1, 1) := by decide +kernel
theorem dX10_loosens_2 : decode cX10_loosens 2 = .ok (.invokevirtual 166, 3) := by decide +kernel
theorem dX10_loosens_5 : decode cX10_loosens 5 = .ok (.istore_n 2, 1) := by decide +kernel
theorem dX10_loosens_6 : decode cX10_loosens 6 = .ok (.iload_n 2, 1) := by decide +kernel
theorem dX10_loosens_7 : decode cX10_loosens 7 = .ok (.iconst (-1), 1) := by decide +kernel
theorem dX10_loosens_8 : decode cX10_loosens 8 = .ok (.if_icmp .eq 21, 3) := by decide +kernel
theorem dX10_loosens_11 : decode cX10_loosens 11 = .ok (.aload_n 0, 1) := by decide +kernel
theorem dX10_loosens_12 : decode cX10_loosens 12 = .ok (.iload_n 2, 1) := by decide +kernel
theorem dX10_loosens_13 : decode cX10_loosens 13 = .ok (.invokevirtual 237, 3) := by decide +kernel
theorem dX10_loosens_16 : decode cX10_loosens 16 = .ok (.ifCond .ne 13, 3) := by decide +kernel
theorem dX10_loosens_19 : decode cX10_loosens 19 = .ok (.aload_n 0, 1) := by decide +kernel
theorem dX10_loosens_20 : decode cX10_loosens 20 = .ok (.getfield 9, 3) := by decide +kernel
theorem dX10_loosens_23 : decode cX10_loosens 23 = .ok (.bipush 99, 2) := by decide +kernel
theorem dX10_loosens_25 : decode cX10_loosens 25 = .ok (.iload_n 2, 1) := by decide +kernel
theorem dX10_loosens_26 : decode cX10_loosens 26 = .ok (.iadd, 1) := by decide +kernel
theorem dX10_loosens_27 : decode cX10_loosens 27 = .ok (.iconst 1, 1) := by decide +kernel
theorem dX10_loosens_28 : decode cX10_loosens 28 = .ok (.iastore, 1) := by decide +kernel
theorem dX10_loosens_29 : decode cX10_loosens 29 = .ok (.return_, 1) := by decide +kernel
theorem dX10_loses_0 : decode cX10_loses 0 = .ok (.aload_n 0, 1) := by decide +kernel
theorem dX10_loses_1 : decode cX10_loses 1 = .ok (.getfield 9, 3) := by decide +kernel
theorem dX10_loses_4 : decode cX10_loses 4 = .ok (.bipush 99, 2) := by decide +kernel
theorem dX10_loses_6 : decode cX10_loses 6 = .ok (.iload_n 1, 1) := by decide +kernel
theorem dX10_loses_7 : decode cX10_loses 7 = .ok (.iadd, 1) := by decide +kernel
theorem dX10_loses_8 : decode cX10_loses 8 = .ok (.iconst 2, 1) := by decide +kernel
theorem dX10_loses_9 : decode cX10_loses 9 = .ok (.iastore, 1) := by decide +kernel
theorem dX10_loses_10 : decode cX10_loses 10 = .ok (.aload_n 0, 1) := by decide +kernel
theorem dX10_loses_11 : decode cX10_loses 11 = .ok (.iload_n 1, 1) := by decide +kernel
theorem dX10_loses_12 : decode cX10_loses 12 = .ok (.invokevirtual 346, 3) := by decide +kernel
theorem dX10_loses_15 : decode cX10_loses 15 = .ok (.return_, 1) := by decide +kernel
theorem dX10_readsLose_0 : decode cX10_readsLose 0 = .ok (.aload_n 0, 1) := by decide +kernel
theorem dX10_readsLose_1 : decode cX10_readsLose 1 = .ok (.invokevirtual 122, 3) := by decide +kernel
theorem dX10_readsLose_4 : decode cX10_readsLose 4 = .ok (.aload_n 0, 1) := by decide +kernel
theorem dX10_readsLose_5 : decode cX10_readsLose 5 = .ok (.invokevirtual 234, 3) := by decide +kernel
theorem dX10_readsLose_8 : decode cX10_readsLose 8 = .ok (.istore_n 1, 1) := by decide +kernel
theorem dX10_readsLose_9 : decode cX10_readsLose 9 = .ok (.aload_n 0, 1) := by decide +kernel
theorem dX10_readsLose_10 : decode cX10_readsLose 10 = .ok (.getfield 73, 3) := by decide +kernel
theorem dX10_readsLose_13 : decode cX10_readsLose 13 = .ok (.ifCond .ne 17, 3) := by decide +kernel
theorem dX10_readsLose_16 : decode cX10_readsLose 16 = .ok (.aload_n 0, 1) := by decide +kernel
theorem dX10_readsLose_17 : decode cX10_readsLose 17 = .ok (.iload_n 1, 1) := by decide +kernel
theorem dX10_readsLose_18 : decode cX10_readsLose 18 = .ok (.invokevirtual 237, 3) := by decide +kernel
theorem dX10_readsLose_21 : decode cX10_readsLose 21 = .ok (.iconst 2, 1) := by decide +kernel
theorem dX10_readsLose_22 : decode cX10_readsLose 22 = .ok (.if_icmp .ne 8, 3) := by decide +kernel
theorem dX10_readsLose_25 : decode cX10_readsLose 25 = .ok (.aload_n 0, 1) := by decide +kernel
theorem dX10_readsLose_26 : decode cX10_readsLose 26 = .ok (.iconst 3, 1) := by decide +kernel
theorem dX10_readsLose_27 : decode cX10_readsLose 27 = .ok (.invokevirtual 115, 3) := by decide +kernel
theorem dX10_readsLose_30 : decode cX10_readsLose 30 = .ok (.aload_n 0, 1) := by decide +kernel
theorem dX10_readsLose_31 : decode cX10_readsLose 31 = .ok (.getfield 73, 3) := by decide +kernel
theorem dX10_readsLose_34 : decode cX10_readsLose 34 = .ok (.ifCond .ne 8, 3) := by decide +kernel
theorem dX10_readsLose_37 : decode cX10_readsLose 37 = .ok (.aload_n 0, 1) := by decide +kernel
theorem dX10_readsLose_38 : decode cX10_readsLose 38 = .ok (.iload_n 1, 1) := by decide +kernel
theorem dX10_readsLose_39 : decode cX10_readsLose 39 = .ok (.invokevirtual 240, 3) := by decide +kernel
theorem dX10_readsLose_42 : decode cX10_readsLose 42 = .ok (.aload_n 0, 1) := by decide +kernel
theorem dX10_readsLose_43 : decode cX10_readsLose 43 = .ok (.invokevirtual 122, 3) := by decide +kernel
theorem dX10_readsLose_46 : decode cX10_readsLose 46 = .ok (.return_, 1) := by decide +kernel
theorem dX10_recovers_0 : decode cX10_recovers 0 = .ok (.aload_n 0, 1) := by decide +kernel
theorem dX10_recovers_1 : decode cX10_recovers 1 = .ok (.iload_n 1, 1) := by decide +kernel
theorem dX10_recovers_2 : decode cX10_recovers 2 = .ok (.invokevirtual 166, 3) := by decide +kernel
theorem dX10_recovers_5 : decode cX10_recovers 5 = .ok (.istore_n 2, 1) := by decide +kernel
theorem dX10_recovers_6 : decode cX10_recovers 6 = .ok (.aload_n 0, 1) := by decide +kernel
theorem dX10_recovers_7 : decode cX10_recovers 7 = .ok (.getfield 9, 3) := by decide +kernel
theorem dX10_recovers_10 : decode cX10_recovers 10 = .ok (.bipush 99, 2) := by decide +kernel
theorem dX10_recovers_12 : decode cX10_recovers 12 = .ok (.iload_n 1, 1) := by decide +kernel
theorem dX10_recovers_13 : decode cX10_recovers 13 = .ok (.iadd, 1) := by decide +kernel
theorem dX10_recovers_14 : decode cX10_recovers 14 = .ok (.iconst 0, 1) := by decide +kernel
theorem dX10_recovers_15 : decode cX10_recovers 15 = .ok (.iastore, 1) := by decide +kernel
theorem dX10_recovers_16 : decode cX10_recovers 16 = .ok (.iload_n 2, 1) := by decide +kernel
theorem dX10_recovers_17 : decode cX10_recovers 17 = .ok (.iconst (-1), 1) := by decide +kernel
theorem dX10_recovers_18 : decode cX10_recovers 18 = .ok (.if_icmp .eq 22, 3) := by decide +kernel
theorem dX10_recovers_21 : decode cX10_recovers 21 = .ok (.aload_n 0, 1) := by decide +kernel
theorem dX10_recovers_22 : decode cX10_recovers 22 = .ok (.iload_n 2, 1) := by decide +kernel
theorem dX10_recovers_23 : decode cX10_recovers 23 = .ok (.invokevirtual 237, 3) := by decide +kernel
theorem dX10_recovers_26 : decode cX10_recovers 26 = .ok (.iconst 1, 1) := by decide +kernel
theorem dX10_recovers_27 : decode cX10_recovers 27 = .ok (.if_icmp .ne 13, 3) := by decide +kernel
theorem dX10_recovers_30 : decode cX10_recovers 30 = .ok (.aload_n 0, 1) := by decide +kernel
theorem dX10_recovers_31 : decode cX10_recovers 31 = .ok (.getfield 9, 3) := by decide +kernel
theorem dX10_recovers_34 : decode cX10_recovers 34 = .ok (.bipush 99, 2) := by decide +kernel
theorem dX10_recovers_36 : decode cX10_recovers 36 = .ok (.iload_n 2, 1) := by decide +kernel
theorem dX10_recovers_37 : decode cX10_recovers 37 = .ok (.iadd, 1) := by decide +kernel
theorem dX10_recovers_38 : decode cX10_recovers 38 = .ok (.iconst 0, 1) := by decide +kernel
theorem dX10_recovers_39 : decode cX10_recovers 39 = .ok (.iastore, 1) := by decide +kernel
theorem dX10_recovers_40 : decode cX10_recovers 40 = .ok (.return_, 1) := by decide +kernel
theorem dX10_readsFind_0 : decode cX10_readsFind 0 = .ok (.aload_n 0, 1) := by decide +kernel
theorem dX10_readsFind_1 : decode cX10_readsFind 1 = .ok (.invokevirtual 122, 3) := by decide +kernel
theorem dX10_readsFind_4 : decode cX10_readsFind 4 = .ok (.aload_n 0, 1) := by decide +kernel
theorem dX10_readsFind_5 : decode cX10_readsFind 5 = .ok (.invokevirtual 234, 3) := by decide +kernel
theorem dX10_readsFind_8 : decode cX10_readsFind 8 = .ok (.istore_n 1, 1) := by decide +kernel
theorem dX10_readsFind_9 : decode cX10_readsFind 9 = .ok (.aload_n 0, 1) := by decide +kernel
theorem dX10_readsFind_10 : decode cX10_readsFind 10 = .ok (.getfield 73, 3) := by decide +kernel
theorem dX10_readsFind_13 : decode cX10_readsFind 13 = .ok (.ifCond .ne 17, 3) := by decide +kernel
theorem dX10_readsFind_16 : decode cX10_readsFind 16 = .ok (.aload_n 0, 1) := by decide +kernel
theorem dX10_readsFind_17 : decode cX10_readsFind 17 = .ok (.iload_n 1, 1) := by decide +kernel
theorem dX10_readsFind_18 : decode cX10_readsFind 18 = .ok (.invokevirtual 237, 3) := by decide +kernel
theorem dX10_readsFind_21 : decode cX10_readsFind 21 = .ok (.iconst 2, 1) := by decide +kernel
theorem dX10_readsFind_22 : decode cX10_readsFind 22 = .ok (.if_icmp .eq 8, 3) := by decide +kernel
theorem dX10_readsFind_25 : decode cX10_readsFind 25 = .ok (.aload_n 0, 1) := by decide +kernel
theorem dX10_readsFind_26 : decode cX10_readsFind 26 = .ok (.iconst 3, 1) := by decide +kernel
theorem dX10_readsFind_27 : decode cX10_readsFind 27 = .ok (.invokevirtual 115, 3) := by decide +kernel
theorem dX10_readsFind_30 : decode cX10_readsFind 30 = .ok (.aload_n 0, 1) := by decide +kernel
theorem dX10_readsFind_31 : decode cX10_readsFind 31 = .ok (.getfield 73, 3) := by decide +kernel
theorem dX10_readsFind_34 : decode cX10_readsFind 34 = .ok (.ifCond .ne 8, 3) := by decide +kernel
theorem dX10_readsFind_37 : decode cX10_readsFind 37 = .ok (.aload_n 0, 1) := by decide +kernel
theorem dX10_readsFind_38 : decode cX10_readsFind 38 = .ok (.iload_n 1, 1) := by decide +kernel
theorem dX10_readsFind_39 : decode cX10_readsFind 39 = .ok (.invokevirtual 243, 3) := by decide +kernel
theorem dX10_readsFind_42 : decode cX10_readsFind 42 = .ok (.aload_n 0, 1) := by decide +kernel
theorem dX10_readsFind_43 : decode cX10_readsFind 43 = .ok (.invokevirtual 122, 3) := by decide +kernel
theorem dX10_readsFind_46 : decode cX10_readsFind 46 = .ok (.return_, 1) := by decide +kernel
theorem dX10_readsSew_0 : decode cX10_readsSew 0 = .ok (.aload_n 0, 1) := by decide +kernel
theorem dX10_readsSew_1 : decode cX10_readsSew 1 = .ok (.invokevirtual 122, 3) := by decide +kernel
theorem dX10_readsSew_4 : decode cX10_readsSew 4 = .ok (.aload_n 0, 1) := by decide +kernel
theorem dX10_readsSew_5 : decode cX10_readsSew 5 = .ok (.invokevirtual 234, 3) := by decide +kernel
theorem dX10_readsSew_8 : decode cX10_readsSew 8 = .ok (.istore_n 1, 1) := by decide +kernel
theorem dX10_readsSew_9 : decode cX10_readsSew 9 = .ok (.aload_n 0, 1) := by decide +kernel
theorem dX10_readsSew_10 : decode cX10_readsSew 10 = .ok (.getfield 73, 3) := by decide +kernel
theorem dX10_readsSew_13 : decode cX10_readsSew 13 = .ok (.ifCond .ne 17, 3) := by decide +kernel
theorem dX10_readsSew_16 : decode cX10_readsSew 16 = .ok (.aload_n 0, 1) := by decide +kernel
theorem dX10_readsSew_17 : decode cX10_readsSew 17 = .ok (.iload_n 1, 1) := by decide +kernel
theorem dX10_readsSew_18 : decode cX10_readsSew 18 = .ok (.invokevirtual 237, 3) := by decide +kernel
theorem dX10_readsSew_21 : decode cX10_readsSew 21 = .ok (.iconst 1, 1) := by decide +kernel
theorem dX10_readsSew_22 : decode cX10_readsSew 22 = .ok (.if_icmp .eq 8, 3) := by decide +kernel
theorem dX10_readsSew_25 : decode cX10_readsSew 25 = .ok (.aload_n 0, 1) := by decide +kernel
theorem dX10_readsSew_26 : decode cX10_readsSew 26 = .ok (.iconst 3, 1) := by decide +kernel
theorem dX10_readsSew_27 : decode cX10_readsSew 27 = .ok (.invokevirtual 115, 3) := by decide +kernel
theorem dX10_readsSew_30 : decode cX10_readsSew 30 = .ok (.aload_n 0, 1) := by decide +kernel
theorem dX10_readsSew_31 : decode cX10_readsSew 31 = .ok (.getfield 73, 3) := by decide +kernel
theorem dX10_readsSew_34 : decode cX10_readsSew 34 = .ok (.ifCond .ne 13, 3) := by decide +kernel
theorem dX10_readsSew_37 : decode cX10_readsSew 37 = .ok (.aload_n 0, 1) := by decide +kernel
theorem dX10_readsSew_38 : decode cX10_readsSew 38 = .ok (.getfield 9, 3) := by decide +kernel
theorem dX10_readsSew_41 : decode cX10_readsSew 41 = .ok (.bipush 99, 2) := by decide +kernel
theorem dX10_readsSew_43 : decode cX10_readsSew 43 = .ok (.iload_n 1, 1) := by decide +kernel
theorem dX10_readsSew_44 : decode cX10_readsSew 44 = .ok (.iadd, 1) := by decide +kernel
theorem dX10_readsSew_45 : decode cX10_readsSew 45 = .ok (.iconst 0, 1) := by decide +kernel
theorem dX10_readsSew_46 : decode cX10_readsSew 46 = .ok (.iastore, 1) := by decide +kernel
theorem dX10_readsSew_47 : decode cX10_readsSew 47 = .ok (.aload_n 0, 1) := by decide +kernel
theorem dX10_readsSew_48 : decode cX10_readsSew 48 = .ok (.invokevirtual 122, 3) := by decide +kernel
theorem dX10_readsSew_51 : decode cX10_readsSew 51 = .ok (.return_, 1) := by decide +kernel
theorem dX10_shakes_0 : decode cX10_shakes 0 = .ok (.iconst 0, 1) := by decide +kernel
theorem dX10_shakes_1 : decode cX10_shakes 1 = .ok (.istore_n 1, 1) := by decide +kernel
theorem dX10_shakes_2 : decode cX10_shakes 2 = .ok (.iconst 0, 1) := by decide +kernel
theorem dX10_shakes_3 : decode cX10_shakes 3 = .ok (.istore_n 2, 1) := by decide +kernel
theorem dX10_shakes_4 : decode cX10_shakes 4 = .ok (.iload_n 2, 1) := by decide +kernel
theorem dX10_shakes_5 : decode cX10_shakes 5 = .ok (.aload_n 0, 1) := by decide +kernel
theorem dX10_shakes_6 : decode cX10_shakes 6 = .ok (.invokevirtual 231, 3) := by decide +kernel
theorem dX10_shakes_9 : decode cX10_shakes 9 = .ok (.if_icmp .ge 60, 3) := by decide +kernel
theorem dX10_shakes_12 : decode cX10_shakes 12 = .ok (.aload_n 0, 1) := by decide +kernel
theorem dX10_shakes_13 : decode cX10_shakes 13 = .ok (.getfield 35, 3) := by decide +kernel
theorem dX10_shakes_16 : decode cX10_shakes 16 = .ok (.iload_n 2, 1) := by decide +kernel
theorem dX10_shakes_17 : decode cX10_shakes 17 = .ok (.aload_n 0, 1) := by decide +kernel
theorem dX10_shakes_18 : decode cX10_shakes 18 = .ok (.iload_n 2, 1) := by decide +kernel
theorem dX10_shakes_19 : decode cX10_shakes 19 = .ok (.invokevirtual 237, 3) := by decide +kernel
theorem dX10_shakes_22 : decode cX10_shakes 22 = .ok (.iconst 1, 1) := by decide +kernel
theorem dX10_shakes_23 : decode cX10_shakes 23 = .ok (.if_icmp .ne 7, 3) := by decide +kernel
theorem dX10_shakes_26 : decode cX10_shakes 26 = .ok (.iconst 1, 1) := by decide +kernel
theorem dX10_shakes_27 : decode cX10_shakes 27 = .ok (.goto 4, 3) := by decide +kernel
theorem dX10_shakes_30 : decode cX10_shakes 30 = .ok (.iconst 0, 1) := by decide +kernel
theorem dX10_shakes_31 : decode cX10_shakes 31 = .ok (.bastore, 1) := by decide +kernel
theorem dX10_shakes_32 : decode cX10_shakes 32 = .ok (.iload_n 1, 1) := by decide +kernel
theorem dX10_shakes_33 : decode cX10_shakes 33 = .ok (.aload_n 0, 1) := by decide +kernel
theorem dX10_shakes_34 : decode cX10_shakes 34 = .ok (.getfield 35, 3) := by decide +kernel
theorem dX10_shakes_37 : decode cX10_shakes 37 = .ok (.iload_n 2, 1) := by decide +kernel
theorem dX10_shakes_38 : decode cX10_shakes 38 = .ok (.baload, 1) := by decide +kernel
theorem dX10_shakes_39 : decode cX10_shakes 39 = .ok (.invokestatic 333, 3) := by decide +kernel
theorem dX10_shakes_42 : decode cX10_shakes 42 = .ok (.iadd, 1) := by decide +kernel
theorem dX10_shakes_43 : decode cX10_shakes 43 = .ok (.istore_n 1, 1) := by decide +kernel
theorem dX10_shakes_44 : decode cX10_shakes 44 = .ok (.aload_n 0, 1) := by decide +kernel
theorem dX10_shakes_45 : decode cX10_shakes 45 = .ok (.getfield 35, 3) := by decide +kernel
theorem dX10_shakes_48 : decode cX10_shakes 48 = .ok (.iload_n 2, 1) := by decide +kernel
theorem dX10_shakes_49 : decode cX10_shakes 49 = .ok (.baload, 1) := by decide +kernel
theorem dX10_shakes_50 : decode cX10_shakes 50 = .ok (.ifCond .eq 13, 3) := by decide +kernel
theorem dX10_shakes_53 : decode cX10_shakes 53 = .ok (.aload_n 0, 1) := by decide +kernel
theorem dX10_shakes_54 : decode cX10_shakes 54 = .ok (.getfield 9, 3) := by decide +kernel
theorem dX10_shakes_57 : decode cX10_shakes 57 = .ok (.bipush 99, 2) := by decide +kernel
theorem dX10_shakes_59 : decode cX10_shakes 59 = .ok (.iload_n 2, 1) := by decide +kernel
theorem dX10_shakes_60 : decode cX10_shakes 60 = .ok (.iadd, 1) := by decide +kernel
theorem dX10_shakes_61 : decode cX10_shakes 61 = .ok (.iconst 2, 1) := by decide +kernel
theorem dX10_shakes_62 : decode cX10_shakes 62 = .ok (.iastore, 1) := by decide +kernel
theorem dX10_shakes_63 : decode cX10_shakes 63 = .ok (.iinc 2 1, 3) := by decide +kernel
theorem dX10_shakes_66 : decode cX10_shakes 66 = .ok (.goto (-62), 3) := by decide +kernel
theorem dX10_shakes_69 : decode cX10_shakes 69 = .ok (.iconst 0, 1) := by decide +kernel
theorem dX10_shakes_70 : decode cX10_shakes 70 = .ok (.istore_n 2, 1) := by decide +kernel
theorem dX10_shakes_71 : decode cX10_shakes 71 = .ok (.iload_n 2, 1) := by decide +kernel
theorem dX10_shakes_72 : decode cX10_shakes 72 = .ok (.aload_n 0, 1) := by decide +kernel
theorem dX10_shakes_73 : decode cX10_shakes 73 = .ok (.invokevirtual 231, 3) := by decide +kernel
theorem dX10_shakes_76 : decode cX10_shakes 76 = .ok (.if_icmp .ge 23, 3) := by decide +kernel
theorem dX10_shakes_79 : decode cX10_shakes 79 = .ok (.aload_n 0, 1) := by decide +kernel
theorem dX10_shakes_80 : decode cX10_shakes 80 = .ok (.getfield 35, 3) := by decide +kernel
theorem dX10_shakes_83 : decode cX10_shakes 83 = .ok (.iload_n 2, 1) := by decide +kernel
theorem dX10_shakes_84 : decode cX10_shakes 84 = .ok (.baload, 1) := by decide +kernel
theorem dX10_shakes_85 : decode cX10_shakes 85 = .ok (.ifCond .eq 8, 3) := by decide +kernel
theorem dX10_shakes_88 : decode cX10_shakes 88 = .ok (.aload_n 0, 1) := by decide +kernel
theorem dX10_shakes_89 : decode cX10_shakes 89 = .ok (.iload_n 2, 1) := by decide +kernel
theorem dX10_shakes_90 : decode cX10_shakes 90 = .ok (.invokevirtual 346, 3) := by decide +kernel
theorem dX10_shakes_93 : decode cX10_shakes 93 = .ok (.iinc 2 1, 3) := by decide +kernel
theorem dX10_shakes_96 : decode cX10_shakes 96 = .ok (.goto (-25), 3) := by decide +kernel
theorem dX10_shakes_99 : decode cX10_shakes 99 = .ok (.iload_n 1, 1) := by decide +kernel
theorem dX10_shakes_100 : decode cX10_shakes 100 = .ok (.ireturn, 1) := by decide +kernel
theorem dX10_readsShake_0 : decode cX10_readsShake 0 = .ok (.aload_n 0, 1) := by decide +kernel
theorem dX10_readsShake_1 : decode cX10_readsShake 1 = .ok (.invokevirtual 246, 3) := by decide +kernel
theorem dX10_readsShake_4 : decode cX10_readsShake 4 = .ok (.istore_n 1, 1) := by decide +kernel
theorem dX10_readsShake_5 : decode cX10_readsShake 5 = .ok (.aload_n 0, 1) := by decide +kernel
theorem dX10_readsShake_6 : decode cX10_readsShake 6 = .ok (.invokevirtual 122, 3) := by decide +kernel
theorem dX10_readsShake_9 : decode cX10_readsShake 9 = .ok (.return_, 1) := by decide +kernel
theorem dX10_readsLeafLine_0 : decode cX10_readsLeafLine 0 = .ok (.aload_n 0, 1) := by decide +kernel
theorem dX10_readsLeafLine_1 : decode cX10_readsLeafLine 1 = .ok (.ldc_w 287, 3) := by decide +kernel
theorem dX10_readsLeafLine_4 : decode cX10_readsLeafLine 4 = .ok (.invokevirtual 171, 3) := by decide +kernel
theorem dX10_readsLeafLine_7 : decode cX10_readsLeafLine 7 = .ok (.ifCond .eq 10, 3) := by decide +kernel
theorem dX10_readsLeafLine_10 : decode cX10_readsLeafLine 10 = .ok (.aload_n 0, 1) := by decide +kernel
theorem dX10_readsLeafLine_11 : decode cX10_readsLeafLine 11 = .ok (.invokevirtual 289, 3) := by decide +kernel
theorem dX10_readsLeafLine_14 : decode cX10_readsLeafLine 14 = .ok (.goto 59, 3) := by decide +kernel
theorem dX10_readsLeafLine_17 : decode cX10_readsLeafLine 17 = .ok (.aload_n 0, 1) := by decide +kernel
theorem dX10_readsLeafLine_18 : decode cX10_readsLeafLine 18 = .ok (.ldc_w 292, 3) := by decide +kernel
theorem dX10_readsLeafLine_21 : decode cX10_readsLeafLine 21 = .ok (.invokevirtual 171, 3) := by decide +kernel
theorem dX10_readsLeafLine_24 : decode cX10_readsLeafLine 24 = .ok (.ifCond .eq 10, 3) := by decide +kernel
theorem dX10_readsLeafLine_27 : decode cX10_readsLeafLine 27 = .ok (.aload_n 0, 1) := by decide +kernel
theorem dX10_readsLeafLine_28 : decode cX10_readsLeafLine 28 = .ok (.invokevirtual 294, 3) := by decide +kernel
theorem dX10_readsLeafLine_31 : decode cX10_readsLeafLine 31 = .ok (.goto 42, 3) := by decide +kernel
theorem dX10_readsLeafLine_34 : decode cX10_readsLeafLine 34 = .ok (.aload_n 0, 1) := by decide +kernel
theorem dX10_readsLeafLine_35 : decode cX10_readsLeafLine 35 = .ok (.ldc_w 297, 3) := by decide +kernel
theorem dX10_readsLeafLine_38 : decode cX10_readsLeafLine 38 = .ok (.invokevirtual 171, 3) := by decide +kernel
theorem dX10_readsLeafLine_41 : decode cX10_readsLeafLine 41 = .ok (.ifCond .eq 10, 3) := by decide +kernel
theorem dX10_readsLeafLine_44 : decode cX10_readsLeafLine 44 = .ok (.aload_n 0, 1) := by decide +kernel
theorem dX10_readsLeafLine_45 : decode cX10_readsLeafLine 45 = .ok (.invokevirtual 299, 3) := by decide +kernel
theorem dX10_readsLeafLine_48 : decode cX10_readsLeafLine 48 = .ok (.goto 25, 3) := by decide +kernel
theorem dX10_readsLeafLine_51 : decode cX10_readsLeafLine 51 = .ok (.aload_n 0, 1) := by decide +kernel
theorem dX10_readsLeafLine_52 : decode cX10_readsLeafLine 52 = .ok (.ldc_w 302, 3) := by decide +kernel
theorem dX10_readsLeafLine_55 : decode cX10_readsLeafLine 55 = .ok (.invokevirtual 171, 3) := by decide +kernel
theorem dX10_readsLeafLine_58 : decode cX10_readsLeafLine 58 = .ok (.ifCond .eq 10, 3) := by decide +kernel
theorem dX10_readsLeafLine_61 : decode cX10_readsLeafLine 61 = .ok (.aload_n 0, 1) := by decide +kernel
theorem dX10_readsLeafLine_62 : decode cX10_readsLeafLine 62 = .ok (.invokevirtual 304, 3) := by decide +kernel
theorem dX10_readsLeafLine_65 : decode cX10_readsLeafLine 65 = .ok (.goto 8, 3) := by decide +kernel
theorem dX10_readsLeafLine_68 : decode cX10_readsLeafLine 68 = .ok (.aload_n 0, 1) := by decide +kernel
theorem dX10_readsLeafLine_69 : decode cX10_readsLeafLine 69 = .ok (.iconst 1, 1) := by decide +kernel
theorem dX10_readsLeafLine_70 : decode cX10_readsLeafLine 70 = .ok (.invokevirtual 115, 3) := by decide +kernel
theorem dX10_readsLeafLine_73 : decode cX10_readsLeafLine 73 = .ok (.return_, 1) := by decide +kernel
theorem dX10_readsLine_0 : decode cX10_readsLine 0 = .ok (.aload_n 0, 1) := by decide +kernel
theorem dX10_readsLine_1 : decode cX10_readsLine 1 = .ok (.ldc 249, 2) := by decide +kernel
theorem dX10_readsLine_3 : decode cX10_readsLine 3 = .ok (.invokevirtual 171, 3) := by decide +kernel
theorem dX10_readsLine_6 : decode cX10_readsLine 6 = .ok (.ifCond .eq 10, 3) := by decide +kernel
theorem dX10_readsLine_9 : decode cX10_readsLine 9 = .ok (.aload_n 0, 1) := by decide +kernel
theorem dX10_readsLine_10 : decode cX10_readsLine 10 = .ok (.invokevirtual 251, 3) := by decide +kernel
theorem dX10_readsLine_13 : decode cX10_readsLine 13 = .ok (.goto 108, 3) := by decide +kernel
theorem dX10_readsLine_16 : decode cX10_readsLine 16 = .ok (.aload_n 0, 1) := by decide +kernel
theorem dX10_readsLine_17 : decode cX10_readsLine 17 = .ok (.ldc 254, 2) := by decide +kernel
theorem dX10_readsLine_19 : decode cX10_readsLine 19 = .ok (.invokevirtual 171, 3) := by decide +kernel
theorem dX10_readsLine_22 : decode cX10_readsLine 22 = .ok (.ifCond .eq 10, 3) := by decide +kernel
theorem dX10_readsLine_25 : decode cX10_readsLine 25 = .ok (.aload_n 0, 1) := by decide +kernel
theorem dX10_readsLine_26 : decode cX10_readsLine 26 = .ok (.invokevirtual 256, 3) := by decide +kernel
theorem dX10_readsLine_29 : decode cX10_readsLine 29 = .ok (.goto 92, 3) := by decide +kernel
theorem dX10_readsLine_32 : decode cX10_readsLine 32 = .ok (.aload_n 0, 1) := by decide +kernel
theorem dX10_readsLine_33 : decode cX10_readsLine 33 = .ok (.ldc_w 259, 3) := by decide +kernel
theorem dX10_readsLine_36 : decode cX10_readsLine 36 = .ok (.invokevirtual 171, 3) := by decide +kernel
theorem dX10_readsLine_39 : decode cX10_readsLine 39 = .ok (.ifCond .eq 10, 3) := by decide +kernel
theorem dX10_readsLine_42 : decode cX10_readsLine 42 = .ok (.aload_n 0, 1) := by decide +kernel
theorem dX10_readsLine_43 : decode cX10_readsLine 43 = .ok (.invokevirtual 261, 3) := by decide +kernel
theorem dX10_readsLine_46 : decode cX10_readsLine 46 = .ok (.goto 75, 3) := by decide +kernel
theorem dX10_readsLine_49 : decode cX10_readsLine 49 = .ok (.aload_n 0, 1) := by decide +kernel
theorem dX10_readsLine_50 : decode cX10_readsLine 50 = .ok (.ldc_w 264, 3) := by decide +kernel
theorem dX10_readsLine_53 : decode cX10_readsLine 53 = .ok (.invokevirtual 171, 3) := by decide +kernel
theorem dX10_readsLine_56 : decode cX10_readsLine 56 = .ok (.ifCond .eq 10, 3) := by decide +kernel
theorem dX10_readsLine_59 : decode cX10_readsLine 59 = .ok (.aload_n 0, 1) := by decide +kernel
theorem dX10_readsLine_60 : decode cX10_readsLine 60 = .ok (.invokevirtual 266, 3) := by decide +kernel
theorem dX10_readsLine_63 : decode cX10_readsLine 63 = .ok (.goto 58, 3) := by decide +kernel
theorem dX10_readsLine_66 : decode cX10_readsLine 66 = .ok (.aload_n 0, 1) := by decide +kernel
theorem dX10_readsLine_67 : decode cX10_readsLine 67 = .ok (.ldc_w 269, 3) := by decide +kernel
theorem dX10_readsLine_70 : decode cX10_readsLine 70 = .ok (.invokevirtual 171, 3) := by decide +kernel
theorem dX10_readsLine_73 : decode cX10_readsLine 73 = .ok (.ifCond .eq 10, 3) := by decide +kernel
theorem dX10_readsLine_76 : decode cX10_readsLine 76 = .ok (.aload_n 0, 1) := by decide +kernel
theorem dX10_readsLine_77 : decode cX10_readsLine 77 = .ok (.invokevirtual 271, 3) := by decide +kernel
theorem dX10_readsLine_80 : decode cX10_readsLine 80 = .ok (.goto 41, 3) := by decide +kernel
theorem dX10_readsLine_83 : decode cX10_readsLine 83 = .ok (.aload_n 0, 1) := by decide +kernel
theorem dX10_readsLine_84 : decode cX10_readsLine 84 = .ok (.ldc_w 274, 3) := by decide +kernel
theorem dX10_readsLine_87 : decode cX10_readsLine 87 = .ok (.invokevirtual 171, 3) := by decide +kernel
theorem dX10_readsLine_90 : decode cX10_readsLine 90 = .ok (.ifCond .eq 10, 3) := by decide +kernel
theorem dX10_readsLine_93 : decode cX10_readsLine 93 = .ok (.aload_n 0, 1) := by decide +kernel
theorem dX10_readsLine_94 : decode cX10_readsLine 94 = .ok (.invokevirtual 276, 3) := by decide +kernel
theorem dX10_readsLine_97 : decode cX10_readsLine 97 = .ok (.goto 24, 3) := by decide +kernel
theorem dX10_readsLine_100 : decode cX10_readsLine 100 = .ok (.aload_n 0, 1) := by decide +kernel
theorem dX10_readsLine_101 : decode cX10_readsLine 101 = .ok (.ldc_w 279, 3) := by decide +kernel
theorem dX10_readsLine_104 : decode cX10_readsLine 104 = .ok (.invokevirtual 171, 3) := by decide +kernel
theorem dX10_readsLine_107 : decode cX10_readsLine 107 = .ok (.ifCond .eq 10, 3) := by decide +kernel
theorem dX10_readsLine_110 : decode cX10_readsLine 110 = .ok (.aload_n 0, 1) := by decide +kernel
theorem dX10_readsLine_111 : decode cX10_readsLine 111 = .ok (.invokevirtual 281, 3) := by decide +kernel
theorem dX10_readsLine_114 : decode cX10_readsLine 114 = .ok (.goto 7, 3) := by decide +kernel
theorem dX10_readsLine_117 : decode cX10_readsLine 117 = .ok (.aload_n 0, 1) := by decide +kernel
theorem dX10_readsLine_118 : decode cX10_readsLine 118 = .ok (.invokevirtual 284, 3) := by decide +kernel
theorem dX10_readsLine_121 : decode cX10_readsLine 121 = .ok (.return_, 1) := by decide +kernel
theorem dX10_readsText_0 : decode cX10_readsText 0 = .ok (.aload_n 0, 1) := by decide +kernel
theorem dX10_readsText_1 : decode cX10_readsText 1 = .ok (.invokevirtual 122, 3) := by decide +kernel
theorem dX10_readsText_4 : decode cX10_readsText 4 = .ok (.aload_n 0, 1) := by decide +kernel
theorem dX10_readsText_5 : decode cX10_readsText 5 = .ok (.ldc_w 307, 3) := by decide +kernel
theorem dX10_readsText_8 : decode cX10_readsText 8 = .ok (.invokevirtual 171, 3) := by decide +kernel
theorem dX10_readsText_11 : decode cX10_readsText 11 = .ok (.ifCond .ne 8, 3) := by decide +kernel
theorem dX10_readsText_14 : decode cX10_readsText 14 = .ok (.aload_n 0, 1) := by decide +kernel
theorem dX10_readsText_15 : decode cX10_readsText 15 = .ok (.iconst 1, 1) := by decide +kernel
theorem dX10_readsText_16 : decode cX10_readsText 16 = .ok (.invokevirtual 115, 3) := by decide +kernel
theorem dX10_readsText_19 : decode cX10_readsText 19 = .ok (.aload_n 0, 1) := by decide +kernel
theorem dX10_readsText_20 : decode cX10_readsText 20 = .ok (.invokevirtual 122, 3) := by decide +kernel
theorem dX10_readsText_23 : decode cX10_readsText 23 = .ok (.aload_n 0, 1) := by decide +kernel
theorem dX10_readsText_24 : decode cX10_readsText 24 = .ok (.getfield 9, 3) := by decide +kernel
theorem dX10_readsText_27 : decode cX10_readsText 27 = .ok (.iconst 0, 1) := by decide +kernel
theorem dX10_readsText_28 : decode cX10_readsText 28 = .ok (.aload_n 0, 1) := by decide +kernel
theorem dX10_readsText_29 : decode cX10_readsText 29 = .ok (.iconst 4, 1) := by decide +kernel
theorem dX10_readsText_30 : decode cX10_readsText 30 = .ok (.bipush 20, 2) := by decide +kernel
theorem dX10_readsText_32 : decode cX10_readsText 32 = .ok (.invokevirtual 215, 3) := by decide +kernel
theorem dX10_readsText_35 : decode cX10_readsText 35 = .ok (.iastore, 1) := by decide +kernel
theorem dX10_readsText_36 : decode cX10_readsText 36 = .ok (.aload_n 0, 1) := by decide +kernel
theorem dX10_readsText_37 : decode cX10_readsText 37 = .ok (.getfield 9, 3) := by decide +kernel
theorem dX10_readsText_40 : decode cX10_readsText 40 = .ok (.iconst 1, 1) := by decide +kernel
theorem dX10_readsText_41 : decode cX10_readsText 41 = .ok (.aload_n 0, 1) := by decide +kernel
theorem dX10_readsText_42 : decode cX10_readsText 42 = .ok (.iconst 0, 1) := by decide +kernel
theorem dX10_readsText_43 : decode cX10_readsText 43 = .ok (.iconst 4, 1) := by decide +kernel
theorem dX10_readsText_44 : decode cX10_readsText 44 = .ok (.invokevirtual 215, 3) := by decide +kernel
theorem dX10_readsText_47 : decode cX10_readsText 47 = .ok (.iastore, 1) := by decide +kernel
theorem dX10_readsText_48 : decode cX10_readsText 48 = .ok (.aload_n 0, 1) := by decide +kernel
theorem dX10_readsText_49 : decode cX10_readsText 49 = .ok (.getfield 9, 3) := by decide +kernel
theorem dX10_readsText_52 : decode cX10_readsText 52 = .ok (.iconst 2, 1) := by decide +kernel
theorem dX10_readsText_53 : decode cX10_readsText 53 = .ok (.aload_n 0, 1) := by decide +kernel
theorem dX10_readsText_54 : decode cX10_readsText 54 = .ok (.iconst 2, 1) := by decide +kernel
theorem dX10_readsText_55 : decode cX10_readsText 55 = .ok (.iconst 4, 1) := by decide +kernel
theorem dX10_readsText_56 : decode cX10_readsText 56 = .ok (.invokevirtual 215, 3) := by decide +kernel
theorem dX10_readsText_59 : decode cX10_readsText 59 = .ok (.iastore, 1) := by decide +kernel
theorem dX10_readsText_60 : decode cX10_readsText 60 = .ok (.aload_n 0, 1) := by decide +kernel
theorem dX10_readsText_61 : decode cX10_readsText 61 = .ok (.iconst 4, 1) := by decide +kernel
theorem dX10_readsText_62 : decode cX10_readsText 62 = .ok (.invokevirtual 102, 3) := by decide +kernel
theorem dX10_readsText_65 : decode cX10_readsText 65 = .ok (.ifCond .eq 14, 3) := by decide +kernel
theorem dX10_readsText_68 : decode cX10_readsText 68 = .ok (.aload_n 0, 1) := by decide +kernel
theorem dX10_readsText_69 : decode cX10_readsText 69 = .ok (.invokevirtual 122, 3) := by decide +kernel
theorem dX10_readsText_72 : decode cX10_readsText 72 = .ok (.aload_n 0, 1) := by decide +kernel
theorem dX10_readsText_73 : decode cX10_readsText 73 = .ok (.invokevirtual 309, 3) := by decide +kernel
theorem dX10_readsText_76 : decode cX10_readsText 76 = .ok (.goto (-16), 3) := by decide +kernel
theorem dX10_readsText_79 : decode cX10_readsText 79 = .ok (.aload_n 0, 1) := by decide +kernel
theorem dX10_readsText_80 : decode cX10_readsText 80 = .ok (.iconst 1, 1) := by decide +kernel
theorem dX10_readsText_81 : decode cX10_readsText 81 = .ok (.invokevirtual 102, 3) := by decide +kernel
theorem dX10_readsText_84 : decode cX10_readsText 84 = .ok (.ifCond .ne 8, 3) := by decide +kernel
theorem dX10_readsText_87 : decode cX10_readsText 87 = .ok (.aload_n 0, 1) := by decide +kernel
theorem dX10_readsText_88 : decode cX10_readsText 88 = .ok (.iconst 1, 1) := by decide +kernel
theorem dX10_readsText_89 : decode cX10_readsText 89 = .ok (.invokevirtual 115, 3) := by decide +kernel
theorem dX10_readsText_92 : decode cX10_readsText 92 = .ok (.return_, 1) := by decide +kernel
theorem dX10_load_0 : decode cX10_load 0 = .ok (.aload_n 0, 1) := by decide +kernel
theorem dX10_load_1 : decode cX10_load 1 = .ok (.iload_n 1, 1) := by decide +kernel
theorem dX10_load_2 : decode cX10_load 2 = .ok (.iconst 0, 1) := by decide +kernel
theorem dX10_load_3 : decode cX10_load 3 = .ok (.aload_n 0, 1) := by decide +kernel
theorem dX10_load_4 : decode cX10_load 4 = .ok (.getfield 56, 3) := by decide +kernel
theorem dX10_load_7 : decode cX10_load 7 = .ok (.invokestatic 69, 3) := by decide +kernel
theorem dX10_load_10 : decode cX10_load 10 = .ok (.iconst 1, 1) := by decide +kernel
theorem dX10_load_11 : decode cX10_load 11 = .ok (.iconst 1, 1) := by decide +kernel
theorem dX10_load_12 : decode cX10_load 12 = .ok (.invokevirtual 44, 3) := by decide +kernel
theorem dX10_load_15 : decode cX10_load 15 = .ok (.ifCond .ne 5, 3) := by decide +kernel
theorem dX10_load_18 : decode cX10_load 18 = .ok (.iconst 0, 1) := by decide +kernel
theorem dX10_load_19 : decode cX10_load 19 = .ok (.ireturn, 1) := by decide +kernel
theorem dX10_load_20 : decode cX10_load 20 = .ok (.aload_n 0, 1) := by decide +kernel
theorem dX10_load_21 : decode cX10_load 21 = .ok (.iload_n 1, 1) := by decide +kernel
theorem dX10_load_22 : decode cX10_load 22 = .ok (.invokevirtual 312, 3) := by decide +kernel
theorem dX10_load_25 : decode cX10_load 25 = .ok (.aload_n 0, 1) := by decide +kernel
theorem dX10_load_26 : decode cX10_load 26 = .ok (.iconst 0, 1) := by decide +kernel
theorem dX10_load_27 : decode cX10_load 27 = .ok (.putfield 56, 3) := by decide +kernel
theorem dX10_load_30 : decode cX10_load 30 = .ok (.aload_n 0, 1) := by decide +kernel
theorem dX10_load_31 : decode cX10_load 31 = .ok (.invokevirtual 315, 3) := by decide +kernel
theorem dX10_load_34 : decode cX10_load 34 = .ok (.iconst 0, 1) := by decide +kernel
theorem dX10_load_35 : decode cX10_load 35 = .ok (.istore_n 2, 1) := by decide +kernel
theorem dX10_load_36 : decode cX10_load 36 = .ok (.iload_n 2, 1) := by decide +kernel
theorem dX10_load_37 : decode cX10_load 37 = .ok (.sipush 6139, 3) := by decide +kernel
theorem dX10_load_40 : decode cX10_load 40 = .ok (.if_icmp .ge 16, 3) := by decide +kernel
theorem dX10_load_43 : decode cX10_load 43 = .ok (.aload_n 0, 1) := by decide +kernel
theorem dX10_load_44 : decode cX10_load 44 = .ok (.getfield 9, 3) := by decide +kernel
theorem dX10_load_47 : decode cX10_load 47 = .ok (.iload_n 2, 1) := by decide +kernel
theorem dX10_load_48 : decode cX10_load 48 = .ok (.iconst 0, 1) := by decide +kernel
theorem dX10_load_49 : decode cX10_load 49 = .ok (.iastore, 1) := by decide +kernel
theorem dX10_load_50 : decode cX10_load 50 = .ok (.iinc 2 1, 3) := by decide +kernel
theorem dX10_load_53 : decode cX10_load 53 = .ok (.goto (-17), 3) := by decide +kernel
theorem dX10_load_56 : decode cX10_load 56 = .ok (.aload_n 0, 1) := by decide +kernel
theorem dX10_load_57 : decode cX10_load 57 = .ok (.invokevirtual 318, 3) := by decide +kernel
theorem dX10_load_60 : decode cX10_load 60 = .ok (.aload_n 0, 1) := by decide +kernel
theorem dX10_load_61 : decode cX10_load 61 = .ok (.aload_n 0, 1) := by decide +kernel
theorem dX10_load_62 : decode cX10_load 62 = .ok (.getfield 73, 3) := by decide +kernel
theorem dX10_load_65 : decode cX10_load 65 = .ok (.putfield 63, 3) := by decide +kernel
theorem dX10_load_68 : decode cX10_load 68 = .ok (.aload_n 0, 1) := by decide +kernel
theorem dX10_load_69 : decode cX10_load 69 = .ok (.aload_n 0, 1) := by decide +kernel
theorem dX10_load_70 : decode cX10_load 70 = .ok (.getfield 99, 3) := by decide +kernel
theorem dX10_load_73 : decode cX10_load 73 = .ok (.putfield 31, 3) := by decide +kernel
theorem dX10_load_76 : decode cX10_load 76 = .ok (.aload_n 0, 1) := by decide +kernel
theorem dX10_load_77 : decode cX10_load 77 = .ok (.getfield 73, 3) := by decide +kernel
theorem dX10_load_80 : decode cX10_load 80 = .ok (.ifCond .le 14, 3) := by decide +kernel
theorem dX10_load_83 : decode cX10_load 83 = .ok (.aload_n 0, 1) := by decide +kernel
theorem dX10_load_84 : decode cX10_load 84 = .ok (.iconst 2, 1) := by decide +kernel
theorem dX10_load_85 : decode cX10_load 85 = .ok (.putfield 41, 3) := by decide +kernel
theorem dX10_load_88 : decode cX10_load 88 = .ok (.aload_n 0, 1) := by decide +kernel
theorem dX10_load_89 : decode cX10_load 89 = .ok (.iconst 0, 1) := by decide +kernel
theorem dX10_load_90 : decode cX10_load 90 = .ok (.invokevirtual 321, 3) := by decide +kernel
theorem dX10_load_93 : decode cX10_load 93 = .ok (.ireturn, 1) := by decide +kernel
theorem dX10_load_94 : decode cX10_load 94 = .ok (.aload_n 0, 1) := by decide +kernel
theorem dX10_load_95 : decode cX10_load 95 = .ok (.iconst 1, 1) := by decide +kernel
theorem dX10_load_96 : decode cX10_load 96 = .ok (.putfield 48, 3) := by decide +kernel
theorem dX10_load_99 : decode cX10_load 99 = .ok (.aload_n 0, 1) := by decide +kernel
theorem dX10_load_100 : decode cX10_load 100 = .ok (.iconst 0, 1) := by decide +kernel
theorem dX10_load_101 : decode cX10_load 101 = .ok (.putfield 324, 3) := by decide +kernel
theorem dX10_load_104 : decode cX10_load 104 = .ok (.aload_n 0, 1) := by decide +kernel
theorem dX10_load_105 : decode cX10_load 105 = .ok (.getfield 23, 3) := by decide +kernel
theorem dX10_load_108 : decode cX10_load 108 = .ok (.iconst 0, 1) := by decide +kernel
theorem dX10_load_109 : decode cX10_load 109 = .ok (.iconst 0, 1) := by decide +kernel
theorem dX10_load_110 : decode cX10_load 110 = .ok (.bastore, 1) := by decide +kernel
theorem dX10_load_111 : decode cX10_load 111 = .ok (.aload_n 0, 1) := by decide +kernel
theorem dX10_load_112 : decode cX10_load 112 = .ok (.getfield 23, 3) := by decide +kernel
theorem dX10_load_115 : decode cX10_load 115 = .ok (.iconst 1, 1) := by decide +kernel
theorem dX10_load_116 : decode cX10_load 116 = .ok (.iconst 0, 1) := by decide +kernel
theorem dX10_load_117 : decode cX10_load 117 = .ok (.bastore, 1) := by decide +kernel
theorem dX10_load_118 : decode cX10_load 118 = .ok (.aload_n 0, 1) := by decide +kernel
theorem dX10_load_119 : decode cX10_load 119 = .ok (.getfield 9, 3) := by decide +kernel
theorem dX10_load_122 : decode cX10_load 122 = .ok (.iconst 3, 1) := by decide +kernel
theorem dX10_load_123 : decode cX10_load 123 = .ok (.iaload, 1) := by decide +kernel
theorem dX10_load_124 : decode cX10_load 124 = .ok (.ireturn, 1) := by decide +kernel
theorem dX10_depthOf_0 : decode cX10_depthOf 0 = .ok (.iconst 0, 1) := by decide +kernel
theorem dX10_depthOf_1 : decode cX10_depthOf 1 = .ok (.istore_n 2, 1) := by decide +kernel
theorem dX10_depthOf_2 : decode cX10_depthOf 2 = .ok (.iload_n 1, 1) := by decide +kernel
theorem dX10_depthOf_3 : decode cX10_depthOf 3 = .ok (.istore_n 3, 1) := by decide +kernel
theorem dX10_depthOf_4 : decode cX10_depthOf 4 = .ok (.iload_n 3, 1) := by decide +kernel
theorem dX10_depthOf_5 : decode cX10_depthOf 5 = .ok (.iconst (-1), 1) := by decide +kernel
theorem dX10_depthOf_6 : decode cX10_depthOf 6 = .ok (.if_icmp .eq 18, 3) := by decide +kernel
theorem dX10_depthOf_9 : decode cX10_depthOf 9 = .ok (.iinc 2 1, 3) := by decide +kernel
theorem dX10_depthOf_12 : decode cX10_depthOf 12 = .ok (.aload_n 0, 1) := by decide +kernel
theorem dX10_depthOf_13 : decode cX10_depthOf 13 = .ok (.iload_n 3, 1) := by decide +kernel
theorem dX10_depthOf_14 : decode cX10_depthOf 14 = .ok (.iconst 2, 1) := by decide +kernel
theorem dX10_depthOf_15 : decode cX10_depthOf 15 = .ok (.invokevirtual 145, 3) := by decide +kernel
theorem dX10_depthOf_18 : decode cX10_depthOf 18 = .ok (.iconst 1, 1) := by decide +kernel
theorem dX10_depthOf_19 : decode cX10_depthOf 19 = .ok (.isub, 1) := by decide +kernel
theorem dX10_depthOf_20 : decode cX10_depthOf 20 = .ok (.istore_n 3, 1) := by decide +kernel
theorem dX10_depthOf_21 : decode cX10_depthOf 21 = .ok (.goto (-17), 3) := by decide +kernel
theorem dX10_depthOf_24 : decode cX10_depthOf 24 = .ok (.iload_n 2, 1) := by decide +kernel
theorem dX10_depthOf_25 : decode cX10_depthOf 25 = .ok (.ireturn, 1) := by decide +kernel
set_option maxRecDepth 100000 in
set_option maxHeartbeats 4000000 in
theorem cX10_readsSealc {l : Launch} {v0 : Option Nat} {σ : HpT} {σ' : HpT} (h : fX10_readsSeal v0 σ = some σ') : IsK σ v0 10 ∧ Ct l yX10_readsSeal cX10_readsSeal 4 none 4 90 [va_rf v0] σ (.ok none) σ' 0 0 := by
  unfold fX10_readsSeal at h
  replace h := bnP_s h
  obtain ⟨u, hk, h⟩ := h
  replace hk := isK_s hk
  refine ⟨hk, ?_⟩
  refine ct_start mi_X10_readsSeal.1 rfl (al_le (al_1 (rf_cat _) al_n) (Nat.le_of_ble_eq_true rfl)) (ag_1 (rf_cat _) ag_n) (fun Δ Γ B hE hnm => ?_)
  refine g_aload_n B 0 dX10_readsSeal_0 rfl rfl ?_
  replace h := bnP_s h
  obtain ⟨s3, h2, h⟩ := h
  refine g_callVv0 (st := []) B (cX10_goesc h2) (Nat.le_of_ble_eq_true rfl) rfl rfl mi_X10_goes lk_RX10_122 ⟨Nat.le_of_ble_eq_true rfl, Nat.le_of_ble_eq_true rfl⟩ rfl rfl (Nat.le_of_ble_eq_true rfl) dX10_readsSeal_1 (Nat.zero_le _) (Nat.zero_le _) ?_
  refine g_aload_n B 0 dX10_readsSeal_4 rfl rfl ?_
  refine g_iconst (v := 0) B dX10_readsSeal_5 (by decide) ?_
  refine g_bipush (v := 9) B dX10_readsSeal_6 (by decide) ?_
  replace h := bnS_s h
  obtain ⟨x4, s6, h5, h⟩ := h
  refine g_callVs0 (st := []) B (cX10_numberc h5) (Nat.le_of_ble_eq_true rfl) rfl rfl mi_X10_number lk_RX10_215 ⟨Nat.le_of_ble_eq_true rfl, Nat.le_of_ble_eq_true rfl⟩ rfl rfl (Nat.le_of_ble_eq_true rfl) dX10_readsSeal_8 (Nat.zero_le _) (Nat.zero_le _) ?_
  refine g_istore_n B dX10_readsSeal_11 rfl (Nat.le_of_ble_eq_true rfl) (s1_c (f1_1 rfl (rf_cat _) f1_n)) ?_
  refine g_aload_n B 1 dX10_readsSeal_12 rfl rfl ?_
  refine g_iconst (v := 0) B dX10_readsSeal_13 (by decide) ?_
  refine g_bipush (v := 99) B dX10_readsSeal_14 (by decide) ?_
  replace h := bnS_s h
  obtain ⟨x7, s9, h8, h⟩ := h
  refine g_callVs0 (st := []) B (cX10_numberHerec h8) (Nat.le_of_ble_eq_true rfl) rfl rfl mi_X10_numberHere lk_RX10_118 ⟨Nat.le_of_ble_eq_true rfl, Nat.le_of_ble_eq_true rfl⟩ rfl rfl (Nat.le_of_ble_eq_true rfl) dX10_readsSeal_16 (Nat.zero_le _) (Nat.zero_le _) ?_
  refine g_istore_n B dX10_readsSeal_19 rfl (Nat.le_of_ble_eq_true rfl) (s1_c (f1_1 rfl rfl (f1_k rfl f1_n))) ?_
  refine g_aload_n B 2 dX10_readsSeal_20 rfl rfl ?_
  replace h := bnP_s h
  obtain ⟨x10, h11, h⟩ := h
  refine g_getI B fl_RX10_73 (by decide) dX10_readsSeal_21 h11 ?_
  replace h := bnS_s h
  obtain ⟨j12, s22, h13, h⟩ := h
  have k15 : GW Δ Γ (0) (0) 41 [(0, va_rf v0), (1, .int x4)] [] s22 := by
    refine g_aload_n B 0 dX10_readsSeal_41 rfl rfl ?_
    replace h := bnP_s h
    obtain ⟨x23, h24, h⟩ := h
    refine g_getI B fl_RX10_73 (by decide) dX10_readsSeal_42 h24 ?_
    refine g_if_le B 49 dX10_readsSeal_45 (by decide) (fun hc => ?_) (fun hc => ?_)
    · replace h := ifp hc h
      refine g_aload_n B 0 dX10_readsSeal_49 rfl rfl ?_
      refine g_iload_n B 1 dX10_readsSeal_50 rfl rfl ?_
      replace h := bnS_s h
      obtain ⟨x25, s27, h26, h⟩ := h
      refine g_callVs0 (st := []) B (cX10_sealsc h26) (Nat.le_of_ble_eq_true rfl) rfl rfl mi_X10_seals lk_RX10_221 ⟨Nat.le_of_ble_eq_true rfl, Nat.le_of_ble_eq_true rfl⟩ rfl rfl (Nat.le_of_ble_eq_true rfl) dX10_readsSeal_51 (Nat.zero_le _) (Nat.zero_le _) ?_
      refine g_istore_n B dX10_readsSeal_54 rfl (Nat.le_of_ble_eq_true rfl) (s1_c (f1_k rfl (f1_k rfl f1_n))) ?_
      refine g_aload_n B 1 dX10_readsSeal_55 rfl rfl ?_
      replace h := bnP_s h
      obtain ⟨s30, h29, h⟩ := h
      refine g_callVv0 (st := []) B (cX10_goesc h29) (Nat.le_of_ble_eq_true rfl) rfl rfl mi_X10_goes lk_RX10_122 ⟨Nat.le_of_ble_eq_true rfl, Nat.le_of_ble_eq_true rfl⟩ rfl rfl (Nat.le_of_ble_eq_true rfl) dX10_readsSeal_56 (Nat.zero_le _) (Nat.zero_le _) ?_
      replace h := Option.some.inj h
      subst h
      exact g_vret B hE (Nat.zero_le _) (Nat.zero_le _) dX10_readsSeal_59
    · replace h := ifn hc h
      replace h := Option.some.inj h
      subst h
      exact g_vret B hE (Nat.zero_le _) (Nat.zero_le _) dX10_readsSeal_48
  clear h
  have h := h13
  clear h13
  refine g_if_ne B 41 dX10_readsSeal_24 (by decide) (fun hc => ?_) (fun hc => ?_)
  · replace h := ifn hc h
    obtain ⟨w1, w2⟩ := inS h
    clear h
    subst w1
    subst w2
    exact g_sub [2, 1] rfl k15
  · replace h := ifp hc h
    refine g_aload_n B 2 dX10_readsSeal_27 rfl rfl ?_
    refine g_iload_n B 1 dX10_readsSeal_28 rfl rfl ?_
    refine g_iload_n B 0 dX10_readsSeal_29 rfl rfl ?_
    replace h := bnP_s h
    obtain ⟨x17, h18, h⟩ := h
    refine g_callVs0 (st := []) B (cX10_whySealc h18) (Nat.le_of_ble_eq_true rfl) rfl rfl mi_X10_whySeal lk_RX10_218 ⟨Nat.le_of_ble_eq_true rfl, Nat.le_of_ble_eq_true rfl⟩ rfl rfl (Nat.le_of_ble_eq_true rfl) dX10_readsSeal_30 (Nat.zero_le _) (Nat.zero_le _) ?_
    refine g_if_eq B 41 dX10_readsSeal_33 (by decide) (fun hc => ?_) (fun hc => ?_)
    · replace h := ifp hc h
      obtain ⟨w1, w2⟩ := inS h
      clear h
      subst w1
      subst w2
      exact g_sub [2, 1] rfl k15
    · replace h := ifn hc h
      refine g_aload_n B 2 dX10_readsSeal_36 rfl rfl ?_
      refine g_iconst (v := 3) B dX10_readsSeal_37 (by decide) ?_
      replace h := bnP_s h
      obtain ⟨s21, h20, h⟩ := h
      refine g_callVv0 (st := []) B (cX10_faultsc h20) (Nat.le_of_ble_eq_true rfl) rfl rfl mi_X10_faults lk_RX10_115 ⟨Nat.le_of_ble_eq_true rfl, Nat.le_of_ble_eq_true rfl⟩ rfl rfl (Nat.le_of_ble_eq_true rfl) dX10_readsSeal_38 (Nat.zero_le _) (Nat.zero_le _) ?_
      obtain ⟨w1, w2⟩ := inS h
      clear h
      subst w1
      subst w2
      exact g_sub [2, 1] rfl k15
set_option maxRecDepth 100000 in
set_option maxHeartbeats 4000000 in
theorem cX10_readsCancelc {l : Launch} {v0 : Option Nat} {σ : HpT} {σ' : HpT} (h : fX10_readsCancel v0 σ = some σ') : IsK σ v0 10 ∧ Ct l yX10_readsCancel cX10_readsCancel 1 none 3 63 [va_rf v0] σ (.ok none) σ' 0 0 := by
  unfold fX10_readsCancel at h
  replace h := bnP_s h
  obtain ⟨u, hk, h⟩ := h
  replace hk := isK_s hk
  refine ⟨hk, ?_⟩
  refine ct_start mi_X10_readsCancel.1 rfl (al_le (al_1 (rf_cat _) al_n) (Nat.le_of_ble_eq_true rfl)) (ag_1 (rf_cat _) ag_n) (fun Δ Γ B hE hnm => ?_)
  refine g_aload_n B 0 dX10_readsCancel_0 rfl rfl ?_
  replace h := bnP_s h
  obtain ⟨x1, h2, h⟩ := h
  refine g_callVs0 (st := []) B (cX10_openActc h2) (Nat.le_of_ble_eq_true rfl) rfl rfl mi_X10_openAct lk_RX10_179 ⟨Nat.le_of_ble_eq_true rfl, Nat.le_of_ble_eq_true rfl⟩ rfl rfl (Nat.le_of_ble_eq_true rfl) dX10_readsCancel_1 (Nat.zero_le _) (Nat.zero_le _) ?_
  refine g_iconst (v := (-1)) B dX10_readsCancel_4 (by decide) ?_
  replace h := bnS_s h
  obtain ⟨j3, s11, h4, h⟩ := h
  have k6 : GW Δ Γ (0) (0) 13 [(0, va_rf v0)] [] s11 := by
    refine g_aload_n B 0 dX10_readsCancel_13 rfl rfl ?_
    replace h := bnP_s h
    obtain ⟨x12, h13, h⟩ := h
    refine g_getI B fl_RX10_73 (by decide) dX10_readsCancel_14 h13 ?_
    replace h := bnS_s h
    obtain ⟨j14, s24, h15, h⟩ := h
    have k17 : GW Δ Γ (0) (0) 30 [(0, va_rf v0)] [] s24 := by
      refine g_aload_n B 0 dX10_readsCancel_30 rfl rfl ?_
      replace h := bnP_s h
      obtain ⟨s27, h26, h⟩ := h
      refine g_callVv0 (st := []) B (cX10_goesc h26) (Nat.le_of_ble_eq_true rfl) rfl rfl mi_X10_goes lk_RX10_122 ⟨Nat.le_of_ble_eq_true rfl, Nat.le_of_ble_eq_true rfl⟩ rfl rfl (Nat.le_of_ble_eq_true rfl) dX10_readsCancel_31 (Nat.zero_le _) (Nat.zero_le _) ?_
      replace h := Option.some.inj h
      subst h
      exact g_vret B hE (Nat.zero_le _) (Nat.zero_le _) dX10_readsCancel_34
    clear h
    have h := h15
    clear h15
    refine g_if_ne B 30 dX10_readsCancel_17 (by decide) (fun hc => ?_) (fun hc => ?_)
    · replace h := ifn hc h
      obtain ⟨w1, w2⟩ := inS h
      clear h
      subst w1
      subst w2
      exact g_sub [0] rfl k17
    · replace h := ifp hc h
      refine g_aload_n B 0 dX10_readsCancel_20 rfl rfl ?_
      refine g_aload_n B 0 dX10_readsCancel_21 rfl rfl ?_
      replace h := bnP_s h
      obtain ⟨x19, h20, h⟩ := h
      refine g_callVs0 (st := [va_rf v0]) B (cX10_openActc h20) (Nat.le_of_ble_eq_true rfl) rfl rfl mi_X10_openAct lk_RX10_179 ⟨Nat.le_of_ble_eq_true rfl, Nat.le_of_ble_eq_true rfl⟩ rfl rfl (Nat.le_of_ble_eq_true rfl) dX10_readsCancel_22 (Nat.zero_le _) (Nat.zero_le _) ?_
      refine g_iconst (v := 1) B dX10_readsCancel_25 (by decide) ?_
      refine g_iconst (v := 2) B dX10_readsCancel_26 (by decide) ?_
      replace h := bnP_s h
      obtain ⟨s23, h22, h⟩ := h
      refine g_callVv0 (st := []) B (cX10_putsActc h22) (Nat.le_of_ble_eq_true rfl) rfl rfl mi_X10_putsAct lk_RX10_141 ⟨Nat.le_of_ble_eq_true rfl, Nat.le_of_ble_eq_true rfl⟩ rfl rfl (Nat.le_of_ble_eq_true rfl) dX10_readsCancel_27 (Nat.zero_le _) (Nat.zero_le _) ?_
      obtain ⟨w1, w2⟩ := inS h
      clear h
      subst w1
      subst w2
      exact g_sub [0] rfl k17
  clear h
  have h := h4
  clear h4
  refine g_icmp_ne B 13 dX10_readsCancel_5 (by decide) (fun hc => ?_) (fun hc => ?_)
  · replace h := ifn hc h
    obtain ⟨w1, w2⟩ := inS h
    clear h
    subst w1
    subst w2
    exact g_sub [0] rfl k6
  · replace h := ifp hc h
    refine g_aload_n B 0 dX10_readsCancel_8 rfl rfl ?_
    refine g_iconst (v := 3) B dX10_readsCancel_9 (by decide) ?_
    replace h := bnP_s h
    obtain ⟨s10, h9, h⟩ := h
    refine g_callVv0 (st := []) B (cX10_faultsc h9) (Nat.le_of_ble_eq_true rfl) rfl rfl mi_X10_faults lk_RX10_115 ⟨Nat.le_of_ble_eq_true rfl, Nat.le_of_ble_eq_true rfl⟩ rfl rfl (Nat.le_of_ble_eq_true rfl) dX10_readsCancel_10 (Nat.zero_le _) (Nat.zero_le _) ?_
    obtain ⟨w1, w2⟩ := inS h
    clear h
    subst w1
    subst w2
    exact g_sub [0] rfl k6
set_option maxRecDepth 100000 in
set_option maxHeartbeats 4000000 in
theorem cX10_firstStandingc {l : Launch} {v0 : Option Nat} {v1 : Int32} {σ : HpT} {r : Int32} (h : fX10_firstStanding v0 v1 σ = some r) : IsK σ v0 10 ∧ Ct l yX10_firstStanding cX10_firstStanding 3 (some .int) 2 43 [va_rf v0, .int v1] σ (.ok (some (.int r))) σ 0 0 := by
  unfold fX10_firstStanding at h
  replace h := bnP_s h
  obtain ⟨u, hk, h⟩ := h
  replace hk := isK_s hk
  refine ⟨hk, ?_⟩
  refine ct_start mi_X10_firstStanding.1 rfl (al_le (al_1 (rf_cat _) (al_1 rfl al_n)) (Nat.le_of_ble_eq_true rfl)) (ag_1 (rf_cat _) (ag_1 rfl ag_n)) (fun Δ Γ B hE hnm => ?_)
  refine g_aload_n B 0 dX10_firstStanding_0 rfl rfl ?_
  refine g_iload_n B 1 dX10_firstStanding_1 rfl rfl ?_
  refine g_iconst (v := 5) B dX10_firstStanding_2 (by decide) ?_
  replace h := bnP_s h
  obtain ⟨x1, h2, h⟩ := h
  refine g_callVs0 (st := []) B (cX10_ofActc h2) (Nat.le_of_ble_eq_true rfl) rfl rfl mi_X10_ofAct lk_RX10_138 ⟨Nat.le_of_ble_eq_true rfl, Nat.le_of_ble_eq_true rfl⟩ rfl rfl (Nat.le_of_ble_eq_true rfl) dX10_firstStanding_3 (Nat.zero_le _) (Nat.zero_le _) ?_
  refine g_istore_n B dX10_firstStanding_6 rfl (Nat.le_of_ble_eq_true rfl) (s1_c (f1_k rfl (f1_1 rfl rfl f1_n))) ?_
  replace h := bnP_s h
  obtain ⟨r4, h5, h⟩ := h
  have kE6 : ∀ y16, r4 = .inl y16 → GW Δ Γ (0) (0) 32 [] [] σ := by
    intro y16 er
    subst er
    dsimp only at h
    refine g_iconst (v := (-1)) B dX10_firstStanding_32 (by decide) ?_
    replace h := Option.some.inj h
    subst h
    exact g_iret B hE (Nat.zero_le _) (Nat.zero_le _) dX10_firstStanding_33
  have kR7 : ∀ vv, r4 = .inr vv → En Δ Γ (.ok (some (.int vv))) σ 0 0 (some .int) ∧ 0 ≤ 0 ∧ 0 ≤ 0 := by
    intro vv er
    subst er
    dsimp only at h
    replace h := Option.some.inj h
    subst h
    exact ⟨hE, Nat.zero_le _, Nat.zero_le _⟩
  clear h
  refine g_sub [1, 2, 0] rfl ?_
  refine lpP_w (I := fun q3 => GW Δ Γ (0) (0) 7 [(0, va_rf v0), (1, .int v1), (2, .int q3)] [] σ) (r := r4) ?_ FUEL x1 h5
  intro q3 x10 h hI8 hR9
  unfold fX10_firstStanding_l1 at h
  refine g_iload_n B 2 dX10_firstStanding_7 rfl rfl ?_
  refine g_aload_n B 0 dX10_firstStanding_8 rfl rfl ?_
  refine g_iload_n B 1 dX10_firstStanding_9 rfl rfl ?_
  replace h := bnP_s h
  obtain ⟨x12, h13, h⟩ := h
  refine g_callVs0 (st := [.int q3]) B (cX10_lastOfc h13) (Nat.le_of_ble_eq_true rfl) rfl rfl mi_X10_lastOf lk_RX10_327 ⟨Nat.le_of_ble_eq_true rfl, Nat.le_of_ble_eq_true rfl⟩ rfl rfl (Nat.le_of_ble_eq_true rfl) dX10_firstStanding_10 (Nat.zero_le _) (Nat.zero_le _) ?_
  refine g_icmp_gt B 32 dX10_firstStanding_13 (by decide) (fun hc => ?_) (fun hc => ?_)
  · replace h := ifp hc h
    replace h := Option.some.inj h
    subst h
    have e8 := hR9 _ rfl
    subst e8
    exact g_sub [] rfl (kE6 _ rfl)
  · replace h := ifn hc h
    refine g_aload_n B 0 dX10_firstStanding_16 rfl rfl ?_
    refine g_iload_n B 2 dX10_firstStanding_17 rfl rfl ?_
    replace h := bnP_s h
    obtain ⟨x14, h15, h⟩ := h
    refine g_callVs0 (st := []) B (cX10_standsc h15) (Nat.le_of_ble_eq_true rfl) rfl rfl mi_X10_stands lk_RX10_330 ⟨Nat.le_of_ble_eq_true rfl, Nat.le_of_ble_eq_true rfl⟩ rfl rfl (Nat.le_of_ble_eq_true rfl) dX10_firstStanding_18 (Nat.zero_le _) (Nat.zero_le _) ?_
    refine g_if_eq B 26 dX10_firstStanding_21 (by decide) (fun hc => ?_) (fun hc => ?_)
    · replace h := ifn (bI0 hc) h
      refine g_iinc (v := (q3 + 1)) B 2 dX10_firstStanding_26 rfl (by first | rfl | (congr 1; decide)) (Nat.le_of_ble_eq_true rfl) (s1_c (f1_k rfl (f1_1 rfl rfl (f1_x f1_n)))) ?_
      refine g_goto B 7 dX10_firstStanding_29 (by decide) ?_
      replace h := Option.some.inj h
      subst h
      exact g_sub [1, 2, 0] rfl (hI8 _ rfl)
    · replace h := ifp (bI1 hc) h
      refine g_iload_n B 2 dX10_firstStanding_24 rfl rfl ?_
      replace h := Option.some.inj h
      subst h
      have e8 := hR9 _ rfl
      obtain ⟨hE, hc9, hs9⟩ := kR7 _ e8.symm
      exact g_iret B hE hc9 hs9 dX10_firstStanding_25
set_option maxRecDepth 100000 in
set_option maxHeartbeats 4000000 in
theorem cX10_lastStandingc {l : Launch} {v0 : Option Nat} {v1 : Int32} {σ : HpT} {r : Int32} (h : fX10_lastStanding v0 v1 σ = some r) : IsK σ v0 10 ∧ Ct l yX10_lastStanding cX10_lastStanding 3 (some .int) 2 43 [va_rf v0, .int v1] σ (.ok (some (.int r))) σ 0 0 := by
  unfold fX10_lastStanding at h
  replace h := bnP_s h
  obtain ⟨u, hk, h⟩ := h
  replace hk := isK_s hk
  refine ⟨hk, ?_⟩
  refine ct_start mi_X10_lastStanding.1 rfl (al_le (al_1 (rf_cat _) (al_1 rfl al_n)) (Nat.le_of_ble_eq_true rfl)) (ag_1 (rf_cat _) (ag_1 rfl ag_n)) (fun Δ Γ B hE hnm => ?_)
  refine g_aload_n B 0 dX10_lastStanding_0 rfl rfl ?_
  refine g_iload_n B 1 dX10_lastStanding_1 rfl rfl ?_
  replace h := bnP_s h
  obtain ⟨x1, h2, h⟩ := h
  refine g_callVs0 (st := []) B (cX10_lastOfc h2) (Nat.le_of_ble_eq_true rfl) rfl rfl mi_X10_lastOf lk_RX10_327 ⟨Nat.le_of_ble_eq_true rfl, Nat.le_of_ble_eq_true rfl⟩ rfl rfl (Nat.le_of_ble_eq_true rfl) dX10_lastStanding_2 (Nat.zero_le _) (Nat.zero_le _) ?_
  refine g_istore_n B dX10_lastStanding_5 rfl (Nat.le_of_ble_eq_true rfl) (s1_c (f1_k rfl (f1_1 rfl rfl f1_n))) ?_
  replace h := bnP_s h
  obtain ⟨r4, h5, h⟩ := h
  have kE6 : ∀ y16, r4 = .inl y16 → GW Δ Γ (0) (0) 32 [] [] σ := by
    intro y16 er
    subst er
    dsimp only at h
    refine g_iconst (v := (-1)) B dX10_lastStanding_32 (by decide) ?_
    replace h := Option.some.inj h
    subst h
    exact g_iret B hE (Nat.zero_le _) (Nat.zero_le _) dX10_lastStanding_33
  have kR7 : ∀ vv, r4 = .inr vv → En Δ Γ (.ok (some (.int vv))) σ 0 0 (some .int) ∧ 0 ≤ 0 ∧ 0 ≤ 0 := by
    intro vv er
    subst er
    dsimp only at h
    replace h := Option.some.inj h
    subst h
    exact ⟨hE, Nat.zero_le _, Nat.zero_le _⟩
  clear h
  refine g_sub [1, 2, 0] rfl ?_
  refine lpP_w (I := fun q3 => GW Δ Γ (0) (0) 6 [(0, va_rf v0), (1, .int v1), (2, .int q3)] [] σ) (r := r4) ?_ FUEL x1 h5
  intro q3 x10 h hI8 hR9
  unfold fX10_lastStanding_l1 at h
  refine g_iload_n B 2 dX10_lastStanding_6 rfl rfl ?_
  refine g_aload_n B 0 dX10_lastStanding_7 rfl rfl ?_
  refine g_iload_n B 1 dX10_lastStanding_8 rfl rfl ?_
  refine g_iconst (v := 5) B dX10_lastStanding_9 (by decide) ?_
  replace h := bnP_s h
  obtain ⟨x12, h13, h⟩ := h
  refine g_callVs0 (st := [.int q3]) B (cX10_ofActc h13) (Nat.le_of_ble_eq_true rfl) rfl rfl mi_X10_ofAct lk_RX10_138 ⟨Nat.le_of_ble_eq_true rfl, Nat.le_of_ble_eq_true rfl⟩ rfl rfl (Nat.le_of_ble_eq_true rfl) dX10_lastStanding_10 (Nat.zero_le _) (Nat.zero_le _) ?_
  refine g_icmp_lt B 32 dX10_lastStanding_13 (by decide) (fun hc => ?_) (fun hc => ?_)
  · replace h := ifp hc h
    replace h := Option.some.inj h
    subst h
    have e8 := hR9 _ rfl
    subst e8
    exact g_sub [] rfl (kE6 _ rfl)
  · replace h := ifn hc h
    refine g_aload_n B 0 dX10_lastStanding_16 rfl rfl ?_
    refine g_iload_n B 2 dX10_lastStanding_17 rfl rfl ?_
    replace h := bnP_s h
    obtain ⟨x14, h15, h⟩ := h
    refine g_callVs0 (st := []) B (cX10_standsc h15) (Nat.le_of_ble_eq_true rfl) rfl rfl mi_X10_stands lk_RX10_330 ⟨Nat.le_of_ble_eq_true rfl, Nat.le_of_ble_eq_true rfl⟩ rfl rfl (Nat.le_of_ble_eq_true rfl) dX10_lastStanding_18 (Nat.zero_le _) (Nat.zero_le _) ?_
    refine g_if_eq B 26 dX10_lastStanding_21 (by decide) (fun hc => ?_) (fun hc => ?_)
    · replace h := ifn (bI0 hc) h
      refine g_iinc (v := (q3 + (-1))) B 2 dX10_lastStanding_26 rfl (by first | rfl | (congr 1; decide)) (Nat.le_of_ble_eq_true rfl) (s1_c (f1_k rfl (f1_1 rfl rfl (f1_x f1_n)))) ?_
      refine g_goto B 6 dX10_lastStanding_29 (by decide) ?_
      replace h := Option.some.inj h
      subst h
      exact g_sub [1, 2, 0] rfl (hI8 _ rfl)
    · replace h := ifp (bI1 hc) h
      refine g_iload_n B 2 dX10_lastStanding_24 rfl rfl ?_
      replace h := Option.some.inj h
      subst h
      have e8 := hR9 _ rfl
      obtain ⟨hE, hc9, hs9⟩ := kR7 _ e8.symm
      exact g_iret B hE hc9 hs9 dX10_lastStanding_25
set_option maxRecDepth 100000 in
set_option maxHeartbeats 4000000 in
theorem cX10_hasByc {l : Launch} {v0 : Option Nat} {v1 : Int32} {v2 : Int32} {v3 : Int32} {σ : HpT} {r : Bool} (h : fX10_hasBy v0 v1 v2 v3 σ = some r) : IsK σ v0 10 ∧ Ct l yX10_hasBy cX10_hasBy 4 (some .boolean) 3 65 [va_rf v0, .int v1, .int v2, .int v3] σ (.ok (some (.int (bI r)))) σ 0 0 := by
  unfold fX10_hasBy at h
  replace h := bnP_s h
  obtain ⟨u, hk, h⟩ := h
  replace hk := isK_s hk
  refine ⟨hk, ?_⟩
  refine ct_start mi_X10_hasBy.1 rfl (al_le (al_1 (rf_cat _) (al_1 rfl (al_1 rfl (al_1 rfl al_n)))) (Nat.le_of_ble_eq_true rfl)) (ag_1 (rf_cat _) (ag_1 rfl (ag_1 rfl (ag_1 rfl ag_n)))) (fun Δ Γ B hE hnm => ?_)
  refine g_aload_n B 0 dX10_hasBy_0 rfl rfl ?_
  refine g_iload_n B 3 dX10_hasBy_1 rfl rfl ?_
  replace h := bnP_s h
  obtain ⟨x1, h2, h⟩ := h
  refine g_callVs0 (st := []) B (cX10_standsc h2) (Nat.le_of_ble_eq_true rfl) rfl rfl mi_X10_stands lk_RX10_330 ⟨Nat.le_of_ble_eq_true rfl, Nat.le_of_ble_eq_true rfl⟩ rfl rfl (Nat.le_of_ble_eq_true rfl) dX10_hasBy_2 (Nat.zero_le _) (Nat.zero_le _) ?_
  refine g_if_ne B 10 dX10_hasBy_5 (by decide) (fun hc => ?_) (fun hc => ?_)
  · replace h := ifp (bI1 hc) h
    refine g_iload_n B 2 dX10_hasBy_10 rfl rfl ?_
    refine g_iconst (v := 2) B dX10_hasBy_11 (by decide) ?_
    refine g_icmp_lt B 33 dX10_hasBy_12 (by decide) (fun hc => ?_) (fun hc => ?_)
    · replace h := ifp hc h
      refine g_iconst (v := 1) B dX10_hasBy_33 (by decide) ?_
      refine g_goto B 38 dX10_hasBy_34 (by decide) ?_
      replace h := Option.some.inj h
      subst h
      exact g_zret B hE rfl (Nat.zero_le _) (Nat.zero_le _) dX10_hasBy_38
    · replace h := ifn hc h
      refine g_iload_n B 3 dX10_hasBy_15 rfl rfl ?_
      refine g_aload_n B 0 dX10_hasBy_16 rfl rfl ?_
      refine g_iload_n B 1 dX10_hasBy_17 rfl rfl ?_
      replace h := bnP_s h
      obtain ⟨x3, h4, h⟩ := h
      refine g_callVs0 (st := [.int v3]) B (cX10_firstStandingc h4) (Nat.le_of_ble_eq_true rfl) rfl rfl mi_X10_firstStanding lk_RX10_349 ⟨Nat.le_of_ble_eq_true rfl, Nat.le_of_ble_eq_true rfl⟩ rfl rfl (Nat.le_of_ble_eq_true rfl) dX10_hasBy_18 (Nat.zero_le _) (Nat.zero_le _) ?_
      refine g_icmp_eq B 33 dX10_hasBy_21 (by decide) (fun hc => ?_) (fun hc => ?_)
      · replace h := ifp hc h
        refine g_iconst (v := 1) B dX10_hasBy_33 (by decide) ?_
        refine g_goto B 38 dX10_hasBy_34 (by decide) ?_
        replace h := Option.some.inj h
        subst h
        exact g_zret B hE rfl (Nat.zero_le _) (Nat.zero_le _) dX10_hasBy_38
      · replace h := ifn hc h
        refine g_iload_n B 3 dX10_hasBy_24 rfl rfl ?_
        refine g_aload_n B 0 dX10_hasBy_25 rfl rfl ?_
        refine g_iload_n B 1 dX10_hasBy_26 rfl rfl ?_
        replace h := bnP_s h
        obtain ⟨x5, h6, h⟩ := h
        refine g_callVs0 (st := [.int v3]) B (cX10_lastStandingc h6) (Nat.le_of_ble_eq_true rfl) rfl rfl mi_X10_lastStanding lk_RX10_352 ⟨Nat.le_of_ble_eq_true rfl, Nat.le_of_ble_eq_true rfl⟩ rfl rfl (Nat.le_of_ble_eq_true rfl) dX10_hasBy_27 (Nat.zero_le _) (Nat.zero_le _) ?_
        refine g_icmp_ne B 37 dX10_hasBy_30 (by decide) (fun hc => ?_) (fun hc => ?_)
        · replace h := ifn hc h
          refine g_iconst (v := 0) B dX10_hasBy_37 (by decide) ?_
          replace h := Option.some.inj h
          subst h
          exact g_zret B hE rfl (Nat.zero_le _) (Nat.zero_le _) dX10_hasBy_38
        · replace h := ifp hc h
          refine g_iconst (v := 1) B dX10_hasBy_33 (by decide) ?_
          refine g_goto B 38 dX10_hasBy_34 (by decide) ?_
          replace h := Option.some.inj h
          subst h
          exact g_zret B hE rfl (Nat.zero_le _) (Nat.zero_le _) dX10_hasBy_38
  · replace h := ifn (bI0 hc) h
    refine g_iconst (v := 0) B dX10_hasBy_8 (by decide) ?_
    replace h := Option.some.inj h
    subst h
    exact g_zret B hE rfl (Nat.zero_le _) (Nat.zero_le _) dX10_hasBy_9
set_option maxRecDepth 100000 in
set_option maxHeartbeats 4000000 in
theorem cX10_statusOfc {l : Launch} {v0 : Option Nat} {v1 : Int32} {σ : HpT} {r : Int32} (h : fX10_statusOf v0 v1 σ = some r) : IsK σ v0 10 ∧ Ct l yX10_statusOf cX10_statusOf 2 (some .int) 0 0 [va_rf v0, .int v1] σ (.ok (some (.int r))) σ 0 0 := by
  unfold fX10_statusOf at h
  replace h := bnP_s h
  obtain ⟨u, hk, h⟩ := h
  replace hk := isK_s hk
  refine ⟨hk, ?_⟩
  refine ct_start mi_X10_statusOf.1 rfl (al_le (al_1 (rf_cat _) (al_1 rfl al_n)) (Nat.le_of_ble_eq_true rfl)) (ag_1 (rf_cat _) (ag_1 rfl ag_n)) (fun Δ Γ B hE hnm => ?_)
  refine g_aload_n B 0 dX10_statusOf_0 rfl rfl ?_
  replace h := bnP_s h
  obtain ⟨x1, h2, h⟩ := h
  refine g_getR B fl_RX10_9 (by decide) dX10_statusOf_1 h2 ?_
  refine g_bipush (v := 99) B dX10_statusOf_4 (by decide) ?_
  refine g_iload_n B 1 dX10_statusOf_6 rfl rfl ?_
  refine g_iadd B dX10_statusOf_7 ?_
  replace h := bnP_s h
  obtain ⟨x3, h4, h⟩ := h
  refine g_iald B dX10_statusOf_8 h4 ?_
  replace h := Option.some.inj h
  subst h
  exact g_iret B hE (Nat.zero_le _) (Nat.zero_le _) dX10_statusOf_9
set_option maxRecDepth 100000 in
set_option maxHeartbeats 4000000 in
theorem cX10_isOnLostc {l : Launch} {v0 : Option Nat} {v1 : Int32} {σ : HpT} {r : Bool} (h : fX10_isOnLost v0 v1 σ = some r) : IsK σ v0 10 ∧ Ct l yX10_isOnLost cX10_isOnLost 2 (some .boolean) 1 21 [va_rf v0, .int v1] σ (.ok (some (.int (bI r)))) σ 0 0 := by
  unfold fX10_isOnLost at h
  replace h := bnP_s h
  obtain ⟨u, hk, h⟩ := h
  replace hk := isK_s hk
  refine ⟨hk, ?_⟩
  refine ct_start mi_X10_isOnLost.1 rfl (al_le (al_1 (rf_cat _) (al_1 rfl al_n)) (Nat.le_of_ble_eq_true rfl)) (ag_1 (rf_cat _) (ag_1 rfl ag_n)) (fun Δ Γ B hE hnm => ?_)
  refine g_aload_n B 0 dX10_isOnLost_0 rfl rfl ?_
  refine g_iload_n B 1 dX10_isOnLost_1 rfl rfl ?_
  refine g_aload_n B 0 dX10_isOnLost_2 rfl rfl ?_
  replace h := bnP_s h
  obtain ⟨x1, h2, h⟩ := h
  refine g_getR B fl_RX10_9 (by decide) dX10_isOnLost_3 h2 ?_
  refine g_iconst (v := 0) B dX10_isOnLost_6 (by decide) ?_
  replace h := bnP_s h
  obtain ⟨x3, h4, h⟩ := h
  refine g_iald B dX10_isOnLost_7 h4 ?_
  replace h := bnP_s h
  obtain ⟨u5, h6, h⟩ := h
  refine g_idiv B dX10_isOnLost_8 (nz_s h6) ?_
  replace h := bnP_s h
  obtain ⟨x7, h8, h⟩ := h
  refine g_callVs0 (st := []) B (cX10_statusOfc h8) (Nat.le_of_ble_eq_true rfl) rfl rfl mi_X10_statusOf lk_RX10_237 ⟨Nat.le_of_ble_eq_true rfl, Nat.le_of_ble_eq_true rfl⟩ rfl rfl (Nat.le_of_ble_eq_true rfl) dX10_isOnLost_9 (Nat.zero_le _) (Nat.zero_le _) ?_
  refine g_iconst (v := 2) B dX10_isOnLost_12 (by decide) ?_
  refine g_icmp_ne B 20 dX10_isOnLost_13 (by decide) (fun hc => ?_) (fun hc => ?_)
  · replace h := ifn hc h
    refine g_iconst (v := 0) B dX10_isOnLost_20 (by decide) ?_
    replace h := Option.some.inj h
    subst h
    exact g_zret B hE rfl (Nat.zero_le _) (Nat.zero_le _) dX10_isOnLost_21
  · replace h := ifp hc h
    refine g_iconst (v := 1) B dX10_isOnLost_16 (by decide) ?_
    refine g_goto B 21 dX10_isOnLost_17 (by decide) ?_
    replace h := Option.some.inj h
    subst h
    exact g_zret B hE rfl (Nat.zero_le _) (Nat.zero_le _) dX10_isOnLost_21
set_option maxRecDepth 100000 in
set_option maxHeartbeats 4000000 in
theorem cX10_ofCopyc {l : Launch} {v0 : Option Nat} {v1 : Int32} {v2 : Int32} {σ : HpT} {r : Int32} (h : fX10_ofCopy v0 v1 v2 σ = some r) : IsK σ v0 10 ∧ Ct l yX10_ofCopy cX10_ofCopy 3 (some .int) 0 0 [va_rf v0, .int v1, .int v2] σ (.ok (some (.int r))) σ 0 0 := by
  unfold fX10_ofCopy at h
  replace h := bnP_s h
  obtain ⟨u, hk, h⟩ := h
  replace hk := isK_s hk
  refine ⟨hk, ?_⟩
  refine ct_start mi_X10_ofCopy.1 rfl (al_le (al_1 (rf_cat _) (al_1 rfl (al_1 rfl al_n))) (Nat.le_of_ble_eq_true rfl)) (ag_1 (rf_cat _) (ag_1 rfl (ag_1 rfl ag_n))) (fun Δ Γ B hE hnm => ?_)
  refine g_aload_n B 0 dX10_ofCopy_0 rfl rfl ?_
  replace h := bnP_s h
  obtain ⟨x1, h2, h⟩ := h
  refine g_getR B fl_RX10_9 (by decide) dX10_ofCopy_1 h2 ?_
  refine g_bipush (v := 111) B dX10_ofCopy_4 (by decide) ?_
  refine g_iconst (v := 2) B dX10_ofCopy_6 (by decide) ?_
  refine g_iload_n B 1 dX10_ofCopy_7 rfl rfl ?_
  refine g_imul B dX10_ofCopy_8 ?_
  refine g_iadd B dX10_ofCopy_9 ?_
  refine g_iload_n B 2 dX10_ofCopy_10 rfl rfl ?_
  refine g_iadd B dX10_ofCopy_11 ?_
  replace h := bnP_s h
  obtain ⟨x3, h4, h⟩ := h
  refine g_iald B dX10_ofCopy_12 h4 ?_
  replace h := Option.some.inj h
  subst h
  exact g_iret B hE (Nat.zero_le _) (Nat.zero_le _) dX10_ofCopy_13
set_option maxRecDepth 100000 in
set_option maxHeartbeats 4000000 in
theorem cX10_actOfc {l : Launch} {v0 : Option Nat} {v1 : Int32} {σ : HpT} {r : Int32} (h : fX10_actOf v0 v1 σ = some r) : IsK σ v0 10 ∧ Ct l yX10_actOf cX10_actOf 3 (some .int) 2 43 [va_rf v0, .int v1] σ (.ok (some (.int r))) σ 0 0 := by
  unfold fX10_actOf at h
  replace h := bnP_s h
  obtain ⟨u, hk, h⟩ := h
  replace hk := isK_s hk
  refine ⟨hk, ?_⟩
  refine ct_start mi_X10_actOf.1 rfl (al_le (al_1 (rf_cat _) (al_1 rfl al_n)) (Nat.le_of_ble_eq_true rfl)) (ag_1 (rf_cat _) (ag_1 rfl ag_n)) (fun Δ Γ B hE hnm => ?_)
  refine g_iconst (v := 0) B dX10_actOf_0 (by decide) ?_
  refine g_istore_n B dX10_actOf_1 rfl (Nat.le_of_ble_eq_true rfl) (s1_c (f1_k rfl (f1_1 rfl rfl f1_n))) ?_
  replace h := bnP_s h
  obtain ⟨r2, h3, h⟩ := h
  have kE4 : GW Δ Γ (0) (0) 17 [(2, .int r2)] [] σ := by
    refine g_iload_n B 0 dX10_actOf_17 rfl rfl ?_
    replace h := Option.some.inj h
    subst h
    exact g_iret B hE (Nat.zero_le _) (Nat.zero_le _) dX10_actOf_18
  clear h
  refine g_sub [1, 2, 0] rfl ?_
  refine lpP_w (I := fun q1 => GW Δ Γ (0) (0) 2 [(0, va_rf v0), (1, .int v1), (2, .int q1)] [] σ) (r := r2) ?_ FUEL 0 h3
  intro q1 x8 h hI6 hR7
  unfold fX10_actOf_l1 at h
  refine g_aload_n B 0 dX10_actOf_2 rfl rfl ?_
  refine g_iload_n B 2 dX10_actOf_3 rfl rfl ?_
  replace h := bnP_s h
  obtain ⟨x10, h11, h⟩ := h
  refine g_callVs0 (st := []) B (cX10_lastOfc h11) (Nat.le_of_ble_eq_true rfl) rfl rfl mi_X10_lastOf lk_RX10_327 ⟨Nat.le_of_ble_eq_true rfl, Nat.le_of_ble_eq_true rfl⟩ rfl rfl (Nat.le_of_ble_eq_true rfl) dX10_actOf_4 (Nat.zero_le _) (Nat.zero_le _) ?_
  refine g_iload_n B 1 dX10_actOf_7 rfl rfl ?_
  refine g_icmp_ge B 17 dX10_actOf_8 (by decide) (fun hc => ?_) (fun hc => ?_)
  · replace h := ifp hc h
    replace h := Option.some.inj h
    subst h
    have e8 := hR7 _ rfl
    subst e8
    exact g_sub [2] rfl kE4
  · replace h := ifn hc h
    refine g_iinc (v := (q1 + 1)) B 2 dX10_actOf_11 rfl (by first | rfl | (congr 1; decide)) (Nat.le_of_ble_eq_true rfl) (s1_c (f1_k rfl (f1_1 rfl rfl (f1_x f1_n)))) ?_
    refine g_goto B 2 dX10_actOf_14 (by decide) ?_
    replace h := Option.some.inj h
    subst h
    exact g_sub [1, 2, 0] rfl (hI6 _ rfl)
set_option maxRecDepth 100000 in
set_option maxHeartbeats 4000000 in
theorem cX10_hasWordc {l : Launch} {v0 : Option Nat} {v1 : Int32} {v2 : Int32} {σ : HpT} {r : Bool} (h : fX10_hasWord v0 v1 v2 σ = some r) : IsK σ v0 10 ∧ Ct l yX10_hasWord cX10_hasWord 3 (some .boolean) 4 88 [va_rf v0, .int v1, .int v2] σ (.ok (some (.int (bI r)))) σ 0 0 := by
  unfold fX10_hasWord at h
  replace h := bnP_s h
  obtain ⟨u, hk, h⟩ := h
  replace hk := isK_s hk
  refine ⟨hk, ?_⟩
  refine ct_start mi_X10_hasWord.1 rfl (al_le (al_1 (rf_cat _) (al_1 rfl (al_1 rfl al_n))) (Nat.le_of_ble_eq_true rfl)) (ag_1 (rf_cat _) (ag_1 rfl (ag_1 rfl ag_n))) (fun Δ Γ B hE hnm => ?_)
  refine g_aload_n B 0 dX10_hasWord_0 rfl rfl ?_
  refine g_iload_n B 1 dX10_hasWord_1 rfl rfl ?_
  refine g_iconst (v := 0) B dX10_hasWord_2 (by decide) ?_
  replace h := bnP_s h
  obtain ⟨x1, h2, h⟩ := h
  refine g_callVs0 (st := []) B (cX10_ofCopyc h2) (Nat.le_of_ble_eq_true rfl) rfl rfl mi_X10_ofCopy lk_RX10_355 ⟨Nat.le_of_ble_eq_true rfl, Nat.le_of_ble_eq_true rfl⟩ rfl rfl (Nat.le_of_ble_eq_true rfl) dX10_hasWord_3 (Nat.zero_le _) (Nat.zero_le _) ?_
  refine g_aload_n B 0 dX10_hasWord_6 rfl rfl ?_
  refine g_iload_n B 2 dX10_hasWord_7 rfl rfl ?_
  replace h := bnP_s h
  obtain ⟨x3, h4, h⟩ := h
  refine g_callVs0 (st := [.int x1]) B (cX10_actOfc h4) (Nat.le_of_ble_eq_true rfl) rfl rfl mi_X10_actOf lk_RX10_358 ⟨Nat.le_of_ble_eq_true rfl, Nat.le_of_ble_eq_true rfl⟩ rfl rfl (Nat.le_of_ble_eq_true rfl) dX10_hasWord_8 (Nat.zero_le _) (Nat.zero_le _) ?_
  refine g_icmp_ne B 38 dX10_hasWord_11 (by decide) (fun hc => ?_) (fun hc => ?_)
  · replace h := ifn hc h
    refine g_iconst (v := 0) B dX10_hasWord_38 (by decide) ?_
    replace h := Option.some.inj h
    subst h
    exact g_zret B hE rfl (Nat.zero_le _) (Nat.zero_le _) dX10_hasWord_39
  · replace h := ifp hc h
    refine g_aload_n B 0 dX10_hasWord_14 rfl rfl ?_
    refine g_aload_n B 0 dX10_hasWord_15 rfl rfl ?_
    refine g_iload_n B 1 dX10_hasWord_16 rfl rfl ?_
    refine g_iconst (v := 0) B dX10_hasWord_17 (by decide) ?_
    replace h := bnP_s h
    obtain ⟨x5, h6, h⟩ := h
    refine g_callVs0 (st := [va_rf v0]) B (cX10_ofCopyc h6) (Nat.le_of_ble_eq_true rfl) rfl rfl mi_X10_ofCopy lk_RX10_355 ⟨Nat.le_of_ble_eq_true rfl, Nat.le_of_ble_eq_true rfl⟩ rfl rfl (Nat.le_of_ble_eq_true rfl) dX10_hasWord_18 (Nat.zero_le _) (Nat.zero_le _) ?_
    refine g_aload_n B 0 dX10_hasWord_21 rfl rfl ?_
    refine g_iload_n B 1 dX10_hasWord_22 rfl rfl ?_
    refine g_iconst (v := 1) B dX10_hasWord_23 (by decide) ?_
    replace h := bnP_s h
    obtain ⟨x7, h8, h⟩ := h
    refine g_callVs0 (st := [.int x5, va_rf v0]) B (cX10_ofCopyc h8) (Nat.le_of_ble_eq_true rfl) rfl rfl mi_X10_ofCopy lk_RX10_355 ⟨Nat.le_of_ble_eq_true rfl, Nat.le_of_ble_eq_true rfl⟩ rfl rfl (Nat.le_of_ble_eq_true rfl) dX10_hasWord_24 (Nat.zero_le _) (Nat.zero_le _) ?_
    refine g_iload_n B 2 dX10_hasWord_27 rfl rfl ?_
    replace h := bnP_s h
    obtain ⟨x9, h10, h⟩ := h
    refine g_callVs0 (st := []) B (cX10_hasByc h10) (Nat.le_of_ble_eq_true rfl) rfl rfl mi_X10_hasBy lk_RX10_361 ⟨Nat.le_of_ble_eq_true rfl, Nat.le_of_ble_eq_true rfl⟩ rfl rfl (Nat.le_of_ble_eq_true rfl) dX10_hasWord_28 (Nat.zero_le _) (Nat.zero_le _) ?_
    refine g_if_eq B 38 dX10_hasWord_31 (by decide) (fun hc => ?_) (fun hc => ?_)
    · replace h := ifn (bI0 hc) h
      refine g_iconst (v := 0) B dX10_hasWord_38 (by decide) ?_
      replace h := Option.some.inj h
      subst h
      exact g_zret B hE rfl (Nat.zero_le _) (Nat.zero_le _) dX10_hasWord_39
    · replace h := ifp (bI1 hc) h
      refine g_iconst (v := 1) B dX10_hasWord_34 (by decide) ?_
      refine g_goto B 39 dX10_hasWord_35 (by decide) ?_
      replace h := Option.some.inj h
      subst h
      exact g_zret B hE rfl (Nat.zero_le _) (Nat.zero_le _) dX10_hasWord_39
set_option maxRecDepth 100000 in
set_option maxHeartbeats 4000000 in
theorem cX10_copiesWithc {l : Launch} {v0 : Option Nat} {v1 : Int32} {σ : HpT} {r : Int32} (h : fX10_copiesWith v0 v1 σ = some r) : IsK σ v0 10 ∧ Ct l yX10_copiesWith cX10_copiesWith 4 (some .int) 5 110 [va_rf v0, .int v1] σ (.ok (some (.int r))) σ 0 0 := by
  unfold fX10_copiesWith at h
  replace h := bnP_s h
  obtain ⟨u, hk, h⟩ := h
  replace hk := isK_s hk
  refine ⟨hk, ?_⟩
  refine ct_start mi_X10_copiesWith.1 rfl (al_le (al_1 (rf_cat _) (al_1 rfl al_n)) (Nat.le_of_ble_eq_true rfl)) (ag_1 (rf_cat _) (ag_1 rfl ag_n)) (fun Δ Γ B hE hnm => ?_)
  refine g_iconst (v := 0) B dX10_copiesWith_0 (by decide) ?_
  refine g_istore_n B dX10_copiesWith_1 rfl (Nat.le_of_ble_eq_true rfl) (s1_c (f1_k rfl (f1_1 rfl rfl f1_n))) ?_
  refine g_iconst (v := 0) B dX10_copiesWith_2 (by decide) ?_
  refine g_istore_n B dX10_copiesWith_3 rfl (Nat.le_of_ble_eq_true rfl) (s1_c (f1_1 rfl rfl (f1_k rfl (f1_k rfl f1_n)))) ?_
  replace h := bnP_s h
  obtain ⟨r2, h3, h⟩ := h
  have kE4 : GW Δ Γ (0) (0) 33 [(2, .int r2)] [] σ := by
    refine g_iload_n B 0 dX10_copiesWith_33 rfl rfl ?_
    replace h := Option.some.inj h
    subst h
    exact g_iret B hE (Nat.zero_le _) (Nat.zero_le _) dX10_copiesWith_34
  clear h
  refine g_sub [2, 3, 1, 0] rfl ?_
  refine lpP_w (I := fun q1 => GW Δ Γ (0) (0) 4 [(0, va_rf v0), (1, .int v1), (2, .int q1.1), (3, .int q1.2)] [] σ) (r := r2) ?_ FUEL (0, 0) h3
  intro q1 x8 h hI6 hR7
  unfold fX10_copiesWith_l1 at h
  refine g_iload_n B 3 dX10_copiesWith_4 rfl rfl ?_
  refine g_aload_n B 0 dX10_copiesWith_5 rfl rfl ?_
  replace h := bnP_s h
  obtain ⟨x10, h11, h⟩ := h
  refine g_getR B fl_RX10_9 (by decide) dX10_copiesWith_6 h11 ?_
  refine g_bipush (v := 6) B dX10_copiesWith_9 (by decide) ?_
  replace h := bnP_s h
  obtain ⟨x12, h13, h⟩ := h
  refine g_iald B dX10_copiesWith_11 h13 ?_
  refine g_icmp_ge B 33 dX10_copiesWith_12 (by decide) (fun hc => ?_) (fun hc => ?_)
  · replace h := ifp hc h
    replace h := Option.some.inj h
    subst h
    have e8 := hR7 _ rfl
    subst e8
    exact g_sub [2] rfl kE4
  · replace h := ifn hc h
    refine g_iload_n B 2 dX10_copiesWith_15 rfl rfl ?_
    refine g_aload_n B 0 dX10_copiesWith_16 rfl rfl ?_
    refine g_iload_n B 3 dX10_copiesWith_17 rfl rfl ?_
    refine g_iload_n B 1 dX10_copiesWith_18 rfl rfl ?_
    replace h := bnP_s h
    obtain ⟨x14, h15, h⟩ := h
    refine g_callVs0 (st := [.int q1.1]) B (cX10_hasWordc h15) (Nat.le_of_ble_eq_true rfl) rfl rfl mi_X10_hasWord lk_RX10_364 ⟨Nat.le_of_ble_eq_true rfl, Nat.le_of_ble_eq_true rfl⟩ rfl rfl (Nat.le_of_ble_eq_true rfl) dX10_copiesWith_19 (Nat.zero_le _) (Nat.zero_le _) ?_
    replace h := bnP_s h
    obtain ⟨x16, h17, h⟩ := h
    refine g_callSs0 (st := [.int q1.1]) B (cX10_onec h17) mi_X10_one lk_RX10_333 ⟨Nat.le_of_ble_eq_true rfl, Nat.le_of_ble_eq_true rfl⟩ rfl rfl (Nat.le_of_ble_eq_true rfl) dX10_copiesWith_22 (Nat.zero_le _) (Nat.zero_le _) ?_
    refine g_iadd B dX10_copiesWith_25 ?_
    refine g_istore_n B dX10_copiesWith_26 rfl (Nat.le_of_ble_eq_true rfl) (s1_c (f1_k rfl (f1_1 rfl rfl (f1_x (f1_k rfl f1_n))))) ?_
    refine g_iinc (v := (q1.2 + 1)) B 3 dX10_copiesWith_27 rfl (by first | rfl | (congr 1; decide)) (Nat.le_of_ble_eq_true rfl) (s1_c (f1_1 rfl rfl (f1_k rfl (f1_k rfl (f1_x f1_n))))) ?_
    refine g_goto B 4 dX10_copiesWith_30 (by decide) ?_
    replace h := Option.some.inj h
    subst h
    exact g_sub [2, 3, 1, 0] rfl (hI6 _ rfl)
set_option maxRecDepth 100000 in
set_option maxHeartbeats 4000000 in
theorem cX10_isKnownc {l : Launch} {v0 : Option Nat} {v1 : Int32} {σ : HpT} {r : Bool} (h : fX10_isKnown v0 v1 σ = some r) : IsK σ v0 10 ∧ Ct l yX10_isKnown cX10_isKnown 2 (some .boolean) 6 133 [va_rf v0, .int v1] σ (.ok (some (.int (bI r)))) σ 0 0 := by
  unfold fX10_isKnown at h
  replace h := bnP_s h
  obtain ⟨u, hk, h⟩ := h
  replace hk := isK_s hk
  refine ⟨hk, ?_⟩
  refine ct_start mi_X10_isKnown.1 rfl (al_le (al_1 (rf_cat _) (al_1 rfl al_n)) (Nat.le_of_ble_eq_true rfl)) (ag_1 (rf_cat _) (ag_1 rfl ag_n)) (fun Δ Γ B hE hnm => ?_)
  refine g_aload_n B 0 dX10_isKnown_0 rfl rfl ?_
  refine g_iload_n B 1 dX10_isKnown_1 rfl rfl ?_
  replace h := bnP_s h
  obtain ⟨x1, h2, h⟩ := h
  refine g_callVs0 (st := []) B (cX10_isOnLostc h2) (Nat.le_of_ble_eq_true rfl) rfl rfl mi_X10_isOnLost lk_RX10_368 ⟨Nat.le_of_ble_eq_true rfl, Nat.le_of_ble_eq_true rfl⟩ rfl rfl (Nat.le_of_ble_eq_true rfl) dX10_isKnown_2 (Nat.zero_le _) (Nat.zero_le _) ?_
  refine g_if_eq B 16 dX10_isKnown_5 (by decide) (fun hc => ?_) (fun hc => ?_)
  · replace h := ifn (bI0 hc) h
    refine g_iconst (v := 1) B dX10_isKnown_16 (by decide) ?_
    refine g_goto B 21 dX10_isKnown_17 (by decide) ?_
    replace h := Option.some.inj h
    subst h
    exact g_zret B hE rfl (Nat.zero_le _) (Nat.zero_le _) dX10_isKnown_21
  · replace h := ifp (bI1 hc) h
    refine g_aload_n B 0 dX10_isKnown_8 rfl rfl ?_
    refine g_iload_n B 1 dX10_isKnown_9 rfl rfl ?_
    replace h := bnP_s h
    obtain ⟨x3, h4, h⟩ := h
    refine g_callVs0 (st := []) B (cX10_copiesWithc h4) (Nat.le_of_ble_eq_true rfl) rfl rfl mi_X10_copiesWith lk_RX10_371 ⟨Nat.le_of_ble_eq_true rfl, Nat.le_of_ble_eq_true rfl⟩ rfl rfl (Nat.le_of_ble_eq_true rfl) dX10_isKnown_10 (Nat.zero_le _) (Nat.zero_le _) ?_
    refine g_if_le B 20 dX10_isKnown_13 (by decide) (fun hc => ?_) (fun hc => ?_)
    · replace h := ifp hc h
      refine g_iconst (v := 0) B dX10_isKnown_20 (by decide) ?_
      replace h := Option.some.inj h
      subst h
      exact g_zret B hE rfl (Nat.zero_le _) (Nat.zero_le _) dX10_isKnown_21
    · replace h := ifn hc h
      refine g_iconst (v := 1) B dX10_isKnown_16 (by decide) ?_
      refine g_goto B 21 dX10_isKnown_17 (by decide) ?_
      replace h := Option.some.inj h
      subst h
      exact g_zret B hE rfl (Nat.zero_le _) (Nat.zero_le _) dX10_isKnown_21
set_option maxRecDepth 100000 in
set_option maxHeartbeats 4000000 in
theorem cX10_whyCopyc {l : Launch} {v0 : Option Nat} {v1 : Int32} {v2 : Int32} {σ : HpT} {r : Int32} (h : fX10_whyCopy v0 v1 v2 σ = some r) : IsK σ v0 10 ∧ Ct l yX10_whyCopy cX10_whyCopy 4 (some .int) 7 154 [va_rf v0, .int v1, .int v2] σ (.ok (some (.int r))) σ 0 0 := by
  unfold fX10_whyCopy at h
  replace h := bnP_s h
  obtain ⟨u, hk, h⟩ := h
  replace hk := isK_s hk
  refine ⟨hk, ?_⟩
  refine ct_start mi_X10_whyCopy.1 rfl (al_le (al_1 (rf_cat _) (al_1 rfl (al_1 rfl al_n))) (Nat.le_of_ble_eq_true rfl)) (ag_1 (rf_cat _) (ag_1 rfl (ag_1 rfl ag_n))) (fun Δ Γ B hE hnm => ?_)
  refine g_aload_n B 0 dX10_whyCopy_0 rfl rfl ?_
  refine g_iload_n B 1 dX10_whyCopy_1 rfl rfl ?_
  refine g_iconst (v := 1) B dX10_whyCopy_2 (by decide) ?_
  replace h := bnP_s h
  obtain ⟨x1, h2, h⟩ := h
  refine g_callVs0 (st := []) B (cX10_ofActc h2) (Nat.le_of_ble_eq_true rfl) rfl rfl mi_X10_ofAct lk_RX10_138 ⟨Nat.le_of_ble_eq_true rfl, Nat.le_of_ble_eq_true rfl⟩ rfl rfl (Nat.le_of_ble_eq_true rfl) dX10_whyCopy_3 (Nat.zero_le _) (Nat.zero_le _) ?_
  refine g_iconst (v := 1) B dX10_whyCopy_6 (by decide) ?_
  refine g_icmp_eq B 12 dX10_whyCopy_7 (by decide) (fun hc => ?_) (fun hc => ?_)
  · replace h := ifp hc h
    refine g_aload_n B 0 dX10_whyCopy_12 rfl rfl ?_
    refine g_iload_n B 1 dX10_whyCopy_13 rfl rfl ?_
    refine g_iconst (v := 5) B dX10_whyCopy_14 (by decide) ?_
    replace h := bnP_s h
    obtain ⟨x3, h4, h⟩ := h
    refine g_callVs0 (st := []) B (cX10_ofActc h4) (Nat.le_of_ble_eq_true rfl) rfl rfl mi_X10_ofAct lk_RX10_138 ⟨Nat.le_of_ble_eq_true rfl, Nat.le_of_ble_eq_true rfl⟩ rfl rfl (Nat.le_of_ble_eq_true rfl) dX10_whyCopy_15 (Nat.zero_le _) (Nat.zero_le _) ?_
    refine g_istore_n B dX10_whyCopy_18 rfl (Nat.le_of_ble_eq_true rfl) (s1_c (f1_k rfl (f1_k rfl (f1_1 rfl rfl f1_n)))) ?_
    replace h := bnP_s h
    obtain ⟨r6, h7, h⟩ := h
    have kE8 : ∀ y20, r6 = .inl y20 → GW Δ Γ (0) (0) 54 [(0, va_rf v0)] [] σ := by
      intro y20 er
      subst er
      dsimp only at h
      refine g_aload_n B 0 dX10_whyCopy_54 rfl rfl ?_
      replace h := bnP_s h
      obtain ⟨x21, h22, h⟩ := h
      refine g_getR B fl_RX10_9 (by decide) dX10_whyCopy_55 h22 ?_
      refine g_bipush (v := 6) B dX10_whyCopy_58 (by decide) ?_
      replace h := bnP_s h
      obtain ⟨x23, h24, h⟩ := h
      refine g_iald B dX10_whyCopy_60 h24 ?_
      refine g_bipush (v := 8) B dX10_whyCopy_61 (by decide) ?_
      refine g_icmp_ne B 70 dX10_whyCopy_63 (by decide) (fun hc => ?_) (fun hc => ?_)
      · replace h := ifn hc h
        refine g_iconst (v := 0) B dX10_whyCopy_70 (by decide) ?_
        replace h := Option.some.inj h
        subst h
        exact g_iret B hE (Nat.zero_le _) (Nat.zero_le _) dX10_whyCopy_71
      · replace h := ifp hc h
        refine g_iconst (v := 3) B dX10_whyCopy_66 (by decide) ?_
        refine g_goto B 71 dX10_whyCopy_67 (by decide) ?_
        replace h := Option.some.inj h
        subst h
        exact g_iret B hE (Nat.zero_le _) (Nat.zero_le _) dX10_whyCopy_71
    have kR9 : ∀ vv, r6 = .inr vv → En Δ Γ (.ok (some (.int vv))) σ 0 0 (some .int) ∧ 0 ≤ 0 ∧ 0 ≤ 0 := by
      intro vv er
      subst er
      dsimp only at h
      replace h := Option.some.inj h
      subst h
      exact ⟨hE, Nat.zero_le _, Nat.zero_le _⟩
    clear h
    refine g_sub [1, 2, 3, 0] rfl ?_
    refine lpP_w (I := fun q5 => GW Δ Γ (0) (0) 19 [(0, va_rf v0), (1, .int v1), (2, .int v2), (3, .int q5)] [] σ) (r := r6) ?_ FUEL x3 h7
    intro q5 x12 h hI10 hR11
    unfold fX10_whyCopy_l1 at h
    refine g_iload_n B 3 dX10_whyCopy_19 rfl rfl ?_
    refine g_aload_n B 0 dX10_whyCopy_20 rfl rfl ?_
    refine g_iload_n B 1 dX10_whyCopy_21 rfl rfl ?_
    replace h := bnP_s h
    obtain ⟨x14, h15, h⟩ := h
    refine g_callVs0 (st := [.int q5]) B (cX10_lastOfc h15) (Nat.le_of_ble_eq_true rfl) rfl rfl mi_X10_lastOf lk_RX10_327 ⟨Nat.le_of_ble_eq_true rfl, Nat.le_of_ble_eq_true rfl⟩ rfl rfl (Nat.le_of_ble_eq_true rfl) dX10_whyCopy_22 (Nat.zero_le _) (Nat.zero_le _) ?_
    refine g_icmp_gt B 54 dX10_whyCopy_25 (by decide) (fun hc => ?_) (fun hc => ?_)
    · replace h := ifp hc h
      replace h := Option.some.inj h
      subst h
      have e8 := hR11 _ rfl
      subst e8
      exact g_sub [0] rfl (kE8 _ rfl)
    · replace h := ifn hc h
      refine g_aload_n B 0 dX10_whyCopy_28 rfl rfl ?_
      refine g_iload_n B 1 dX10_whyCopy_29 rfl rfl ?_
      refine g_iload_n B 2 dX10_whyCopy_30 rfl rfl ?_
      refine g_iload_n B 3 dX10_whyCopy_31 rfl rfl ?_
      replace h := bnP_s h
      obtain ⟨x16, h17, h⟩ := h
      refine g_callVs0 (st := []) B (cX10_hasByc h17) (Nat.le_of_ble_eq_true rfl) rfl rfl mi_X10_hasBy lk_RX10_361 ⟨Nat.le_of_ble_eq_true rfl, Nat.le_of_ble_eq_true rfl⟩ rfl rfl (Nat.le_of_ble_eq_true rfl) dX10_whyCopy_32 (Nat.zero_le _) (Nat.zero_le _) ?_
      refine g_if_eq B 48 dX10_whyCopy_35 (by decide) (fun hc => ?_) (fun hc => ?_)
      · replace h := ifn (bI0 hc) h
        refine g_iinc (v := (q5 + 1)) B 3 dX10_whyCopy_48 rfl (by first | rfl | (congr 1; decide)) (Nat.le_of_ble_eq_true rfl) (s1_c (f1_k rfl (f1_k rfl (f1_1 rfl rfl (f1_x f1_n))))) ?_
        refine g_goto B 19 dX10_whyCopy_51 (by decide) ?_
        replace h := Option.some.inj h
        subst h
        exact g_sub [1, 2, 3, 0] rfl (hI10 _ rfl)
      · replace h := ifp (bI1 hc) h
        refine g_aload_n B 0 dX10_whyCopy_38 rfl rfl ?_
        refine g_iload_n B 3 dX10_whyCopy_39 rfl rfl ?_
        replace h := bnP_s h
        obtain ⟨x18, h19, h⟩ := h
        refine g_callVs0 (st := []) B (cX10_isKnownc h19) (Nat.le_of_ble_eq_true rfl) rfl rfl mi_X10_isKnown lk_RX10_374 ⟨Nat.le_of_ble_eq_true rfl, Nat.le_of_ble_eq_true rfl⟩ rfl rfl (Nat.le_of_ble_eq_true rfl) dX10_whyCopy_40 (Nat.zero_le _) (Nat.zero_le _) ?_
        refine g_if_ne B 48 dX10_whyCopy_43 (by decide) (fun hc => ?_) (fun hc => ?_)
        · replace h := ifp (bI1 hc) h
          refine g_iinc (v := (q5 + 1)) B 3 dX10_whyCopy_48 rfl (by first | rfl | (congr 1; decide)) (Nat.le_of_ble_eq_true rfl) (s1_c (f1_k rfl (f1_k rfl (f1_1 rfl rfl (f1_x f1_n))))) ?_
          refine g_goto B 19 dX10_whyCopy_51 (by decide) ?_
          replace h := Option.some.inj h
          subst h
          exact g_sub [1, 2, 3, 0] rfl (hI10 _ rfl)
        · replace h := ifn (bI0 hc) h
          refine g_iconst (v := 2) B dX10_whyCopy_46 (by decide) ?_
          replace h := Option.some.inj h
          subst h
          have e8 := hR11 _ rfl
          obtain ⟨hE, hc9, hs9⟩ := kR9 _ e8.symm
          exact g_iret B hE hc9 hs9 dX10_whyCopy_47
  · replace h := ifn hc h
    refine g_iconst (v := 1) B dX10_whyCopy_10 (by decide) ?_
    replace h := Option.some.inj h
    subst h
    exact g_iret B hE (Nat.zero_le _) (Nat.zero_le _) dX10_whyCopy_11
set_option maxRecDepth 100000 in
set_option maxHeartbeats 4000000 in
theorem cX10_feeOfc {l : Launch} {v0 : Int32} {σ : HpT} {r : Int32} (h : fX10_feeOf v0 σ = some r) : Ct l yX10_feeOf cX10_feeOf 1 (some .int) 0 0 [.int v0] σ (.ok (some (.int r))) σ 0 0 := by
  unfold fX10_feeOf at h
  refine ct_start mi_X10_feeOf.1 rfl (al_le (al_1 rfl al_n) (Nat.le_of_ble_eq_true rfl)) (ag_1 rfl ag_n) (fun Δ Γ B hE hnm => ?_)
  refine g_iconst (v := 3) B dX10_feeOf_0 (by decide) ?_
  refine g_iload_n B 0 dX10_feeOf_1 rfl rfl ?_
  refine g_isub B dX10_feeOf_2 ?_
  replace h := Option.some.inj h
  subst h
  exact g_iret B hE (Nat.zero_le _) (Nat.zero_le _) dX10_feeOf_3
set_option maxRecDepth 100000 in
set_option maxHeartbeats 4000000 in
theorem cX10_copiesc {l : Launch} {v0 : Option Nat} {v1 : Int32} {v2 : Int32} {σ : HpT} {σ' : HpT} (h : fX10_copies v0 v1 v2 σ = some σ') : IsK σ v0 10 ∧ Ct l yX10_copies cX10_copies 3 none 1 20 [va_rf v0, .int v1, .int v2] σ (.ok none) σ' 0 0 := by
  unfold fX10_copies at h
  replace h := bnP_s h
  obtain ⟨u, hk, h⟩ := h
  replace hk := isK_s hk
  refine ⟨hk, ?_⟩
  refine ct_start mi_X10_copies.1 rfl (al_le (al_1 (rf_cat _) (al_1 rfl (al_1 rfl al_n))) (Nat.le_of_ble_eq_true rfl)) (ag_1 (rf_cat _) (ag_1 rfl (ag_1 rfl ag_n))) (fun Δ Γ B hE hnm => ?_)
  refine g_aload_n B 0 dX10_copies_0 rfl rfl ?_
  replace h := bnP_s h
  obtain ⟨x1, h2, h⟩ := h
  refine g_getR B fl_RX10_9 (by decide) dX10_copies_1 h2 ?_
  refine g_bipush (v := 111) B dX10_copies_4 (by decide) ?_
  refine g_iconst (v := 2) B dX10_copies_6 (by decide) ?_
  refine g_aload_n B 0 dX10_copies_7 rfl rfl ?_
  replace h := bnP_s h
  obtain ⟨x3, h4, h⟩ := h
  refine g_getR B fl_RX10_9 (by decide) dX10_copies_8 h4 ?_
  refine g_bipush (v := 6) B dX10_copies_11 (by decide) ?_
  replace h := bnP_s h
  obtain ⟨x5, h6, h⟩ := h
  refine g_iald B dX10_copies_13 h6 ?_
  refine g_imul B dX10_copies_14 ?_
  refine g_iadd B dX10_copies_15 ?_
  refine g_iconst (v := 0) B dX10_copies_16 (by decide) ?_
  refine g_iadd B dX10_copies_17 ?_
  refine g_iload_n B 1 dX10_copies_18 rfl rfl ?_
  replace h := bnP_s h
  obtain ⟨s9, h8, h⟩ := h
  refine g_iast B dX10_copies_19 h8 ?_
  refine g_aload_n B 0 dX10_copies_20 rfl rfl ?_
  replace h := bnP_s h
  obtain ⟨x10, h11, h⟩ := h
  refine g_getR B fl_RX10_9 (by decide) dX10_copies_21 h11 ?_
  refine g_bipush (v := 111) B dX10_copies_24 (by decide) ?_
  refine g_iconst (v := 2) B dX10_copies_26 (by decide) ?_
  refine g_aload_n B 0 dX10_copies_27 rfl rfl ?_
  replace h := bnP_s h
  obtain ⟨x12, h13, h⟩ := h
  refine g_getR B fl_RX10_9 (by decide) dX10_copies_28 h13 ?_
  refine g_bipush (v := 6) B dX10_copies_31 (by decide) ?_
  replace h := bnP_s h
  obtain ⟨x14, h15, h⟩ := h
  refine g_iald B dX10_copies_33 h15 ?_
  refine g_imul B dX10_copies_34 ?_
  refine g_iadd B dX10_copies_35 ?_
  refine g_iconst (v := 1) B dX10_copies_36 (by decide) ?_
  refine g_iadd B dX10_copies_37 ?_
  refine g_iload_n B 2 dX10_copies_38 rfl rfl ?_
  replace h := bnP_s h
  obtain ⟨s18, h17, h⟩ := h
  refine g_iast B dX10_copies_39 h17 ?_
  refine g_aload_n B 0 dX10_copies_40 rfl rfl ?_
  replace h := bnP_s h
  obtain ⟨x19, h20, h⟩ := h
  refine g_getR B fl_RX10_9 (by decide) dX10_copies_41 h20 ?_
  refine g_bipush (v := 6) B dX10_copies_44 (by decide) ?_
  refine g_dup2 B dX10_copies_46 rfl (rf_cat _) ?_
  replace h := bnP_s h
  obtain ⟨x21, h22, h⟩ := h
  refine g_iald B dX10_copies_47 h22 ?_
  refine g_iconst (v := 1) B dX10_copies_48 (by decide) ?_
  refine g_iadd B dX10_copies_49 ?_
  replace h := bnP_s h
  obtain ⟨s25, h24, h⟩ := h
  refine g_iast B dX10_copies_50 h24 ?_
  refine g_aload_n B 0 dX10_copies_51 rfl rfl ?_
  replace h := bnP_s h
  obtain ⟨x26, h27, h⟩ := h
  refine g_getR B fl_RX10_9 (by decide) dX10_copies_52 h27 ?_
  refine g_bipush (v := 7) B dX10_copies_55 (by decide) ?_
  refine g_dup2 B dX10_copies_57 rfl (rf_cat _) ?_
  replace h := bnP_s h
  obtain ⟨x28, h29, h⟩ := h
  refine g_iald B dX10_copies_58 h29 ?_
  refine g_iload_n B 2 dX10_copies_59 rfl rfl ?_
  replace h := bnP_s h
  obtain ⟨x30, h31, h⟩ := h
  refine g_callSs0 (st := [.int x28, .int 7, va_rf x26]) B (cX10_feeOfc h31) mi_X10_feeOf lk_RX10_377 ⟨Nat.le_of_ble_eq_true rfl, Nat.le_of_ble_eq_true rfl⟩ rfl rfl (Nat.le_of_ble_eq_true rfl) dX10_copies_60 (Nat.zero_le _) (Nat.zero_le _) ?_
  refine g_iadd B dX10_copies_63 ?_
  replace h := bnP_s h
  obtain ⟨s34, h33, h⟩ := h
  refine g_iast B dX10_copies_64 h33 ?_
  replace h := Option.some.inj h
  subst h
  exact g_vret B hE (Nat.zero_le _) (Nat.zero_le _) dX10_copies_65
set_option maxRecDepth 100000 in
set_option maxHeartbeats 4000000 in
theorem cX10_readsCopyc {l : Launch} {v0 : Option Nat} {σ : HpT} {σ' : HpT} (h : fX10_readsCopy v0 σ = some σ') : IsK σ v0 10 ∧ Ct l yX10_readsCopy cX10_readsCopy 3 none 8 177 [va_rf v0] σ (.ok none) σ' 0 0 := by
  unfold fX10_readsCopy at h
  replace h := bnP_s h
  obtain ⟨u, hk, h⟩ := h
  replace hk := isK_s hk
  refine ⟨hk, ?_⟩
  refine ct_start mi_X10_readsCopy.1 rfl (al_le (al_1 (rf_cat _) al_n) (Nat.le_of_ble_eq_true rfl)) (ag_1 (rf_cat _) ag_n) (fun Δ Γ B hE hnm => ?_)
  refine g_aload_n B 0 dX10_readsCopy_0 rfl rfl ?_
  replace h := bnP_s h
  obtain ⟨x1, h2, h⟩ := h
  refine g_getR B fl_RX10_9 (by decide) dX10_readsCopy_1 h2 ?_
  refine g_bipush (v := 6) B dX10_readsCopy_4 (by decide) ?_
  replace h := bnP_s h
  obtain ⟨x3, h4, h⟩ := h
  refine g_iald B dX10_readsCopy_6 h4 ?_
  refine g_bipush (v := 8) B dX10_readsCopy_7 (by decide) ?_
  replace h := bnS_s h
  obtain ⟨j5, s13, h6, h⟩ := h
  have k8 : GW Δ Γ (0) (0) 17 [(0, va_rf v0)] [] s13 := by
    refine g_aload_n B 0 dX10_readsCopy_17 rfl rfl ?_
    replace h := bnP_s h
    obtain ⟨s16, h15, h⟩ := h
    refine g_callVv0 (st := []) B (cX10_goesc h15) (Nat.le_of_ble_eq_true rfl) rfl rfl mi_X10_goes lk_RX10_122 ⟨Nat.le_of_ble_eq_true rfl, Nat.le_of_ble_eq_true rfl⟩ rfl rfl (Nat.le_of_ble_eq_true rfl) dX10_readsCopy_18 (Nat.zero_le _) (Nat.zero_le _) ?_
    refine g_aload_n B 0 dX10_readsCopy_21 rfl rfl ?_
    refine g_iconst (v := 1) B dX10_readsCopy_22 (by decide) ?_
    refine g_aload_n B 0 dX10_readsCopy_23 rfl rfl ?_
    replace h := bnP_s h
    obtain ⟨x17, h18, h⟩ := h
    refine g_getR B fl_RX10_9 (by decide) dX10_readsCopy_24 h18 ?_
    refine g_iconst (v := 3) B dX10_readsCopy_27 (by decide) ?_
    replace h := bnP_s h
    obtain ⟨x19, h20, h⟩ := h
    refine g_iald B dX10_readsCopy_28 h20 ?_
    replace h := bnS_s h
    obtain ⟨x21, s23, h22, h⟩ := h
    refine g_callVs0 (st := []) B (cX10_numberc h22) (Nat.le_of_ble_eq_true rfl) rfl rfl mi_X10_number lk_RX10_215 ⟨Nat.le_of_ble_eq_true rfl, Nat.le_of_ble_eq_true rfl⟩ rfl rfl (Nat.le_of_ble_eq_true rfl) dX10_readsCopy_29 (Nat.zero_le _) (Nat.zero_le _) ?_
    refine g_iconst (v := 1) B dX10_readsCopy_32 (by decide) ?_
    refine g_isub B dX10_readsCopy_33 ?_
    refine g_istore_n B dX10_readsCopy_34 rfl (Nat.le_of_ble_eq_true rfl) (s1_c (f1_1 rfl (rf_cat _) f1_n)) ?_
    refine g_aload_n B 1 dX10_readsCopy_35 rfl rfl ?_
    refine g_iconst (v := 0) B dX10_readsCopy_36 (by decide) ?_
    refine g_iconst (v := 2) B dX10_readsCopy_37 (by decide) ?_
    replace h := bnS_s h
    obtain ⟨x24, s26, h25, h⟩ := h
    refine g_callVs0 (st := []) B (cX10_numberHerec h25) (Nat.le_of_ble_eq_true rfl) rfl rfl mi_X10_numberHere lk_RX10_118 ⟨Nat.le_of_ble_eq_true rfl, Nat.le_of_ble_eq_true rfl⟩ rfl rfl (Nat.le_of_ble_eq_true rfl) dX10_readsCopy_38 (Nat.zero_le _) (Nat.zero_le _) ?_
    refine g_istore_n B dX10_readsCopy_41 rfl (Nat.le_of_ble_eq_true rfl) (s1_c (f1_1 rfl rfl (f1_k rfl f1_n))) ?_
    refine g_aload_n B 2 dX10_readsCopy_42 rfl rfl ?_
    replace h := bnP_s h
    obtain ⟨x27, h28, h⟩ := h
    refine g_getI B fl_RX10_73 (by decide) dX10_readsCopy_43 h28 ?_
    replace h := bnS_s h
    obtain ⟨j29, s39, h30, h⟩ := h
    have k32 : GW Δ Γ (0) (0) 63 [(0, va_rf v0), (1, .int (x21 - 1)), (2, .int x24)] [] s39 := by
      refine g_aload_n B 0 dX10_readsCopy_63 rfl rfl ?_
      replace h := bnP_s h
      obtain ⟨x40, h41, h⟩ := h
      refine g_getI B fl_RX10_73 (by decide) dX10_readsCopy_64 h41 ?_
      replace h := bnS_s h
      obtain ⟨j42, s50, h43, h⟩ := h
      have k45 : GW Δ Γ (0) (0) 76 [(0, va_rf v0)] [] s50 := by
        refine g_aload_n B 0 dX10_readsCopy_76 rfl rfl ?_
        replace h := bnP_s h
        obtain ⟨s53, h52, h⟩ := h
        refine g_callVv0 (st := []) B (cX10_goesc h52) (Nat.le_of_ble_eq_true rfl) rfl rfl mi_X10_goes lk_RX10_122 ⟨Nat.le_of_ble_eq_true rfl, Nat.le_of_ble_eq_true rfl⟩ rfl rfl (Nat.le_of_ble_eq_true rfl) dX10_readsCopy_77 (Nat.zero_le _) (Nat.zero_le _) ?_
        replace h := Option.some.inj h
        subst h
        exact g_vret B hE (Nat.zero_le _) (Nat.zero_le _) dX10_readsCopy_80
      clear h
      have h := h43
      clear h43
      refine g_if_ne B 76 dX10_readsCopy_67 (by decide) (fun hc => ?_) (fun hc => ?_)
      · replace h := ifn hc h
        obtain ⟨w1, w2⟩ := inS h
        clear h
        subst w1
        subst w2
        exact g_sub [0] rfl k45
      · replace h := ifp hc h
        refine g_aload_n B 0 dX10_readsCopy_70 rfl rfl ?_
        refine g_iload_n B 1 dX10_readsCopy_71 rfl rfl ?_
        refine g_iload_n B 2 dX10_readsCopy_72 rfl rfl ?_
        replace h := bnP_s h
        obtain ⟨s49, h48, h⟩ := h
        refine g_callVv0 (st := []) B (cX10_copiesc h48) (Nat.le_of_ble_eq_true rfl) rfl rfl mi_X10_copies lk_RX10_227 ⟨Nat.le_of_ble_eq_true rfl, Nat.le_of_ble_eq_true rfl⟩ rfl rfl (Nat.le_of_ble_eq_true rfl) dX10_readsCopy_73 (Nat.zero_le _) (Nat.zero_le _) ?_
        obtain ⟨w1, w2⟩ := inS h
        clear h
        subst w1
        subst w2
        exact g_sub [0] rfl k45
    clear h
    have h := h30
    clear h30
    refine g_if_ne B 63 dX10_readsCopy_46 (by decide) (fun hc => ?_) (fun hc => ?_)
    · replace h := ifn hc h
      obtain ⟨w1, w2⟩ := inS h
      clear h
      subst w1
      subst w2
      exact g_sub [2, 1, 0] rfl k32
    · replace h := ifp hc h
      refine g_aload_n B 2 dX10_readsCopy_49 rfl rfl ?_
      refine g_iload_n B 1 dX10_readsCopy_50 rfl rfl ?_
      refine g_iload_n B 0 dX10_readsCopy_51 rfl rfl ?_
      replace h := bnP_s h
      obtain ⟨x34, h35, h⟩ := h
      refine g_callVs0 (st := []) B (cX10_whyCopyc h35) (Nat.le_of_ble_eq_true rfl) rfl rfl mi_X10_whyCopy lk_RX10_224 ⟨Nat.le_of_ble_eq_true rfl, Nat.le_of_ble_eq_true rfl⟩ rfl rfl (Nat.le_of_ble_eq_true rfl) dX10_readsCopy_52 (Nat.zero_le _) (Nat.zero_le _) ?_
      refine g_if_eq B 63 dX10_readsCopy_55 (by decide) (fun hc => ?_) (fun hc => ?_)
      · replace h := ifp hc h
        obtain ⟨w1, w2⟩ := inS h
        clear h
        subst w1
        subst w2
        exact g_sub [2, 1, 0] rfl k32
      · replace h := ifn hc h
        refine g_aload_n B 2 dX10_readsCopy_58 rfl rfl ?_
        refine g_iconst (v := 3) B dX10_readsCopy_59 (by decide) ?_
        replace h := bnP_s h
        obtain ⟨s38, h37, h⟩ := h
        refine g_callVv0 (st := []) B (cX10_faultsc h37) (Nat.le_of_ble_eq_true rfl) rfl rfl mi_X10_faults lk_RX10_115 ⟨Nat.le_of_ble_eq_true rfl, Nat.le_of_ble_eq_true rfl⟩ rfl rfl (Nat.le_of_ble_eq_true rfl) dX10_readsCopy_60 (Nat.zero_le _) (Nat.zero_le _) ?_
        obtain ⟨w1, w2⟩ := inS h
        clear h
        subst w1
        subst w2
        exact g_sub [2, 1, 0] rfl k32
  clear h
  have h := h6
  clear h6
  refine g_icmp_ne B 17 dX10_readsCopy_9 (by decide) (fun hc => ?_) (fun hc => ?_)
  · replace h := ifn hc h
    obtain ⟨w1, w2⟩ := inS h
    clear h
    subst w1
    subst w2
    exact g_sub [0] rfl k8
  · replace h := ifp hc h
    refine g_aload_n B 0 dX10_readsCopy_12 rfl rfl ?_
    refine g_iconst (v := 4) B dX10_readsCopy_13 (by decide) ?_
    replace h := bnP_s h
    obtain ⟨s12, h11, h⟩ := h
    refine g_callVv0 (st := []) B (cX10_faultsc h11) (Nat.le_of_ble_eq_true rfl) rfl rfl mi_X10_faults lk_RX10_115 ⟨Nat.le_of_ble_eq_true rfl, Nat.le_of_ble_eq_true rfl⟩ rfl rfl (Nat.le_of_ble_eq_true rfl) dX10_readsCopy_14 (Nat.zero_le _) (Nat.zero_le _) ?_
    obtain ⟨w1, w2⟩ := inS h
    clear h
    subst w1
    subst w2
    exact g_sub [0] rfl k8
set_option maxRecDepth 100000 in
set_option maxHeartbeats 4000000 in
theorem cX10_leafHerec {l : Launch} {v0 : Option Nat} {σ : HpT} {r : Int32} {σ' : HpT} (h : fX10_leafHere v0 σ = some (r, σ')) : IsK σ v0 10 ∧ Ct l yX10_leafHere cX10_leafHere 1 (some .int) 2 44 [va_rf v0] σ (.ok (some (.int r))) σ' 0 0 := by
  unfold fX10_leafHere at h
  replace h := bnP_s h
  obtain ⟨u, hk, h⟩ := h
  replace hk := isK_s hk
  refine ⟨hk, ?_⟩
  refine ct_start mi_X10_leafHere.1 rfl (al_le (al_1 (rf_cat _) al_n) (Nat.le_of_ble_eq_true rfl)) (ag_1 (rf_cat _) ag_n) (fun Δ Γ B hE hnm => ?_)
  refine g_aload_n B 0 dX10_leafHere_0 rfl rfl ?_
  refine g_iconst (v := 0) B dX10_leafHere_1 (by decide) ?_
  refine g_aload_n B 0 dX10_leafHere_2 rfl rfl ?_
  replace h := bnP_s h
  obtain ⟨x1, h2, h⟩ := h
  refine g_callVs0 (st := [.int 0, va_rf v0]) B (cX10_leavesc h2) (Nat.le_of_ble_eq_true rfl) rfl rfl mi_X10_leaves lk_RX10_231 ⟨Nat.le_of_ble_eq_true rfl, Nat.le_of_ble_eq_true rfl⟩ rfl rfl (Nat.le_of_ble_eq_true rfl) dX10_leafHere_3 (Nat.zero_le _) (Nat.zero_le _) ?_
  refine g_iconst (v := 1) B dX10_leafHere_6 (by decide) ?_
  refine g_isub B dX10_leafHere_7 ?_
  replace h := bnS_s h
  obtain ⟨x3, s5, h4, h⟩ := h
  refine g_callVs0 (st := []) B (cX10_numberHerec h4) (Nat.le_of_ble_eq_true rfl) rfl rfl mi_X10_numberHere lk_RX10_118 ⟨Nat.le_of_ble_eq_true rfl, Nat.le_of_ble_eq_true rfl⟩ rfl rfl (Nat.le_of_ble_eq_true rfl) dX10_leafHere_8 (Nat.zero_le _) (Nat.zero_le _) ?_
  obtain ⟨w1, w2⟩ := inS h
  clear h
  subst w1
  subst w2
  exact g_iret B hE (Nat.zero_le _) (Nat.zero_le _) dX10_leafHere_11
set_option maxRecDepth 100000 in
set_option maxHeartbeats 4000000 in
theorem cX10_loosensc {l : Launch} {v0 : Option Nat} {v1 : Int32} {σ : HpT} {σ' : HpT} (h : fX10_loosens v0 v1 σ = some σ') : IsK σ v0 10 ∧ Ct l yX10_loosens cX10_loosens 3 none 2 42 [va_rf v0, .int v1] σ (.ok none) σ' 0 0 := by
  unfold fX10_loosens at h
  replace h := bnP_s h
  obtain ⟨u, hk, h⟩ := h
  replace hk := isK_s hk
  refine ⟨hk, ?_⟩
  refine ct_start mi_X10_loosens.1 rfl (al_le (al_1 (rf_cat _) (al_1 rfl al_n)) (Nat.le_of_ble_eq_true rfl)) (ag_1 (rf_cat _) (ag_1 rfl ag_n)) (fun Δ Γ B hE hnm => ?_)
  refine g_aload_n B 0 dX10_loosens_0 rfl rfl ?_
  refine g_iload_n B 1 dX10_loosens_1 rfl rfl ?_
  replace h := bnP_s h
  obtain ⟨x1, h2, h⟩ := h
  refine g_callVs0 (st := []) B (cX10_mateOfc h2) (Nat.le_of_ble_eq_true rfl) rfl rfl mi_X10_mateOf lk_RX10_166 ⟨Nat.le_of_ble_eq_true rfl, Nat.le_of_ble_eq_true rfl⟩ rfl rfl (Nat.le_of_ble_eq_true rfl) dX10_loosens_2 (Nat.zero_le _) (Nat.zero_le _) ?_
  refine g_istore_n B dX10_loosens_5 rfl (Nat.le_of_ble_eq_true rfl) (s1_c (f1_k rfl (f1_1 rfl rfl f1_n))) ?_
  refine g_iload_n B 0 dX10_loosens_6 rfl rfl ?_
  refine g_iconst (v := (-1)) B dX10_loosens_7 (by decide) ?_
  refine g_icmp_eq B 29 dX10_loosens_8 (by decide) (fun hc => ?_) (fun hc => ?_)
  · replace h := ifp hc h
    replace h := Option.some.inj h
    subst h
    exact g_vret B hE (Nat.zero_le _) (Nat.zero_le _) dX10_loosens_29
  · replace h := ifn hc h
    refine g_aload_n B 1 dX10_loosens_11 rfl rfl ?_
    refine g_iload_n B 0 dX10_loosens_12 rfl rfl ?_
    replace h := bnP_s h
    obtain ⟨x3, h4, h⟩ := h
    refine g_callVs0 (st := []) B (cX10_statusOfc h4) (Nat.le_of_ble_eq_true rfl) rfl rfl mi_X10_statusOf lk_RX10_237 ⟨Nat.le_of_ble_eq_true rfl, Nat.le_of_ble_eq_true rfl⟩ rfl rfl (Nat.le_of_ble_eq_true rfl) dX10_loosens_13 (Nat.zero_le _) (Nat.zero_le _) ?_
    refine g_if_ne B 29 dX10_loosens_16 (by decide) (fun hc => ?_) (fun hc => ?_)
    · replace h := ifn hc h
      replace h := Option.some.inj h
      subst h
      exact g_vret B hE (Nat.zero_le _) (Nat.zero_le _) dX10_loosens_29
    · replace h := ifp hc h
      refine g_aload_n B 1 dX10_loosens_19 rfl rfl ?_
      replace h := bnP_s h
      obtain ⟨x5, h6, h⟩ := h
      refine g_getR B fl_RX10_9 (by decide) dX10_loosens_20 h6 ?_
      refine g_bipush (v := 99) B dX10_loosens_23 (by decide) ?_
      refine g_iload_n B 0 dX10_loosens_25 rfl rfl ?_
      refine g_iadd B dX10_loosens_26 ?_
      refine g_iconst (v := 1) B dX10_loosens_27 (by decide) ?_
      replace h := bnP_s h
      obtain ⟨s9, h8, h⟩ := h
      refine g_iast B dX10_loosens_28 h8 ?_
      replace h := Option.some.inj h
      subst h
      exact g_vret B hE (Nat.zero_le _) (Nat.zero_le _) dX10_loosens_29
set_option maxRecDepth 100000 in
set_option maxHeartbeats 4000000 in
theorem cX10_losesc {l : Launch} {v0 : Option Nat} {v1 : Int32} {σ : HpT} {σ' : HpT} (h : fX10_loses v0 v1 σ = some σ') : IsK σ v0 10 ∧ Ct l yX10_loses cX10_loses 2 none 3 64 [va_rf v0, .int v1] σ (.ok none) σ' 0 0 := by
  unfold fX10_loses at h
  replace h := bnP_s h
  obtain ⟨u, hk, h⟩ := h
  replace hk := isK_s hk
  refine ⟨hk, ?_⟩
  refine ct_start mi_X10_loses.1 rfl (al_le (al_1 (rf_cat _) (al_1 rfl al_n)) (Nat.le_of_ble_eq_true rfl)) (ag_1 (rf_cat _) (ag_1 rfl ag_n)) (fun Δ Γ B hE hnm => ?_)
  refine g_aload_n B 0 dX10_loses_0 rfl rfl ?_
  replace h := bnP_s h
  obtain ⟨x1, h2, h⟩ := h
  refine g_getR B fl_RX10_9 (by decide) dX10_loses_1 h2 ?_
  refine g_bipush (v := 99) B dX10_loses_4 (by decide) ?_
  refine g_iload_n B 1 dX10_loses_6 rfl rfl ?_
  refine g_iadd B dX10_loses_7 ?_
  refine g_iconst (v := 2) B dX10_loses_8 (by decide) ?_
  replace h := bnP_s h
  obtain ⟨s5, h4, h⟩ := h
  refine g_iast B dX10_loses_9 h4 ?_
  refine g_aload_n B 0 dX10_loses_10 rfl rfl ?_
  refine g_iload_n B 1 dX10_loses_11 rfl rfl ?_
  replace h := bnP_s h
  obtain ⟨s8, h7, h⟩ := h
  refine g_callVv0 (st := []) B (cX10_loosensc h7) (Nat.le_of_ble_eq_true rfl) rfl rfl mi_X10_loosens lk_RX10_346 ⟨Nat.le_of_ble_eq_true rfl, Nat.le_of_ble_eq_true rfl⟩ rfl rfl (Nat.le_of_ble_eq_true rfl) dX10_loses_12 (Nat.zero_le _) (Nat.zero_le _) ?_
  replace h := Option.some.inj h
  subst h
  exact g_vret B hE (Nat.zero_le _) (Nat.zero_le _) dX10_loses_15
set_option maxRecDepth 100000 in
set_option maxHeartbeats 4000000 in
theorem cX10_readsLosec {l : Launch} {v0 : Option Nat} {σ : HpT} {σ' : HpT} (h : fX10_readsLose v0 σ = some σ') : IsK σ v0 10 ∧ Ct l yX10_readsLose cX10_readsLose 2 none 4 85 [va_rf v0] σ (.ok none) σ' 0 0 := by
  unfold fX10_readsLose at h
  replace h := bnP_s h
  obtain ⟨u, hk, h⟩ := h
  replace hk := isK_s hk
  refine ⟨hk, ?_⟩
  refine ct_start mi_X10_readsLose.1 rfl (al_le (al_1 (rf_cat _) al_n) (Nat.le_of_ble_eq_true rfl)) (ag_1 (rf_cat _) ag_n) (fun Δ Γ B hE hnm => ?_)
  refine g_aload_n B 0 dX10_readsLose_0 rfl rfl ?_
  replace h := bnP_s h
  obtain ⟨s3, h2, h⟩ := h
  refine g_callVv0 (st := []) B (cX10_goesc h2) (Nat.le_of_ble_eq_true rfl) rfl rfl mi_X10_goes lk_RX10_122 ⟨Nat.le_of_ble_eq_true rfl, Nat.le_of_ble_eq_true rfl⟩ rfl rfl (Nat.le_of_ble_eq_true rfl) dX10_readsLose_1 (Nat.zero_le _) (Nat.zero_le _) ?_
  refine g_aload_n B 0 dX10_readsLose_4 rfl rfl ?_
  replace h := bnS_s h
  obtain ⟨x4, s6, h5, h⟩ := h
  refine g_callVs0 (st := []) B (cX10_leafHerec h5) (Nat.le_of_ble_eq_true rfl) rfl rfl mi_X10_leafHere lk_RX10_234 ⟨Nat.le_of_ble_eq_true rfl, Nat.le_of_ble_eq_true rfl⟩ rfl rfl (Nat.le_of_ble_eq_true rfl) dX10_readsLose_5 (Nat.zero_le _) (Nat.zero_le _) ?_
  refine g_istore_n B dX10_readsLose_8 rfl (Nat.le_of_ble_eq_true rfl) (s1_c (f1_1 rfl (rf_cat _) f1_n)) ?_
  refine g_aload_n B 1 dX10_readsLose_9 rfl rfl ?_
  replace h := bnP_s h
  obtain ⟨x7, h8, h⟩ := h
  refine g_getI B fl_RX10_73 (by decide) dX10_readsLose_10 h8 ?_
  replace h := bnS_s h
  obtain ⟨j9, s19, h10, h⟩ := h
  have k12 : GW Δ Γ (0) (0) 30 [(0, va_rf v0), (1, .int x4)] [] s19 := by
    refine g_aload_n B 0 dX10_readsLose_30 rfl rfl ?_
    replace h := bnP_s h
    obtain ⟨x20, h21, h⟩ := h
    refine g_getI B fl_RX10_73 (by decide) dX10_readsLose_31 h21 ?_
    replace h := bnS_s h
    obtain ⟨j22, s30, h23, h⟩ := h
    have k25 : GW Δ Γ (0) (0) 42 [(0, va_rf v0)] [] s30 := by
      refine g_aload_n B 0 dX10_readsLose_42 rfl rfl ?_
      replace h := bnP_s h
      obtain ⟨s33, h32, h⟩ := h
      refine g_callVv0 (st := []) B (cX10_goesc h32) (Nat.le_of_ble_eq_true rfl) rfl rfl mi_X10_goes lk_RX10_122 ⟨Nat.le_of_ble_eq_true rfl, Nat.le_of_ble_eq_true rfl⟩ rfl rfl (Nat.le_of_ble_eq_true rfl) dX10_readsLose_43 (Nat.zero_le _) (Nat.zero_le _) ?_
      replace h := Option.some.inj h
      subst h
      exact g_vret B hE (Nat.zero_le _) (Nat.zero_le _) dX10_readsLose_46
    clear h
    have h := h23
    clear h23
    refine g_if_ne B 42 dX10_readsLose_34 (by decide) (fun hc => ?_) (fun hc => ?_)
    · replace h := ifn hc h
      obtain ⟨w1, w2⟩ := inS h
      clear h
      subst w1
      subst w2
      exact g_sub [0] rfl k25
    · replace h := ifp hc h
      refine g_aload_n B 0 dX10_readsLose_37 rfl rfl ?_
      refine g_iload_n B 1 dX10_readsLose_38 rfl rfl ?_
      replace h := bnP_s h
      obtain ⟨s29, h28, h⟩ := h
      refine g_callVv0 (st := []) B (cX10_losesc h28) (Nat.le_of_ble_eq_true rfl) rfl rfl mi_X10_loses lk_RX10_240 ⟨Nat.le_of_ble_eq_true rfl, Nat.le_of_ble_eq_true rfl⟩ rfl rfl (Nat.le_of_ble_eq_true rfl) dX10_readsLose_39 (Nat.zero_le _) (Nat.zero_le _) ?_
      obtain ⟨w1, w2⟩ := inS h
      clear h
      subst w1
      subst w2
      exact g_sub [0] rfl k25
  clear h
  have h := h10
  clear h10
  refine g_if_ne B 30 dX10_readsLose_13 (by decide) (fun hc => ?_) (fun hc => ?_)
  · replace h := ifn hc h
    obtain ⟨w1, w2⟩ := inS h
    clear h
    subst w1
    subst w2
    exact g_sub [1, 0] rfl k12
  · replace h := ifp hc h
    refine g_aload_n B 1 dX10_readsLose_16 rfl rfl ?_
    refine g_iload_n B 0 dX10_readsLose_17 rfl rfl ?_
    replace h := bnP_s h
    obtain ⟨x14, h15, h⟩ := h
    refine g_callVs0 (st := []) B (cX10_statusOfc h15) (Nat.le_of_ble_eq_true rfl) rfl rfl mi_X10_statusOf lk_RX10_237 ⟨Nat.le_of_ble_eq_true rfl, Nat.le_of_ble_eq_true rfl⟩ rfl rfl (Nat.le_of_ble_eq_true rfl) dX10_readsLose_18 (Nat.zero_le _) (Nat.zero_le _) ?_
    refine g_iconst (v := 2) B dX10_readsLose_21 (by decide) ?_
    refine g_icmp_ne B 30 dX10_readsLose_22 (by decide) (fun hc => ?_) (fun hc => ?_)
    · replace h := ifn hc h
      obtain ⟨w1, w2⟩ := inS h
      clear h
      subst w1
      subst w2
      exact g_sub [1, 0] rfl k12
    · replace h := ifp hc h
      refine g_aload_n B 1 dX10_readsLose_25 rfl rfl ?_
      refine g_iconst (v := 3) B dX10_readsLose_26 (by decide) ?_
      replace h := bnP_s h
      obtain ⟨s18, h17, h⟩ := h
      refine g_callVv0 (st := []) B (cX10_faultsc h17) (Nat.le_of_ble_eq_true rfl) rfl rfl mi_X10_faults lk_RX10_115 ⟨Nat.le_of_ble_eq_true rfl, Nat.le_of_ble_eq_true rfl⟩ rfl rfl (Nat.le_of_ble_eq_true rfl) dX10_readsLose_27 (Nat.zero_le _) (Nat.zero_le _) ?_
      obtain ⟨w1, w2⟩ := inS h
      clear h
      subst w1
      subst w2
      exact g_sub [1, 0] rfl k12
set_option maxRecDepth 100000 in
set_option maxHeartbeats 4000000 in
theorem cX10_recoversc {l : Launch} {v0 : Option Nat} {v1 : Int32} {σ : HpT} {σ' : HpT} (h : fX10_recovers v0 v1 σ = some σ') : IsK σ v0 10 ∧ Ct l yX10_recovers cX10_recovers 3 none 2 42 [va_rf v0, .int v1] σ (.ok none) σ' 0 0 := by
  unfold fX10_recovers at h
  replace h := bnP_s h
  obtain ⟨u, hk, h⟩ := h
  replace hk := isK_s hk
  refine ⟨hk, ?_⟩
  refine ct_start mi_X10_recovers.1 rfl (al_le (al_1 (rf_cat _) (al_1 rfl al_n)) (Nat.le_of_ble_eq_true rfl)) (ag_1 (rf_cat _) (ag_1 rfl ag_n)) (fun Δ Γ B hE hnm => ?_)
  refine g_aload_n B 0 dX10_recovers_0 rfl rfl ?_
  refine g_iload_n B 1 dX10_recovers_1 rfl rfl ?_
  replace h := bnP_s h
  obtain ⟨x1, h2, h⟩ := h
  refine g_callVs0 (st := []) B (cX10_mateOfc h2) (Nat.le_of_ble_eq_true rfl) rfl rfl mi_X10_mateOf lk_RX10_166 ⟨Nat.le_of_ble_eq_true rfl, Nat.le_of_ble_eq_true rfl⟩ rfl rfl (Nat.le_of_ble_eq_true rfl) dX10_recovers_2 (Nat.zero_le _) (Nat.zero_le _) ?_
  refine g_istore_n B dX10_recovers_5 rfl (Nat.le_of_ble_eq_true rfl) (s1_c (f1_k rfl (f1_1 rfl rfl f1_n))) ?_
  refine g_aload_n B 1 dX10_recovers_6 rfl rfl ?_
  replace h := bnP_s h
  obtain ⟨x3, h4, h⟩ := h
  refine g_getR B fl_RX10_9 (by decide) dX10_recovers_7 h4 ?_
  refine g_bipush (v := 99) B dX10_recovers_10 (by decide) ?_
  refine g_iload_n B 2 dX10_recovers_12 rfl rfl ?_
  refine g_iadd B dX10_recovers_13 ?_
  refine g_iconst (v := 0) B dX10_recovers_14 (by decide) ?_
  replace h := bnP_s h
  obtain ⟨s7, h6, h⟩ := h
  refine g_iast B dX10_recovers_15 h6 ?_
  refine g_iload_n B 0 dX10_recovers_16 rfl rfl ?_
  refine g_iconst (v := (-1)) B dX10_recovers_17 (by decide) ?_
  refine g_icmp_eq B 40 dX10_recovers_18 (by decide) (fun hc => ?_) (fun hc => ?_)
  · replace h := ifp hc h
    replace h := Option.some.inj h
    subst h
    exact g_vret B hE (Nat.zero_le _) (Nat.zero_le _) dX10_recovers_40
  · replace h := ifn hc h
    refine g_aload_n B 1 dX10_recovers_21 rfl rfl ?_
    refine g_iload_n B 0 dX10_recovers_22 rfl rfl ?_
    replace h := bnP_s h
    obtain ⟨x8, h9, h⟩ := h
    refine g_callVs0 (st := []) B (cX10_statusOfc h9) (Nat.le_of_ble_eq_true rfl) rfl rfl mi_X10_statusOf lk_RX10_237 ⟨Nat.le_of_ble_eq_true rfl, Nat.le_of_ble_eq_true rfl⟩ rfl rfl (Nat.le_of_ble_eq_true rfl) dX10_recovers_23 (Nat.zero_le _) (Nat.zero_le _) ?_
    refine g_iconst (v := 1) B dX10_recovers_26 (by decide) ?_
    refine g_icmp_ne B 40 dX10_recovers_27 (by decide) (fun hc => ?_) (fun hc => ?_)
    · replace h := ifn hc h
      replace h := Option.some.inj h
      subst h
      exact g_vret B hE (Nat.zero_le _) (Nat.zero_le _) dX10_recovers_40
    · replace h := ifp hc h
      refine g_aload_n B 1 dX10_recovers_30 rfl rfl ?_
      replace h := bnP_s h
      obtain ⟨x10, h11, h⟩ := h
      refine g_getR B fl_RX10_9 (by decide) dX10_recovers_31 h11 ?_
      refine g_bipush (v := 99) B dX10_recovers_34 (by decide) ?_
      refine g_iload_n B 0 dX10_recovers_36 rfl rfl ?_
      refine g_iadd B dX10_recovers_37 ?_
      refine g_iconst (v := 0) B dX10_recovers_38 (by decide) ?_
      replace h := bnP_s h
      obtain ⟨s14, h13, h⟩ := h
      refine g_iast B dX10_recovers_39 h13 ?_
      replace h := Option.some.inj h
      subst h
      exact g_vret B hE (Nat.zero_le _) (Nat.zero_le _) dX10_recovers_40
set_option maxRecDepth 100000 in
set_option maxHeartbeats 4000000 in
theorem cX10_readsFindc {l : Launch} {v0 : Option Nat} {σ : HpT} {σ' : HpT} (h : fX10_readsFind v0 σ = some σ') : IsK σ v0 10 ∧ Ct l yX10_readsFind cX10_readsFind 2 none 3 64 [va_rf v0] σ (.ok none) σ' 0 0 := by
  unfold fX10_readsFind at h
  replace h := bnP_s h
  obtain ⟨u, hk, h⟩ := h
  replace hk := isK_s hk
  refine ⟨hk, ?_⟩
  refine ct_start mi_X10_readsFind.1 rfl (al_le (al_1 (rf_cat _) al_n) (Nat.le_of_ble_eq_true rfl)) (ag_1 (rf_cat _) ag_n) (fun Δ Γ B hE hnm => ?_)
  refine g_aload_n B 0 dX10_readsFind_0 rfl rfl ?_
  replace h := bnP_s h
  obtain ⟨s3, h2, h⟩ := h
  refine g_callVv0 (st := []) B (cX10_goesc h2) (Nat.le_of_ble_eq_true rfl) rfl rfl mi_X10_goes lk_RX10_122 ⟨Nat.le_of_ble_eq_true rfl, Nat.le_of_ble_eq_true rfl⟩ rfl rfl (Nat.le_of_ble_eq_true rfl) dX10_readsFind_1 (Nat.zero_le _) (Nat.zero_le _) ?_
  refine g_aload_n B 0 dX10_readsFind_4 rfl rfl ?_
  replace h := bnS_s h
  obtain ⟨x4, s6, h5, h⟩ := h
  refine g_callVs0 (st := []) B (cX10_leafHerec h5) (Nat.le_of_ble_eq_true rfl) rfl rfl mi_X10_leafHere lk_RX10_234 ⟨Nat.le_of_ble_eq_true rfl, Nat.le_of_ble_eq_true rfl⟩ rfl rfl (Nat.le_of_ble_eq_true rfl) dX10_readsFind_5 (Nat.zero_le _) (Nat.zero_le _) ?_
  refine g_istore_n B dX10_readsFind_8 rfl (Nat.le_of_ble_eq_true rfl) (s1_c (f1_1 rfl (rf_cat _) f1_n)) ?_
  refine g_aload_n B 1 dX10_readsFind_9 rfl rfl ?_
  replace h := bnP_s h
  obtain ⟨x7, h8, h⟩ := h
  refine g_getI B fl_RX10_73 (by decide) dX10_readsFind_10 h8 ?_
  replace h := bnS_s h
  obtain ⟨j9, s19, h10, h⟩ := h
  have k12 : GW Δ Γ (0) (0) 30 [(0, va_rf v0), (1, .int x4)] [] s19 := by
    refine g_aload_n B 0 dX10_readsFind_30 rfl rfl ?_
    replace h := bnP_s h
    obtain ⟨x20, h21, h⟩ := h
    refine g_getI B fl_RX10_73 (by decide) dX10_readsFind_31 h21 ?_
    replace h := bnS_s h
    obtain ⟨j22, s30, h23, h⟩ := h
    have k25 : GW Δ Γ (0) (0) 42 [(0, va_rf v0)] [] s30 := by
      refine g_aload_n B 0 dX10_readsFind_42 rfl rfl ?_
      replace h := bnP_s h
      obtain ⟨s33, h32, h⟩ := h
      refine g_callVv0 (st := []) B (cX10_goesc h32) (Nat.le_of_ble_eq_true rfl) rfl rfl mi_X10_goes lk_RX10_122 ⟨Nat.le_of_ble_eq_true rfl, Nat.le_of_ble_eq_true rfl⟩ rfl rfl (Nat.le_of_ble_eq_true rfl) dX10_readsFind_43 (Nat.zero_le _) (Nat.zero_le _) ?_
      replace h := Option.some.inj h
      subst h
      exact g_vret B hE (Nat.zero_le _) (Nat.zero_le _) dX10_readsFind_46
    clear h
    have h := h23
    clear h23
    refine g_if_ne B 42 dX10_readsFind_34 (by decide) (fun hc => ?_) (fun hc => ?_)
    · replace h := ifn hc h
      obtain ⟨w1, w2⟩ := inS h
      clear h
      subst w1
      subst w2
      exact g_sub [0] rfl k25
    · replace h := ifp hc h
      refine g_aload_n B 0 dX10_readsFind_37 rfl rfl ?_
      refine g_iload_n B 1 dX10_readsFind_38 rfl rfl ?_
      replace h := bnP_s h
      obtain ⟨s29, h28, h⟩ := h
      refine g_callVv0 (st := []) B (cX10_recoversc h28) (Nat.le_of_ble_eq_true rfl) rfl rfl mi_X10_recovers lk_RX10_243 ⟨Nat.le_of_ble_eq_true rfl, Nat.le_of_ble_eq_true rfl⟩ rfl rfl (Nat.le_of_ble_eq_true rfl) dX10_readsFind_39 (Nat.zero_le _) (Nat.zero_le _) ?_
      obtain ⟨w1, w2⟩ := inS h
      clear h
      subst w1
      subst w2
      exact g_sub [0] rfl k25
  clear h
  have h := h10
  clear h10
  refine g_if_ne B 30 dX10_readsFind_13 (by decide) (fun hc => ?_) (fun hc => ?_)
  · replace h := ifn hc h
    obtain ⟨w1, w2⟩ := inS h
    clear h
    subst w1
    subst w2
    exact g_sub [1, 0] rfl k12
  · replace h := ifp hc h
    refine g_aload_n B 1 dX10_readsFind_16 rfl rfl ?_
    refine g_iload_n B 0 dX10_readsFind_17 rfl rfl ?_
    replace h := bnP_s h
    obtain ⟨x14, h15, h⟩ := h
    refine g_callVs0 (st := []) B (cX10_statusOfc h15) (Nat.le_of_ble_eq_true rfl) rfl rfl mi_X10_statusOf lk_RX10_237 ⟨Nat.le_of_ble_eq_true rfl, Nat.le_of_ble_eq_true rfl⟩ rfl rfl (Nat.le_of_ble_eq_true rfl) dX10_readsFind_18 (Nat.zero_le _) (Nat.zero_le _) ?_
    refine g_iconst (v := 2) B dX10_readsFind_21 (by decide) ?_
    refine g_icmp_eq B 30 dX10_readsFind_22 (by decide) (fun hc => ?_) (fun hc => ?_)
    · replace h := ifp hc h
      obtain ⟨w1, w2⟩ := inS h
      clear h
      subst w1
      subst w2
      exact g_sub [1, 0] rfl k12
    · replace h := ifn hc h
      refine g_aload_n B 1 dX10_readsFind_25 rfl rfl ?_
      refine g_iconst (v := 3) B dX10_readsFind_26 (by decide) ?_
      replace h := bnP_s h
      obtain ⟨s18, h17, h⟩ := h
      refine g_callVv0 (st := []) B (cX10_faultsc h17) (Nat.le_of_ble_eq_true rfl) rfl rfl mi_X10_faults lk_RX10_115 ⟨Nat.le_of_ble_eq_true rfl, Nat.le_of_ble_eq_true rfl⟩ rfl rfl (Nat.le_of_ble_eq_true rfl) dX10_readsFind_27 (Nat.zero_le _) (Nat.zero_le _) ?_
      obtain ⟨w1, w2⟩ := inS h
      clear h
      subst w1
      subst w2
      exact g_sub [1, 0] rfl k12
set_option maxRecDepth 100000 in
set_option maxHeartbeats 4000000 in
theorem cX10_readsSewc {l : Launch} {v0 : Option Nat} {σ : HpT} {σ' : HpT} (h : fX10_readsSew v0 σ = some σ') : IsK σ v0 10 ∧ Ct l yX10_readsSew cX10_readsSew 2 none 3 64 [va_rf v0] σ (.ok none) σ' 0 0 := by
  unfold fX10_readsSew at h
  replace h := bnP_s h
  obtain ⟨u, hk, h⟩ := h
  replace hk := isK_s hk
  refine ⟨hk, ?_⟩
  refine ct_start mi_X10_readsSew.1 rfl (al_le (al_1 (rf_cat _) al_n) (Nat.le_of_ble_eq_true rfl)) (ag_1 (rf_cat _) ag_n) (fun Δ Γ B hE hnm => ?_)
  refine g_aload_n B 0 dX10_readsSew_0 rfl rfl ?_
  replace h := bnP_s h
  obtain ⟨s3, h2, h⟩ := h
  refine g_callVv0 (st := []) B (cX10_goesc h2) (Nat.le_of_ble_eq_true rfl) rfl rfl mi_X10_goes lk_RX10_122 ⟨Nat.le_of_ble_eq_true rfl, Nat.le_of_ble_eq_true rfl⟩ rfl rfl (Nat.le_of_ble_eq_true rfl) dX10_readsSew_1 (Nat.zero_le _) (Nat.zero_le _) ?_
  refine g_aload_n B 0 dX10_readsSew_4 rfl rfl ?_
  replace h := bnS_s h
  obtain ⟨x4, s6, h5, h⟩ := h
  refine g_callVs0 (st := []) B (cX10_leafHerec h5) (Nat.le_of_ble_eq_true rfl) rfl rfl mi_X10_leafHere lk_RX10_234 ⟨Nat.le_of_ble_eq_true rfl, Nat.le_of_ble_eq_true rfl⟩ rfl rfl (Nat.le_of_ble_eq_true rfl) dX10_readsSew_5 (Nat.zero_le _) (Nat.zero_le _) ?_
  refine g_istore_n B dX10_readsSew_8 rfl (Nat.le_of_ble_eq_true rfl) (s1_c (f1_1 rfl (rf_cat _) f1_n)) ?_
  refine g_aload_n B 1 dX10_readsSew_9 rfl rfl ?_
  replace h := bnP_s h
  obtain ⟨x7, h8, h⟩ := h
  refine g_getI B fl_RX10_73 (by decide) dX10_readsSew_10 h8 ?_
  replace h := bnS_s h
  obtain ⟨j9, s19, h10, h⟩ := h
  have k12 : GW Δ Γ (0) (0) 30 [(0, va_rf v0), (1, .int x4)] [] s19 := by
    refine g_aload_n B 0 dX10_readsSew_30 rfl rfl ?_
    replace h := bnP_s h
    obtain ⟨x20, h21, h⟩ := h
    refine g_getI B fl_RX10_73 (by decide) dX10_readsSew_31 h21 ?_
    replace h := bnS_s h
    obtain ⟨j22, s32, h23, h⟩ := h
    have k25 : GW Δ Γ (0) (0) 47 [(0, va_rf v0)] [] s32 := by
      refine g_aload_n B 0 dX10_readsSew_47 rfl rfl ?_
      replace h := bnP_s h
      obtain ⟨s35, h34, h⟩ := h
      refine g_callVv0 (st := []) B (cX10_goesc h34) (Nat.le_of_ble_eq_true rfl) rfl rfl mi_X10_goes lk_RX10_122 ⟨Nat.le_of_ble_eq_true rfl, Nat.le_of_ble_eq_true rfl⟩ rfl rfl (Nat.le_of_ble_eq_true rfl) dX10_readsSew_48 (Nat.zero_le _) (Nat.zero_le _) ?_
      replace h := Option.some.inj h
      subst h
      exact g_vret B hE (Nat.zero_le _) (Nat.zero_le _) dX10_readsSew_51
    clear h
    have h := h23
    clear h23
    refine g_if_ne B 47 dX10_readsSew_34 (by decide) (fun hc => ?_) (fun hc => ?_)
    · replace h := ifn hc h
      obtain ⟨w1, w2⟩ := inS h
      clear h
      subst w1
      subst w2
      exact g_sub [0] rfl k25
    · replace h := ifp hc h
      refine g_aload_n B 0 dX10_readsSew_37 rfl rfl ?_
      replace h := bnP_s h
      obtain ⟨x27, h28, h⟩ := h
      refine g_getR B fl_RX10_9 (by decide) dX10_readsSew_38 h28 ?_
      refine g_bipush (v := 99) B dX10_readsSew_41 (by decide) ?_
      refine g_iload_n B 1 dX10_readsSew_43 rfl rfl ?_
      refine g_iadd B dX10_readsSew_44 ?_
      refine g_iconst (v := 0) B dX10_readsSew_45 (by decide) ?_
      replace h := bnP_s h
      obtain ⟨s31, h30, h⟩ := h
      refine g_iast B dX10_readsSew_46 h30 ?_
      obtain ⟨w1, w2⟩ := inS h
      clear h
      subst w1
      subst w2
      exact g_sub [0] rfl k25
  clear h
  have h := h10
  clear h10
  refine g_if_ne B 30 dX10_readsSew_13 (by decide) (fun hc => ?_) (fun hc => ?_)
  · replace h := ifn hc h
    obtain ⟨w1, w2⟩ := inS h
    clear h
    subst w1
    subst w2
    exact g_sub [1, 0] rfl k12
  · replace h := ifp hc h
    refine g_aload_n B 1 dX10_readsSew_16 rfl rfl ?_
    refine g_iload_n B 0 dX10_readsSew_17 rfl rfl ?_
    replace h := bnP_s h
    obtain ⟨x14, h15, h⟩ := h
    refine g_callVs0 (st := []) B (cX10_statusOfc h15) (Nat.le_of_ble_eq_true rfl) rfl rfl mi_X10_statusOf lk_RX10_237 ⟨Nat.le_of_ble_eq_true rfl, Nat.le_of_ble_eq_true rfl⟩ rfl rfl (Nat.le_of_ble_eq_true rfl) dX10_readsSew_18 (Nat.zero_le _) (Nat.zero_le _) ?_
    refine g_iconst (v := 1) B dX10_readsSew_21 (by decide) ?_
    refine g_icmp_eq B 30 dX10_readsSew_22 (by decide) (fun hc => ?_) (fun hc => ?_)
    · replace h := ifp hc h
      obtain ⟨w1, w2⟩ := inS h
      clear h
      subst w1
      subst w2
      exact g_sub [1, 0] rfl k12
    · replace h := ifn hc h
      refine g_aload_n B 1 dX10_readsSew_25 rfl rfl ?_
      refine g_iconst (v := 3) B dX10_readsSew_26 (by decide) ?_
      replace h := bnP_s h
      obtain ⟨s18, h17, h⟩ := h
      refine g_callVv0 (st := []) B (cX10_faultsc h17) (Nat.le_of_ble_eq_true rfl) rfl rfl mi_X10_faults lk_RX10_115 ⟨Nat.le_of_ble_eq_true rfl, Nat.le_of_ble_eq_true rfl⟩ rfl rfl (Nat.le_of_ble_eq_true rfl) dX10_readsSew_27 (Nat.zero_le _) (Nat.zero_le _) ?_
      obtain ⟨w1, w2⟩ := inS h
      clear h
      subst w1
      subst w2
      exact g_sub [1, 0] rfl k12
set_option maxRecDepth 100000 in
set_option maxHeartbeats 4000000 in
theorem cX10_shakesc {l : Launch} {v0 : Option Nat} {σ : HpT} {r : Int32} {σ' : HpT} (h : fX10_shakes v0 σ = some (r, σ')) : IsK σ v0 10 ∧ Ct l yX10_shakes cX10_shakes 3 (some .int) 3 64 [va_rf v0] σ (.ok (some (.int r))) σ' 0 0 := by
  unfold fX10_shakes at h
  replace h := bnP_s h
  obtain ⟨u, hk, h⟩ := h
  replace hk := isK_s hk
  refine ⟨hk, ?_⟩
  refine ct_start mi_X10_shakes.1 rfl (al_le (al_1 (rf_cat _) al_n) (Nat.le_of_ble_eq_true rfl)) (ag_1 (rf_cat _) ag_n) (fun Δ Γ B hE hnm => ?_)
  refine g_iconst (v := 0) B dX10_shakes_0 (by decide) ?_
  refine g_istore_n B dX10_shakes_1 rfl (Nat.le_of_ble_eq_true rfl) (s1_c (f1_1 rfl (rf_cat _) f1_n)) ?_
  refine g_iconst (v := 0) B dX10_shakes_2 (by decide) ?_
  refine g_istore_n B dX10_shakes_3 rfl (Nat.le_of_ble_eq_true rfl) (s1_c (f1_1 rfl rfl (f1_k rfl f1_n))) ?_
  replace h := bnS_s h
  obtain ⟨r2, s40, h3, h⟩ := h
  have kE4 : GW Δ Γ (0) (0) 69 [(0, va_rf v0), (1, .int r2)] [] s40 := by
    refine g_iconst (v := 0) B dX10_shakes_69 (by decide) ?_
    refine g_istore_n B dX10_shakes_70 rfl (Nat.le_of_ble_eq_true rfl) (s1_c (f1_k rfl (f1_1 rfl rfl f1_n))) ?_
    replace h := bnS_s h
    obtain ⟨r42, s60, h43, h⟩ := h
    have kE44 : GW Δ Γ (0) (0) 99 [(1, .int r2)] [] s60 := by
      refine g_iload_n B 0 dX10_shakes_99 rfl rfl ?_
      obtain ⟨w1, w2⟩ := inS h
      clear h
      subst w1
      subst w2
      exact g_iret B hE (Nat.zero_le _) (Nat.zero_le _) dX10_shakes_100
    clear h
    refine g_sub [1, 2, 0] rfl ?_
    refine lpS_w (I := fun q41 s50 => GW Δ Γ (0) (0) 71 [(0, va_rf v0), (1, .int r2), (2, .int q41)] [] s50) (r := r42) (σr := s60) ?_ FUEL 0 s40 h43
    intro q41 s50 x48 s9 h hI46 hR47
    unfold fX10_shakes_l2 at h
    refine g_iload_n B 2 dX10_shakes_71 rfl rfl ?_
    refine g_aload_n B 0 dX10_shakes_72 rfl rfl ?_
    replace h := bnP_s h
    obtain ⟨x51, h52, h⟩ := h
    refine g_callVs0 (st := [.int q41]) B (cX10_leavesc h52) (Nat.le_of_ble_eq_true rfl) rfl rfl mi_X10_leaves lk_RX10_231 ⟨Nat.le_of_ble_eq_true rfl, Nat.le_of_ble_eq_true rfl⟩ rfl rfl (Nat.le_of_ble_eq_true rfl) dX10_shakes_73 (Nat.zero_le _) (Nat.zero_le _) ?_
    refine g_icmp_ge B 99 dX10_shakes_76 (by decide) (fun hc => ?_) (fun hc => ?_)
    · replace h := ifp hc h
      obtain ⟨w1, w2⟩ := inS h
      clear h
      subst w1
      subst w2
      obtain ⟨e8, e7⟩ := hR47 _ rfl
      subst e8
      subst e7
      exact g_sub [1] rfl kE44
    · replace h := ifn hc h
      refine g_aload_n B 0 dX10_shakes_79 rfl rfl ?_
      replace h := bnP_s h
      obtain ⟨x53, h54, h⟩ := h
      refine g_getR B fl_RX10_35 (by decide) dX10_shakes_80 h54 ?_
      refine g_iload_n B 2 dX10_shakes_83 rfl rfl ?_
      replace h := bnP_s h
      obtain ⟨x55, h56, h⟩ := h
      refine g_zald B dX10_shakes_84 h56 ?_
      refine g_if_eq B 93 dX10_shakes_85 (by decide) (fun hc => ?_) (fun hc => ?_)
      · replace h := ifp hc h
        refine g_iinc (v := (q41 + 1)) B 2 dX10_shakes_93 rfl (by first | rfl | (congr 1; decide)) (Nat.le_of_ble_eq_true rfl) (s1_c (f1_k rfl (f1_1 rfl rfl (f1_x f1_n)))) ?_
        refine g_goto B 71 dX10_shakes_96 (by decide) ?_
        obtain ⟨w1, w2⟩ := inS h
        clear h
        subst w1
        subst w2
        exact g_sub [1, 2, 0] rfl (hI46 _ rfl)
      · replace h := ifn hc h
        refine g_aload_n B 0 dX10_shakes_88 rfl rfl ?_
        refine g_iload_n B 2 dX10_shakes_89 rfl rfl ?_
        replace h := bnP_s h
        obtain ⟨s59, h58, h⟩ := h
        refine g_callVv0 (st := []) B (cX10_loosensc h58) (Nat.le_of_ble_eq_true rfl) rfl rfl mi_X10_loosens lk_RX10_346 ⟨Nat.le_of_ble_eq_true rfl, Nat.le_of_ble_eq_true rfl⟩ rfl rfl (Nat.le_of_ble_eq_true rfl) dX10_shakes_90 (Nat.zero_le _) (Nat.zero_le _) ?_
        refine g_iinc (v := (q41 + 1)) B 2 dX10_shakes_93 rfl (by first | rfl | (congr 1; decide)) (Nat.le_of_ble_eq_true rfl) (s1_c (f1_k rfl (f1_1 rfl rfl (f1_x f1_n)))) ?_
        refine g_goto B 71 dX10_shakes_96 (by decide) ?_
        obtain ⟨w1, w2⟩ := inS h
        clear h
        subst w1
        subst w2
        exact g_sub [1, 2, 0] rfl (hI46 _ rfl)
  clear h
  refine g_sub [2, 1, 0] rfl ?_
  refine lpS_w (I := fun q1 s10 => GW Δ Γ (0) (0) 4 [(0, va_rf v0), (1, .int q1.1), (2, .int q1.2)] [] s10) (r := r2) (σr := s40) ?_ FUEL (0, 0) σ h3
  intro q1 s10 x8 s9 h hI6 hR7
  unfold fX10_shakes_l1 at h
  refine g_iload_n B 2 dX10_shakes_4 rfl rfl ?_
  refine g_aload_n B 0 dX10_shakes_5 rfl rfl ?_
  replace h := bnP_s h
  obtain ⟨x11, h12, h⟩ := h
  refine g_callVs0 (st := [.int q1.2]) B (cX10_leavesc h12) (Nat.le_of_ble_eq_true rfl) rfl rfl mi_X10_leaves lk_RX10_231 ⟨Nat.le_of_ble_eq_true rfl, Nat.le_of_ble_eq_true rfl⟩ rfl rfl (Nat.le_of_ble_eq_true rfl) dX10_shakes_6 (Nat.zero_le _) (Nat.zero_le _) ?_
  refine g_icmp_ge B 69 dX10_shakes_9 (by decide) (fun hc => ?_) (fun hc => ?_)
  · replace h := ifp hc h
    obtain ⟨w1, w2⟩ := inS h
    clear h
    subst w1
    subst w2
    obtain ⟨e8, e7⟩ := hR7 _ rfl
    subst e8
    subst e7
    exact g_sub [0, 1] rfl kE4
  · replace h := ifn hc h
    refine g_aload_n B 0 dX10_shakes_12 rfl rfl ?_
    replace h := bnP_s h
    obtain ⟨x13, h14, h⟩ := h
    refine g_getR B fl_RX10_35 (by decide) dX10_shakes_13 h14 ?_
    refine g_iload_n B 2 dX10_shakes_16 rfl rfl ?_
    refine g_aload_n B 0 dX10_shakes_17 rfl rfl ?_
    refine g_iload_n B 2 dX10_shakes_18 rfl rfl ?_
    replace h := bnP_s h
    obtain ⟨x15, h16, h⟩ := h
    refine g_callVs0 (st := [.int q1.2, va_rf x13]) B (cX10_statusOfc h16) (Nat.le_of_ble_eq_true rfl) rfl rfl mi_X10_statusOf lk_RX10_237 ⟨Nat.le_of_ble_eq_true rfl, Nat.le_of_ble_eq_true rfl⟩ rfl rfl (Nat.le_of_ble_eq_true rfl) dX10_shakes_19 (Nat.zero_le _) (Nat.zero_le _) ?_
    refine g_iconst (v := 1) B dX10_shakes_22 (by decide) ?_
    replace h := bnP_s h
    obtain ⟨j17, h18, h⟩ := h
    have k20 : GW Δ Γ (0) (0) 31 [(0, va_rf v0), (1, .int q1.1), (2, .int q1.2)] [.int j17.2.2, .int j17.2.1, va_rf j17.1] s10 := by
      replace h := bnP_s h
      obtain ⟨s24, h23, h⟩ := h
      refine g_zast B dX10_shakes_31 h23 ?_
      refine g_iload_n B 1 dX10_shakes_32 rfl rfl ?_
      refine g_aload_n B 0 dX10_shakes_33 rfl rfl ?_
      replace h := bnP_s h
      obtain ⟨x25, h26, h⟩ := h
      refine g_getR B fl_RX10_35 (by decide) dX10_shakes_34 h26 ?_
      refine g_iload_n B 2 dX10_shakes_37 rfl rfl ?_
      replace h := bnP_s h
      obtain ⟨x27, h28, h⟩ := h
      refine g_zald B dX10_shakes_38 h28 ?_
      replace h := bnP_s h
      obtain ⟨x29, h30, h⟩ := h
      refine g_callSs0 (st := [.int q1.1]) B (cX10_onec h30) mi_X10_one lk_RX10_333 ⟨Nat.le_of_ble_eq_true rfl, Nat.le_of_ble_eq_true rfl⟩ rfl rfl (Nat.le_of_ble_eq_true rfl) dX10_shakes_39 (Nat.zero_le _) (Nat.zero_le _) ?_
      refine g_iadd B dX10_shakes_42 ?_
      refine g_istore_n B dX10_shakes_43 rfl (Nat.le_of_ble_eq_true rfl) (s1_c (f1_1 rfl (rf_cat _) (f1_x (f1_k rfl f1_n)))) ?_
      refine g_aload_n B 1 dX10_shakes_44 rfl rfl ?_
      replace h := bnP_s h
      obtain ⟨x31, h32, h⟩ := h
      refine g_getR B fl_RX10_35 (by decide) dX10_shakes_45 h32 ?_
      refine g_iload_n B 2 dX10_shakes_48 rfl rfl ?_
      replace h := bnP_s h
      obtain ⟨x33, h34, h⟩ := h
      refine g_zald B dX10_shakes_49 h34 ?_
      refine g_if_eq B 63 dX10_shakes_50 (by decide) (fun hc => ?_) (fun hc => ?_)
      · replace h := ifp hc h
        refine g_iinc (v := (q1.2 + 1)) B 2 dX10_shakes_63 rfl (by first | rfl | (congr 1; decide)) (Nat.le_of_ble_eq_true rfl) (s1_c (f1_1 rfl rfl (f1_k rfl (f1_x f1_n)))) ?_
        refine g_goto B 4 dX10_shakes_66 (by decide) ?_
        obtain ⟨w1, w2⟩ := inS h
        clear h
        subst w1
        subst w2
        exact g_sub [2, 1, 0] rfl (hI6 _ rfl)
      · replace h := ifn hc h
        refine g_aload_n B 1 dX10_shakes_53 rfl rfl ?_
        replace h := bnP_s h
        obtain ⟨x35, h36, h⟩ := h
        refine g_getR B fl_RX10_9 (by decide) dX10_shakes_54 h36 ?_
        refine g_bipush (v := 99) B dX10_shakes_57 (by decide) ?_
        refine g_iload_n B 2 dX10_shakes_59 rfl rfl ?_
        refine g_iadd B dX10_shakes_60 ?_
        refine g_iconst (v := 2) B dX10_shakes_61 (by decide) ?_
        replace h := bnP_s h
        obtain ⟨s39, h38, h⟩ := h
        refine g_iast B dX10_shakes_62 h38 ?_
        refine g_iinc (v := (q1.2 + 1)) B 2 dX10_shakes_63 rfl (by first | rfl | (congr 1; decide)) (Nat.le_of_ble_eq_true rfl) (s1_c (f1_1 rfl rfl (f1_k rfl (f1_x f1_n)))) ?_
        refine g_goto B 4 dX10_shakes_66 (by decide) ?_
        obtain ⟨w1, w2⟩ := inS h
        clear h
        subst w1
        subst w2
        exact g_sub [2, 1, 0] rfl (hI6 _ rfl)
    clear h
    have h := h18
    clear h18
    refine g_icmp_ne B 30 dX10_shakes_23 (by decide) (fun hc => ?_) (fun hc => ?_)
    · replace h := ifn hc h
      refine g_iconst (v := 0) B dX10_shakes_30 (by decide) ?_
      replace h := Option.some.inj h
      subst h
      exact g_sub [0, 1, 2] rfl k20
    · replace h := ifp hc h
      refine g_iconst (v := 1) B dX10_shakes_26 (by decide) ?_
      refine g_goto B 31 dX10_shakes_27 (by decide) ?_
      replace h := Option.some.inj h
      subst h
      exact g_sub [0, 1, 2] rfl k20
set_option maxRecDepth 100000 in
set_option maxHeartbeats 4000000 in
theorem cX10_readsShakec {l : Launch} {v0 : Option Nat} {σ : HpT} {σ' : HpT} (h : fX10_readsShake v0 σ = some σ') : IsK σ v0 10 ∧ Ct l yX10_readsShake cX10_readsShake 2 none 4 86 [va_rf v0] σ (.ok none) σ' 0 0 := by
  unfold fX10_readsShake at h
  replace h := bnP_s h
  obtain ⟨u, hk, h⟩ := h
  replace hk := isK_s hk
  refine ⟨hk, ?_⟩
  refine ct_start mi_X10_readsShake.1 rfl (al_le (al_1 (rf_cat _) al_n) (Nat.le_of_ble_eq_true rfl)) (ag_1 (rf_cat _) ag_n) (fun Δ Γ B hE hnm => ?_)
  refine g_aload_n B 0 dX10_readsShake_0 rfl rfl ?_
  replace h := bnS_s h
  obtain ⟨x1, s3, h2, h⟩ := h
  refine g_callVs0 (st := []) B (cX10_shakesc h2) (Nat.le_of_ble_eq_true rfl) rfl rfl mi_X10_shakes lk_RX10_246 ⟨Nat.le_of_ble_eq_true rfl, Nat.le_of_ble_eq_true rfl⟩ rfl rfl (Nat.le_of_ble_eq_true rfl) dX10_readsShake_1 (Nat.zero_le _) (Nat.zero_le _) ?_
  refine g_istore_n B dX10_readsShake_4 rfl (Nat.le_of_ble_eq_true rfl) (s1_c (f1_1 rfl (rf_cat _) f1_n)) ?_
  refine g_aload_n B 1 dX10_readsShake_5 rfl rfl ?_
  replace h := bnP_s h
  obtain ⟨s6, h5, h⟩ := h
  refine g_callVv0 (st := []) B (cX10_goesc h5) (Nat.le_of_ble_eq_true rfl) rfl rfl mi_X10_goes lk_RX10_122 ⟨Nat.le_of_ble_eq_true rfl, Nat.le_of_ble_eq_true rfl⟩ rfl rfl (Nat.le_of_ble_eq_true rfl) dX10_readsShake_6 (Nat.zero_le _) (Nat.zero_le _) ?_
  replace h := Option.some.inj h
  subst h
  exact g_vret B hE (Nat.zero_le _) (Nat.zero_le _) dX10_readsShake_9
set_option maxRecDepth 100000 in
set_option maxHeartbeats 4000000 in
theorem cX10_readsLeafLinec {l : Launch} {v0 : Option Nat} {σ : HpT} {σ' : HpT} (h : fX10_readsLeafLine v0 σ = some σ') : IsK σ v0 10 ∧ Ct l yX10_readsLeafLine cX10_readsLeafLine 1 none 5 107 [va_rf v0] σ (.ok none) σ' 0 0 := by
  unfold fX10_readsLeafLine at h
  replace h := bnP_s h
  obtain ⟨u, hk, h⟩ := h
  replace hk := isK_s hk
  refine ⟨hk, ?_⟩
  refine ct_start mi_X10_readsLeafLine.1 rfl (al_le (al_1 (rf_cat _) al_n) (Nat.le_of_ble_eq_true rfl)) (ag_1 (rf_cat _) ag_n) (fun Δ Γ B hE hnm => ?_)
  refine g_aload_n B 0 dX10_readsLeafLine_0 rfl rfl ?_
  refine g_ldcSW B (j := 56) rfl dX10_readsLeafLine_1 ?_
  replace h := bnP_s h
  obtain ⟨x1, h2, h⟩ := h
  refine g_callVs0 (st := []) B (cX10_isWordc h2) (Nat.le_of_ble_eq_true rfl) rfl rfl mi_X10_isWord lk_RX10_171 ⟨Nat.le_of_ble_eq_true rfl, Nat.le_of_ble_eq_true rfl⟩ rfl rfl (Nat.le_of_ble_eq_true rfl) dX10_readsLeafLine_4 (Nat.zero_le _) (Nat.zero_le _) ?_
  refine g_if_eq B 17 dX10_readsLeafLine_7 (by decide) (fun hc => ?_) (fun hc => ?_)
  · replace h := ifn (bI0 hc) h
    refine g_aload_n B 0 dX10_readsLeafLine_17 rfl rfl ?_
    refine g_ldcSW B (j := 57) rfl dX10_readsLeafLine_18 ?_
    replace h := bnP_s h
    obtain ⟨x3, h4, h⟩ := h
    refine g_callVs0 (st := []) B (cX10_isWordc h4) (Nat.le_of_ble_eq_true rfl) rfl rfl mi_X10_isWord lk_RX10_171 ⟨Nat.le_of_ble_eq_true rfl, Nat.le_of_ble_eq_true rfl⟩ rfl rfl (Nat.le_of_ble_eq_true rfl) dX10_readsLeafLine_21 (Nat.zero_le _) (Nat.zero_le _) ?_
    refine g_if_eq B 34 dX10_readsLeafLine_24 (by decide) (fun hc => ?_) (fun hc => ?_)
    · replace h := ifn (bI0 hc) h
      refine g_aload_n B 0 dX10_readsLeafLine_34 rfl rfl ?_
      refine g_ldcSW B (j := 58) rfl dX10_readsLeafLine_35 ?_
      replace h := bnP_s h
      obtain ⟨x5, h6, h⟩ := h
      refine g_callVs0 (st := []) B (cX10_isWordc h6) (Nat.le_of_ble_eq_true rfl) rfl rfl mi_X10_isWord lk_RX10_171 ⟨Nat.le_of_ble_eq_true rfl, Nat.le_of_ble_eq_true rfl⟩ rfl rfl (Nat.le_of_ble_eq_true rfl) dX10_readsLeafLine_38 (Nat.zero_le _) (Nat.zero_le _) ?_
      refine g_if_eq B 51 dX10_readsLeafLine_41 (by decide) (fun hc => ?_) (fun hc => ?_)
      · replace h := ifn (bI0 hc) h
        refine g_aload_n B 0 dX10_readsLeafLine_51 rfl rfl ?_
        refine g_ldcSW B (j := 59) rfl dX10_readsLeafLine_52 ?_
        replace h := bnP_s h
        obtain ⟨x7, h8, h⟩ := h
        refine g_callVs0 (st := []) B (cX10_isWordc h8) (Nat.le_of_ble_eq_true rfl) rfl rfl mi_X10_isWord lk_RX10_171 ⟨Nat.le_of_ble_eq_true rfl, Nat.le_of_ble_eq_true rfl⟩ rfl rfl (Nat.le_of_ble_eq_true rfl) dX10_readsLeafLine_55 (Nat.zero_le _) (Nat.zero_le _) ?_
        refine g_if_eq B 68 dX10_readsLeafLine_58 (by decide) (fun hc => ?_) (fun hc => ?_)
        · replace h := ifn (bI0 hc) h
          refine g_aload_n B 0 dX10_readsLeafLine_68 rfl rfl ?_
          refine g_iconst (v := 1) B dX10_readsLeafLine_69 (by decide) ?_
          replace h := bnP_s h
          obtain ⟨s11, h10, h⟩ := h
          refine g_callVv0 (st := []) B (cX10_faultsc h10) (Nat.le_of_ble_eq_true rfl) rfl rfl mi_X10_faults lk_RX10_115 ⟨Nat.le_of_ble_eq_true rfl, Nat.le_of_ble_eq_true rfl⟩ rfl rfl (Nat.le_of_ble_eq_true rfl) dX10_readsLeafLine_70 (Nat.zero_le _) (Nat.zero_le _) ?_
          replace h := Option.some.inj h
          subst h
          exact g_vret B hE (Nat.zero_le _) (Nat.zero_le _) dX10_readsLeafLine_73
        · replace h := ifp (bI1 hc) h
          refine g_aload_n B 0 dX10_readsLeafLine_61 rfl rfl ?_
          replace h := bnP_s h
          obtain ⟨s14, h13, h⟩ := h
          refine g_callVv0 (st := []) B (cX10_readsShakec h13) (Nat.le_of_ble_eq_true rfl) rfl rfl mi_X10_readsShake lk_RX10_304 ⟨Nat.le_of_ble_eq_true rfl, Nat.le_of_ble_eq_true rfl⟩ rfl rfl (Nat.le_of_ble_eq_true rfl) dX10_readsLeafLine_62 (Nat.zero_le _) (Nat.zero_le _) ?_
          refine g_goto B 73 dX10_readsLeafLine_65 (by decide) ?_
          replace h := Option.some.inj h
          subst h
          exact g_vret B hE (Nat.zero_le _) (Nat.zero_le _) dX10_readsLeafLine_73
      · replace h := ifp (bI1 hc) h
        refine g_aload_n B 0 dX10_readsLeafLine_44 rfl rfl ?_
        replace h := bnP_s h
        obtain ⟨s17, h16, h⟩ := h
        refine g_callVv0 (st := []) B (cX10_readsSewc h16) (Nat.le_of_ble_eq_true rfl) rfl rfl mi_X10_readsSew lk_RX10_299 ⟨Nat.le_of_ble_eq_true rfl, Nat.le_of_ble_eq_true rfl⟩ rfl rfl (Nat.le_of_ble_eq_true rfl) dX10_readsLeafLine_45 (Nat.zero_le _) (Nat.zero_le _) ?_
        refine g_goto B 73 dX10_readsLeafLine_48 (by decide) ?_
        replace h := Option.some.inj h
        subst h
        exact g_vret B hE (Nat.zero_le _) (Nat.zero_le _) dX10_readsLeafLine_73
    · replace h := ifp (bI1 hc) h
      refine g_aload_n B 0 dX10_readsLeafLine_27 rfl rfl ?_
      replace h := bnP_s h
      obtain ⟨s20, h19, h⟩ := h
      refine g_callVv0 (st := []) B (cX10_readsFindc h19) (Nat.le_of_ble_eq_true rfl) rfl rfl mi_X10_readsFind lk_RX10_294 ⟨Nat.le_of_ble_eq_true rfl, Nat.le_of_ble_eq_true rfl⟩ rfl rfl (Nat.le_of_ble_eq_true rfl) dX10_readsLeafLine_28 (Nat.zero_le _) (Nat.zero_le _) ?_
      refine g_goto B 73 dX10_readsLeafLine_31 (by decide) ?_
      replace h := Option.some.inj h
      subst h
      exact g_vret B hE (Nat.zero_le _) (Nat.zero_le _) dX10_readsLeafLine_73
  · replace h := ifp (bI1 hc) h
    refine g_aload_n B 0 dX10_readsLeafLine_10 rfl rfl ?_
    replace h := bnP_s h
    obtain ⟨s23, h22, h⟩ := h
    refine g_callVv0 (st := []) B (cX10_readsLosec h22) (Nat.le_of_ble_eq_true rfl) rfl rfl mi_X10_readsLose lk_RX10_289 ⟨Nat.le_of_ble_eq_true rfl, Nat.le_of_ble_eq_true rfl⟩ rfl rfl (Nat.le_of_ble_eq_true rfl) dX10_readsLeafLine_11 (Nat.zero_le _) (Nat.zero_le _) ?_
    refine g_goto B 73 dX10_readsLeafLine_14 (by decide) ?_
    replace h := Option.some.inj h
    subst h
    exact g_vret B hE (Nat.zero_le _) (Nat.zero_le _) dX10_readsLeafLine_73
set_option maxRecDepth 100000 in
set_option maxHeartbeats 4000000 in
theorem cX10_readsLinec {l : Launch} {v0 : Option Nat} {σ : HpT} {σ' : HpT} (h : fX10_readsLine v0 σ = some σ') : IsK σ v0 10 ∧ Ct l yX10_readsLine cX10_readsLine 1 none 9 199 [va_rf v0] σ (.ok none) σ' 0 0 := by
  unfold fX10_readsLine at h
  replace h := bnP_s h
  obtain ⟨u, hk, h⟩ := h
  replace hk := isK_s hk
  refine ⟨hk, ?_⟩
  refine ct_start mi_X10_readsLine.1 rfl (al_le (al_1 (rf_cat _) al_n) (Nat.le_of_ble_eq_true rfl)) (ag_1 (rf_cat _) ag_n) (fun Δ Γ B hE hnm => ?_)
  refine g_aload_n B 0 dX10_readsLine_0 rfl rfl ?_
  refine g_ldcS B (j := 46) rfl dX10_readsLine_1 ?_
  replace h := bnP_s h
  obtain ⟨x1, h2, h⟩ := h
  refine g_callVs0 (st := []) B (cX10_isWordc h2) (Nat.le_of_ble_eq_true rfl) rfl rfl mi_X10_isWord lk_RX10_171 ⟨Nat.le_of_ble_eq_true rfl, Nat.le_of_ble_eq_true rfl⟩ rfl rfl (Nat.le_of_ble_eq_true rfl) dX10_readsLine_3 (Nat.zero_le _) (Nat.zero_le _) ?_
  refine g_if_eq B 16 dX10_readsLine_6 (by decide) (fun hc => ?_) (fun hc => ?_)
  · replace h := ifn (bI0 hc) h
    refine g_aload_n B 0 dX10_readsLine_16 rfl rfl ?_
    refine g_ldcS B (j := 50) rfl dX10_readsLine_17 ?_
    replace h := bnP_s h
    obtain ⟨x3, h4, h⟩ := h
    refine g_callVs0 (st := []) B (cX10_isWordc h4) (Nat.le_of_ble_eq_true rfl) rfl rfl mi_X10_isWord lk_RX10_171 ⟨Nat.le_of_ble_eq_true rfl, Nat.le_of_ble_eq_true rfl⟩ rfl rfl (Nat.le_of_ble_eq_true rfl) dX10_readsLine_19 (Nat.zero_le _) (Nat.zero_le _) ?_
    refine g_if_eq B 32 dX10_readsLine_22 (by decide) (fun hc => ?_) (fun hc => ?_)
    · replace h := ifn (bI0 hc) h
      refine g_aload_n B 0 dX10_readsLine_32 rfl rfl ?_
      refine g_ldcSW B (j := 51) rfl dX10_readsLine_33 ?_
      replace h := bnP_s h
      obtain ⟨x5, h6, h⟩ := h
      refine g_callVs0 (st := []) B (cX10_isWordc h6) (Nat.le_of_ble_eq_true rfl) rfl rfl mi_X10_isWord lk_RX10_171 ⟨Nat.le_of_ble_eq_true rfl, Nat.le_of_ble_eq_true rfl⟩ rfl rfl (Nat.le_of_ble_eq_true rfl) dX10_readsLine_36 (Nat.zero_le _) (Nat.zero_le _) ?_
      refine g_if_eq B 49 dX10_readsLine_39 (by decide) (fun hc => ?_) (fun hc => ?_)
      · replace h := ifn (bI0 hc) h
        refine g_aload_n B 0 dX10_readsLine_49 rfl rfl ?_
        refine g_ldcSW B (j := 52) rfl dX10_readsLine_50 ?_
        replace h := bnP_s h
        obtain ⟨x7, h8, h⟩ := h
        refine g_callVs0 (st := []) B (cX10_isWordc h8) (Nat.le_of_ble_eq_true rfl) rfl rfl mi_X10_isWord lk_RX10_171 ⟨Nat.le_of_ble_eq_true rfl, Nat.le_of_ble_eq_true rfl⟩ rfl rfl (Nat.le_of_ble_eq_true rfl) dX10_readsLine_53 (Nat.zero_le _) (Nat.zero_le _) ?_
        refine g_if_eq B 66 dX10_readsLine_56 (by decide) (fun hc => ?_) (fun hc => ?_)
        · replace h := ifn (bI0 hc) h
          refine g_aload_n B 0 dX10_readsLine_66 rfl rfl ?_
          refine g_ldcSW B (j := 53) rfl dX10_readsLine_67 ?_
          replace h := bnP_s h
          obtain ⟨x9, h10, h⟩ := h
          refine g_callVs0 (st := []) B (cX10_isWordc h10) (Nat.le_of_ble_eq_true rfl) rfl rfl mi_X10_isWord lk_RX10_171 ⟨Nat.le_of_ble_eq_true rfl, Nat.le_of_ble_eq_true rfl⟩ rfl rfl (Nat.le_of_ble_eq_true rfl) dX10_readsLine_70 (Nat.zero_le _) (Nat.zero_le _) ?_
          refine g_if_eq B 83 dX10_readsLine_73 (by decide) (fun hc => ?_) (fun hc => ?_)
          · replace h := ifn (bI0 hc) h
            refine g_aload_n B 0 dX10_readsLine_83 rfl rfl ?_
            refine g_ldcSW B (j := 54) rfl dX10_readsLine_84 ?_
            replace h := bnP_s h
            obtain ⟨x11, h12, h⟩ := h
            refine g_callVs0 (st := []) B (cX10_isWordc h12) (Nat.le_of_ble_eq_true rfl) rfl rfl mi_X10_isWord lk_RX10_171 ⟨Nat.le_of_ble_eq_true rfl, Nat.le_of_ble_eq_true rfl⟩ rfl rfl (Nat.le_of_ble_eq_true rfl) dX10_readsLine_87 (Nat.zero_le _) (Nat.zero_le _) ?_
            refine g_if_eq B 100 dX10_readsLine_90 (by decide) (fun hc => ?_) (fun hc => ?_)
            · replace h := ifn (bI0 hc) h
              refine g_aload_n B 0 dX10_readsLine_100 rfl rfl ?_
              refine g_ldcSW B (j := 55) rfl dX10_readsLine_101 ?_
              replace h := bnP_s h
              obtain ⟨x13, h14, h⟩ := h
              refine g_callVs0 (st := []) B (cX10_isWordc h14) (Nat.le_of_ble_eq_true rfl) rfl rfl mi_X10_isWord lk_RX10_171 ⟨Nat.le_of_ble_eq_true rfl, Nat.le_of_ble_eq_true rfl⟩ rfl rfl (Nat.le_of_ble_eq_true rfl) dX10_readsLine_104 (Nat.zero_le _) (Nat.zero_le _) ?_
              refine g_if_eq B 117 dX10_readsLine_107 (by decide) (fun hc => ?_) (fun hc => ?_)
              · replace h := ifn (bI0 hc) h
                refine g_aload_n B 0 dX10_readsLine_117 rfl rfl ?_
                replace h := bnP_s h
                obtain ⟨s17, h16, h⟩ := h
                refine g_callVv0 (st := []) B (cX10_readsLeafLinec h16) (Nat.le_of_ble_eq_true rfl) rfl rfl mi_X10_readsLeafLine lk_RX10_284 ⟨Nat.le_of_ble_eq_true rfl, Nat.le_of_ble_eq_true rfl⟩ rfl rfl (Nat.le_of_ble_eq_true rfl) dX10_readsLine_118 (Nat.zero_le _) (Nat.zero_le _) ?_
                replace h := Option.some.inj h
                subst h
                exact g_vret B hE (Nat.zero_le _) (Nat.zero_le _) dX10_readsLine_121
              · replace h := ifp (bI1 hc) h
                refine g_aload_n B 0 dX10_readsLine_110 rfl rfl ?_
                replace h := bnP_s h
                obtain ⟨s20, h19, h⟩ := h
                refine g_callVv0 (st := []) B (cX10_readsCopyc h19) (Nat.le_of_ble_eq_true rfl) rfl rfl mi_X10_readsCopy lk_RX10_281 ⟨Nat.le_of_ble_eq_true rfl, Nat.le_of_ble_eq_true rfl⟩ rfl rfl (Nat.le_of_ble_eq_true rfl) dX10_readsLine_111 (Nat.zero_le _) (Nat.zero_le _) ?_
                refine g_goto B 121 dX10_readsLine_114 (by decide) ?_
                replace h := Option.some.inj h
                subst h
                exact g_vret B hE (Nat.zero_le _) (Nat.zero_le _) dX10_readsLine_121
            · replace h := ifp (bI1 hc) h
              refine g_aload_n B 0 dX10_readsLine_93 rfl rfl ?_
              replace h := bnP_s h
              obtain ⟨s23, h22, h⟩ := h
              refine g_callVv0 (st := []) B (cX10_readsCancelc h22) (Nat.le_of_ble_eq_true rfl) rfl rfl mi_X10_readsCancel lk_RX10_276 ⟨Nat.le_of_ble_eq_true rfl, Nat.le_of_ble_eq_true rfl⟩ rfl rfl (Nat.le_of_ble_eq_true rfl) dX10_readsLine_94 (Nat.zero_le _) (Nat.zero_le _) ?_
              refine g_goto B 121 dX10_readsLine_97 (by decide) ?_
              replace h := Option.some.inj h
              subst h
              exact g_vret B hE (Nat.zero_le _) (Nat.zero_le _) dX10_readsLine_121
          · replace h := ifp (bI1 hc) h
            refine g_aload_n B 0 dX10_readsLine_76 rfl rfl ?_
            replace h := bnP_s h
            obtain ⟨s26, h25, h⟩ := h
            refine g_callVv0 (st := []) B (cX10_readsSealc h25) (Nat.le_of_ble_eq_true rfl) rfl rfl mi_X10_readsSeal lk_RX10_271 ⟨Nat.le_of_ble_eq_true rfl, Nat.le_of_ble_eq_true rfl⟩ rfl rfl (Nat.le_of_ble_eq_true rfl) dX10_readsLine_77 (Nat.zero_le _) (Nat.zero_le _) ?_
            refine g_goto B 121 dX10_readsLine_80 (by decide) ?_
            replace h := Option.some.inj h
            subst h
            exact g_vret B hE (Nat.zero_le _) (Nat.zero_le _) dX10_readsLine_121
        · replace h := ifp (bI1 hc) h
          refine g_aload_n B 0 dX10_readsLine_59 rfl rfl ?_
          replace h := bnP_s h
          obtain ⟨s29, h28, h⟩ := h
          refine g_callVv0 (st := []) B (cX10_readsInsertc h28) (Nat.le_of_ble_eq_true rfl) rfl rfl mi_X10_readsInsert lk_RX10_266 ⟨Nat.le_of_ble_eq_true rfl, Nat.le_of_ble_eq_true rfl⟩ rfl rfl (Nat.le_of_ble_eq_true rfl) dX10_readsLine_60 (Nat.zero_le _) (Nat.zero_le _) ?_
          refine g_goto B 121 dX10_readsLine_63 (by decide) ?_
          replace h := Option.some.inj h
          subst h
          exact g_vret B hE (Nat.zero_le _) (Nat.zero_le _) dX10_readsLine_121
      · replace h := ifp (bI1 hc) h
        refine g_aload_n B 0 dX10_readsLine_42 rfl rfl ?_
        replace h := bnP_s h
        obtain ⟨s32, h31, h⟩ := h
        refine g_callVv0 (st := []) B (cX10_readsOutc h31) (Nat.le_of_ble_eq_true rfl) rfl rfl mi_X10_readsOut lk_RX10_261 ⟨Nat.le_of_ble_eq_true rfl, Nat.le_of_ble_eq_true rfl⟩ rfl rfl (Nat.le_of_ble_eq_true rfl) dX10_readsLine_43 (Nat.zero_le _) (Nat.zero_le _) ?_
        refine g_goto B 121 dX10_readsLine_46 (by decide) ?_
        replace h := Option.some.inj h
        subst h
        exact g_vret B hE (Nat.zero_le _) (Nat.zero_le _) dX10_readsLine_121
    · replace h := ifp (bI1 hc) h
      refine g_aload_n B 0 dX10_readsLine_25 rfl rfl ?_
      replace h := bnP_s h
      obtain ⟨s35, h34, h⟩ := h
      refine g_callVv0 (st := []) B (cX10_readsStrikec h34) (Nat.le_of_ble_eq_true rfl) rfl rfl mi_X10_readsStrike lk_RX10_256 ⟨Nat.le_of_ble_eq_true rfl, Nat.le_of_ble_eq_true rfl⟩ rfl rfl (Nat.le_of_ble_eq_true rfl) dX10_readsLine_26 (Nat.zero_le _) (Nat.zero_le _) ?_
      refine g_goto B 121 dX10_readsLine_29 (by decide) ?_
      replace h := Option.some.inj h
      subst h
      exact g_vret B hE (Nat.zero_le _) (Nat.zero_le _) dX10_readsLine_121
  · replace h := ifp (bI1 hc) h
    refine g_aload_n B 0 dX10_readsLine_9 rfl rfl ?_
    replace h := bnP_s h
    obtain ⟨s38, h37, h⟩ := h
    refine g_callVv0 (st := []) B (cX10_readsActc h37) (Nat.le_of_ble_eq_true rfl) rfl rfl mi_X10_readsAct lk_RX10_251 ⟨Nat.le_of_ble_eq_true rfl, Nat.le_of_ble_eq_true rfl⟩ rfl rfl (Nat.le_of_ble_eq_true rfl) dX10_readsLine_10 (Nat.zero_le _) (Nat.zero_le _) ?_
    refine g_goto B 121 dX10_readsLine_13 (by decide) ?_
    replace h := Option.some.inj h
    subst h
    exact g_vret B hE (Nat.zero_le _) (Nat.zero_le _) dX10_readsLine_121
set_option maxRecDepth 100000 in
set_option maxHeartbeats 4000000 in
theorem cX10_readsTextc {l : Launch} {v0 : Option Nat} {σ : HpT} {σ' : HpT} (h : fX10_readsText v0 σ = some σ') : IsK σ v0 10 ∧ Ct l yX10_readsText cX10_readsText 1 none 10 219 [va_rf v0] σ (.ok none) σ' 0 0 := by
  unfold fX10_readsText at h
  replace h := bnP_s h
  obtain ⟨u, hk, h⟩ := h
  replace hk := isK_s hk
  refine ⟨hk, ?_⟩
  refine ct_start mi_X10_readsText.1 rfl (al_le (al_1 (rf_cat _) al_n) (Nat.le_of_ble_eq_true rfl)) (ag_1 (rf_cat _) ag_n) (fun Δ Γ B hE hnm => ?_)
  refine g_aload_n B 0 dX10_readsText_0 rfl rfl ?_
  replace h := bnP_s h
  obtain ⟨s3, h2, h⟩ := h
  refine g_callVv0 (st := []) B (cX10_goesc h2) (Nat.le_of_ble_eq_true rfl) rfl rfl mi_X10_goes lk_RX10_122 ⟨Nat.le_of_ble_eq_true rfl, Nat.le_of_ble_eq_true rfl⟩ rfl rfl (Nat.le_of_ble_eq_true rfl) dX10_readsText_1 (Nat.zero_le _) (Nat.zero_le _) ?_
  refine g_aload_n B 0 dX10_readsText_4 rfl rfl ?_
  refine g_ldcSW B (j := 45) rfl dX10_readsText_5 ?_
  replace h := bnP_s h
  obtain ⟨x4, h5, h⟩ := h
  refine g_callVs0 (st := []) B (cX10_isWordc h5) (Nat.le_of_ble_eq_true rfl) rfl rfl mi_X10_isWord lk_RX10_171 ⟨Nat.le_of_ble_eq_true rfl, Nat.le_of_ble_eq_true rfl⟩ rfl rfl (Nat.le_of_ble_eq_true rfl) dX10_readsText_8 (Nat.zero_le _) (Nat.zero_le _) ?_
  replace h := bnS_s h
  obtain ⟨j6, s14, h7, h⟩ := h
  have k9 : GW Δ Γ (0) (0) 19 [(0, va_rf v0)] [] s14 := by
    refine g_aload_n B 0 dX10_readsText_19 rfl rfl ?_
    replace h := bnP_s h
    obtain ⟨s17, h16, h⟩ := h
    refine g_callVv0 (st := []) B (cX10_goesc h16) (Nat.le_of_ble_eq_true rfl) rfl rfl mi_X10_goes lk_RX10_122 ⟨Nat.le_of_ble_eq_true rfl, Nat.le_of_ble_eq_true rfl⟩ rfl rfl (Nat.le_of_ble_eq_true rfl) dX10_readsText_20 (Nat.zero_le _) (Nat.zero_le _) ?_
    refine g_aload_n B 0 dX10_readsText_23 rfl rfl ?_
    replace h := bnP_s h
    obtain ⟨x18, h19, h⟩ := h
    refine g_getR B fl_RX10_9 (by decide) dX10_readsText_24 h19 ?_
    refine g_iconst (v := 0) B dX10_readsText_27 (by decide) ?_
    refine g_aload_n B 0 dX10_readsText_28 rfl rfl ?_
    refine g_iconst (v := 4) B dX10_readsText_29 (by decide) ?_
    refine g_bipush (v := 20) B dX10_readsText_30 (by decide) ?_
    replace h := bnS_s h
    obtain ⟨x20, s22, h21, h⟩ := h
    refine g_callVs0 (st := [.int 0, va_rf x18]) B (cX10_numberc h21) (Nat.le_of_ble_eq_true rfl) rfl rfl mi_X10_number lk_RX10_215 ⟨Nat.le_of_ble_eq_true rfl, Nat.le_of_ble_eq_true rfl⟩ rfl rfl (Nat.le_of_ble_eq_true rfl) dX10_readsText_32 (Nat.zero_le _) (Nat.zero_le _) ?_
    replace h := bnP_s h
    obtain ⟨s25, h24, h⟩ := h
    refine g_iast B dX10_readsText_35 h24 ?_
    refine g_aload_n B 0 dX10_readsText_36 rfl rfl ?_
    replace h := bnP_s h
    obtain ⟨x26, h27, h⟩ := h
    refine g_getR B fl_RX10_9 (by decide) dX10_readsText_37 h27 ?_
    refine g_iconst (v := 1) B dX10_readsText_40 (by decide) ?_
    refine g_aload_n B 0 dX10_readsText_41 rfl rfl ?_
    refine g_iconst (v := 0) B dX10_readsText_42 (by decide) ?_
    refine g_iconst (v := 4) B dX10_readsText_43 (by decide) ?_
    replace h := bnS_s h
    obtain ⟨x28, s30, h29, h⟩ := h
    refine g_callVs0 (st := [.int 1, va_rf x26]) B (cX10_numberc h29) (Nat.le_of_ble_eq_true rfl) rfl rfl mi_X10_number lk_RX10_215 ⟨Nat.le_of_ble_eq_true rfl, Nat.le_of_ble_eq_true rfl⟩ rfl rfl (Nat.le_of_ble_eq_true rfl) dX10_readsText_44 (Nat.zero_le _) (Nat.zero_le _) ?_
    replace h := bnP_s h
    obtain ⟨s33, h32, h⟩ := h
    refine g_iast B dX10_readsText_47 h32 ?_
    refine g_aload_n B 0 dX10_readsText_48 rfl rfl ?_
    replace h := bnP_s h
    obtain ⟨x34, h35, h⟩ := h
    refine g_getR B fl_RX10_9 (by decide) dX10_readsText_49 h35 ?_
    refine g_iconst (v := 2) B dX10_readsText_52 (by decide) ?_
    refine g_aload_n B 0 dX10_readsText_53 rfl rfl ?_
    refine g_iconst (v := 2) B dX10_readsText_54 (by decide) ?_
    refine g_iconst (v := 4) B dX10_readsText_55 (by decide) ?_
    replace h := bnS_s h
    obtain ⟨x36, s38, h37, h⟩ := h
    refine g_callVs0 (st := [.int 2, va_rf x34]) B (cX10_numberc h37) (Nat.le_of_ble_eq_true rfl) rfl rfl mi_X10_number lk_RX10_215 ⟨Nat.le_of_ble_eq_true rfl, Nat.le_of_ble_eq_true rfl⟩ rfl rfl (Nat.le_of_ble_eq_true rfl) dX10_readsText_56 (Nat.zero_le _) (Nat.zero_le _) ?_
    replace h := bnP_s h
    obtain ⟨s41, h40, h⟩ := h
    refine g_iast B dX10_readsText_59 h40 ?_
    replace h := bnS_s h
    obtain ⟨r43, s60, h44, h⟩ := h
    have kE45 : GW Δ Γ (0) (0) 79 [(0, va_rf v0)] [] s60 := by
      refine g_aload_n B 0 dX10_readsText_79 rfl rfl ?_
      refine g_iconst (v := 1) B dX10_readsText_80 (by decide) ?_
      replace h := bnP_s h
      obtain ⟨x61, h62, h⟩ := h
      refine g_callVs0 (st := []) B (cX10_isc h62) (Nat.le_of_ble_eq_true rfl) rfl rfl mi_X10_is lk_RX10_102 ⟨Nat.le_of_ble_eq_true rfl, Nat.le_of_ble_eq_true rfl⟩ rfl rfl (Nat.le_of_ble_eq_true rfl) dX10_readsText_81 (Nat.zero_le _) (Nat.zero_le _) ?_
      refine g_if_ne B 92 dX10_readsText_84 (by decide) (fun hc => ?_) (fun hc => ?_)
      · replace h := ifp (bI1 hc) h
        replace h := Option.some.inj h
        subst h
        exact g_vret B hE (Nat.zero_le _) (Nat.zero_le _) dX10_readsText_92
      · replace h := ifn (bI0 hc) h
        refine g_aload_n B 0 dX10_readsText_87 rfl rfl ?_
        refine g_iconst (v := 1) B dX10_readsText_88 (by decide) ?_
        replace h := bnP_s h
        obtain ⟨s65, h64, h⟩ := h
        refine g_callVv0 (st := []) B (cX10_faultsc h64) (Nat.le_of_ble_eq_true rfl) rfl rfl mi_X10_faults lk_RX10_115 ⟨Nat.le_of_ble_eq_true rfl, Nat.le_of_ble_eq_true rfl⟩ rfl rfl (Nat.le_of_ble_eq_true rfl) dX10_readsText_89 (Nat.zero_le _) (Nat.zero_le _) ?_
        replace h := Option.some.inj h
        subst h
        exact g_vret B hE (Nat.zero_le _) (Nat.zero_le _) dX10_readsText_92
    clear h
    refine g_sub [0] rfl ?_
    refine lpS_w (I := fun q42 s51 => GW Δ Γ (0) (0) 60 [(0, va_rf v0)] [] s51) (r := r43) (σr := s60) ?_ FUEL () s41 h44
    intro q42 s51 x49 s9 h hI47 hR48
    unfold fX10_readsText_l1 at h
    refine g_aload_n B 0 dX10_readsText_60 rfl rfl ?_
    refine g_iconst (v := 4) B dX10_readsText_61 (by decide) ?_
    replace h := bnP_s h
    obtain ⟨x52, h53, h⟩ := h
    refine g_callVs0 (st := []) B (cX10_isc h53) (Nat.le_of_ble_eq_true rfl) rfl rfl mi_X10_is lk_RX10_102 ⟨Nat.le_of_ble_eq_true rfl, Nat.le_of_ble_eq_true rfl⟩ rfl rfl (Nat.le_of_ble_eq_true rfl) dX10_readsText_62 (Nat.zero_le _) (Nat.zero_le _) ?_
    refine g_if_eq B 79 dX10_readsText_65 (by decide) (fun hc => ?_) (fun hc => ?_)
    · replace h := ifn (bI0 hc) h
      obtain ⟨w1, w2⟩ := inS h
      clear h
      subst w1
      subst w2
      obtain ⟨e8, e7⟩ := hR48 _ rfl
      subst e8
      subst e7
      exact g_sub [0] rfl kE45
    · replace h := ifp (bI1 hc) h
      refine g_aload_n B 0 dX10_readsText_68 rfl rfl ?_
      replace h := bnP_s h
      obtain ⟨s56, h55, h⟩ := h
      refine g_callVv0 (st := []) B (cX10_goesc h55) (Nat.le_of_ble_eq_true rfl) rfl rfl mi_X10_goes lk_RX10_122 ⟨Nat.le_of_ble_eq_true rfl, Nat.le_of_ble_eq_true rfl⟩ rfl rfl (Nat.le_of_ble_eq_true rfl) dX10_readsText_69 (Nat.zero_le _) (Nat.zero_le _) ?_
      refine g_aload_n B 0 dX10_readsText_72 rfl rfl ?_
      replace h := bnP_s h
      obtain ⟨s59, h58, h⟩ := h
      refine g_callVv0 (st := []) B (cX10_readsLinec h58) (Nat.le_of_ble_eq_true rfl) rfl rfl mi_X10_readsLine lk_RX10_309 ⟨Nat.le_of_ble_eq_true rfl, Nat.le_of_ble_eq_true rfl⟩ rfl rfl (Nat.le_of_ble_eq_true rfl) dX10_readsText_73 (Nat.zero_le _) (Nat.zero_le _) ?_
      refine g_goto B 60 dX10_readsText_76 (by decide) ?_
      obtain ⟨w1, w2⟩ := inS h
      clear h
      subst w1
      subst w2
      exact g_sub [0] rfl (hI47 _ rfl)
  clear h
  have h := h7
  clear h7
  refine g_if_ne B 19 dX10_readsText_11 (by decide) (fun hc => ?_) (fun hc => ?_)
  · replace h := ifp (bI1 hc) h
    obtain ⟨w1, w2⟩ := inS h
    clear h
    subst w1
    subst w2
    exact g_sub [0] rfl k9
  · replace h := ifn (bI0 hc) h
    refine g_aload_n B 0 dX10_readsText_14 rfl rfl ?_
    refine g_iconst (v := 1) B dX10_readsText_15 (by decide) ?_
    replace h := bnP_s h
    obtain ⟨s13, h12, h⟩ := h
    refine g_callVv0 (st := []) B (cX10_faultsc h12) (Nat.le_of_ble_eq_true rfl) rfl rfl mi_X10_faults lk_RX10_115 ⟨Nat.le_of_ble_eq_true rfl, Nat.le_of_ble_eq_true rfl⟩ rfl rfl (Nat.le_of_ble_eq_true rfl) dX10_readsText_16 (Nat.zero_le _) (Nat.zero_le _) ?_
    obtain ⟨w1, w2⟩ := inS h
    clear h
    subst w1
    subst w2
    exact g_sub [0] rfl k9
set_option maxRecDepth 100000 in
set_option maxHeartbeats 4000000 in
theorem cX10_loadc {l : Launch} {v0 : Option Nat} {v1 : Int32} {σ : HpT} {r : Int32} {σ' : HpT} (h : fX10_load v0 v1 σ = some (r, σ')) : IsK σ v0 10 ∧ Ct l yX10_load cX10_load 3 (some .int) 11 239 [va_rf v0, .int v1] σ (.ok (some (.int r))) σ' 0 0 := by
  unfold fX10_load at h
  replace h := bnP_s h
  obtain ⟨u, hk, h⟩ := h
  replace hk := isK_s hk
  refine ⟨hk, ?_⟩
  refine ct_start mi_X10_load.1 rfl (al_le (al_1 (rf_cat _) (al_1 rfl al_n)) (Nat.le_of_ble_eq_true rfl)) (ag_1 (rf_cat _) (ag_1 rfl ag_n)) (fun Δ Γ B hE hnm => ?_)
  refine g_aload_n B 0 dX10_load_0 rfl rfl ?_
  refine g_iload_n B 1 dX10_load_1 rfl rfl ?_
  refine g_iconst (v := 0) B dX10_load_2 (by decide) ?_
  refine g_aload_n B 0 dX10_load_3 rfl rfl ?_
  replace h := bnP_s h
  obtain ⟨x1, h2, h⟩ := h
  refine g_getI B fl_RX10_56 (by decide) dX10_load_4 h2 ?_
  replace h := bnP_s h
  obtain ⟨x3, h4, h⟩ := h
  refine g_callSs0 (st := [va_rf v0]) B (cX10_inc h4) mi_X10_in lk_RX10_69 ⟨Nat.le_of_ble_eq_true rfl, Nat.le_of_ble_eq_true rfl⟩ rfl rfl (Nat.le_of_ble_eq_true rfl) dX10_load_7 (Nat.zero_le _) (Nat.zero_le _) ?_
  refine g_iconst (v := 1) B dX10_load_10 (by decide) ?_
  refine g_iconst (v := 1) B dX10_load_11 (by decide) ?_
  replace h := bnS_s h
  obtain ⟨x5, s7, h6, h⟩ := h
  refine g_callVs0 (st := []) B (cX10_mayc h6) (Nat.le_of_ble_eq_true rfl) rfl rfl mi_X10_may lk_RX10_44 ⟨Nat.le_of_ble_eq_true rfl, Nat.le_of_ble_eq_true rfl⟩ rfl rfl (Nat.le_of_ble_eq_true rfl) dX10_load_12 (Nat.zero_le _) (Nat.zero_le _) ?_
  refine g_if_ne B 20 dX10_load_15 (by decide) (fun hc => ?_) (fun hc => ?_)
  · replace h := ifp (bI1 hc) h
    refine g_aload_n B 0 dX10_load_20 rfl rfl ?_
    refine g_iload_n B 1 dX10_load_21 rfl rfl ?_
    replace h := bnP_s h
    obtain ⟨s10, h9, h⟩ := h
    refine g_callVv0 (st := []) B (cX10_beginsc h9) (Nat.le_of_ble_eq_true rfl) rfl rfl mi_X10_begins lk_RX10_312 ⟨Nat.le_of_ble_eq_true rfl, Nat.le_of_ble_eq_true rfl⟩ rfl rfl (Nat.le_of_ble_eq_true rfl) dX10_load_22 (Nat.zero_le _) (Nat.zero_le _) ?_
    refine g_aload_n B 0 dX10_load_25 rfl rfl ?_
    refine g_iconst (v := 0) B dX10_load_26 (by decide) ?_
    replace h := bnP_s h
    obtain ⟨s13, h12, h⟩ := h
    refine g_putI B fl_RX10_56 (by decide) dX10_load_27 h12 ?_
    refine g_aload_n B 0 dX10_load_30 rfl rfl ?_
    replace h := bnP_s h
    obtain ⟨s16, h15, h⟩ := h
    refine g_callVv0 (st := []) B (cX10_thinksc h15) (Nat.le_of_ble_eq_true rfl) rfl rfl mi_X10_thinks lk_RX10_315 ⟨Nat.le_of_ble_eq_true rfl, Nat.le_of_ble_eq_true rfl⟩ rfl rfl (Nat.le_of_ble_eq_true rfl) dX10_load_31 (Nat.zero_le _) (Nat.zero_le _) ?_
    refine g_iconst (v := 0) B dX10_load_34 (by decide) ?_
    refine g_istore_n B dX10_load_35 rfl (Nat.le_of_ble_eq_true rfl) (s1_c (f1_k rfl (f1_1 rfl rfl f1_n))) ?_
    replace h := bnS_s h
    obtain ⟨r18, s32, h19, h⟩ := h
    have kE20 : GW Δ Γ (0) (0) 56 [(0, va_rf v0)] [] s32 := by
      refine g_aload_n B 0 dX10_load_56 rfl rfl ?_
      replace h := bnP_s h
      obtain ⟨s35, h34, h⟩ := h
      refine g_callVv0 (st := []) B (cX10_readsTextc h34) (Nat.le_of_ble_eq_true rfl) rfl rfl mi_X10_readsText lk_RX10_318 ⟨Nat.le_of_ble_eq_true rfl, Nat.le_of_ble_eq_true rfl⟩ rfl rfl (Nat.le_of_ble_eq_true rfl) dX10_load_57 (Nat.zero_le _) (Nat.zero_le _) ?_
      refine g_aload_n B 0 dX10_load_60 rfl rfl ?_
      refine g_aload_n B 0 dX10_load_61 rfl rfl ?_
      replace h := bnP_s h
      obtain ⟨x36, h37, h⟩ := h
      refine g_getI B fl_RX10_73 (by decide) dX10_load_62 h37 ?_
      replace h := bnP_s h
      obtain ⟨s40, h39, h⟩ := h
      refine g_putI B fl_RX10_63 (by decide) dX10_load_65 h39 ?_
      refine g_aload_n B 0 dX10_load_68 rfl rfl ?_
      refine g_aload_n B 0 dX10_load_69 rfl rfl ?_
      replace h := bnP_s h
      obtain ⟨x41, h42, h⟩ := h
      refine g_getI B fl_RX10_99 (by decide) dX10_load_70 h42 ?_
      replace h := bnP_s h
      obtain ⟨s45, h44, h⟩ := h
      refine g_putI B fl_RX10_31 (by decide) dX10_load_73 h44 ?_
      refine g_aload_n B 0 dX10_load_76 rfl rfl ?_
      replace h := bnP_s h
      obtain ⟨x46, h47, h⟩ := h
      refine g_getI B fl_RX10_73 (by decide) dX10_load_77 h47 ?_
      refine g_if_le B 94 dX10_load_80 (by decide) (fun hc => ?_) (fun hc => ?_)
      · replace h := ifp hc h
        refine g_aload_n B 0 dX10_load_94 rfl rfl ?_
        refine g_iconst (v := 1) B dX10_load_95 (by decide) ?_
        replace h := bnP_s h
        obtain ⟨s50, h49, h⟩ := h
        refine g_putZ B fl_RX10_48 (by decide) dX10_load_96 h49 ?_
        refine g_aload_n B 0 dX10_load_99 rfl rfl ?_
        refine g_iconst (v := 0) B dX10_load_100 (by decide) ?_
        replace h := bnP_s h
        obtain ⟨s53, h52, h⟩ := h
        refine g_putI B fl_RX10_324 (by decide) dX10_load_101 h52 ?_
        refine g_aload_n B 0 dX10_load_104 rfl rfl ?_
        replace h := bnP_s h
        obtain ⟨x54, h55, h⟩ := h
        refine g_getR B fl_RX10_23 (by decide) dX10_load_105 h55 ?_
        refine g_iconst (v := 0) B dX10_load_108 (by decide) ?_
        refine g_iconst (v := 0) B dX10_load_109 (by decide) ?_
        replace h := bnP_s h
        obtain ⟨s58, h57, h⟩ := h
        refine g_zast B dX10_load_110 h57 ?_
        refine g_aload_n B 0 dX10_load_111 rfl rfl ?_
        replace h := bnP_s h
        obtain ⟨x59, h60, h⟩ := h
        refine g_getR B fl_RX10_23 (by decide) dX10_load_112 h60 ?_
        refine g_iconst (v := 1) B dX10_load_115 (by decide) ?_
        refine g_iconst (v := 0) B dX10_load_116 (by decide) ?_
        replace h := bnP_s h
        obtain ⟨s63, h62, h⟩ := h
        refine g_zast B dX10_load_117 h62 ?_
        refine g_aload_n B 0 dX10_load_118 rfl rfl ?_
        replace h := bnP_s h
        obtain ⟨x64, h65, h⟩ := h
        refine g_getR B fl_RX10_9 (by decide) dX10_load_119 h65 ?_
        refine g_iconst (v := 3) B dX10_load_122 (by decide) ?_
        replace h := bnP_s h
        obtain ⟨x66, h67, h⟩ := h
        refine g_iald B dX10_load_123 h67 ?_
        obtain ⟨w1, w2⟩ := inS h
        clear h
        subst w1
        subst w2
        exact g_iret B hE (Nat.zero_le _) (Nat.zero_le _) dX10_load_124
      · replace h := ifn hc h
        refine g_aload_n B 0 dX10_load_83 rfl rfl ?_
        refine g_iconst (v := 2) B dX10_load_84 (by decide) ?_
        replace h := bnP_s h
        obtain ⟨s70, h69, h⟩ := h
        refine g_putI B fl_RX10_41 (by decide) dX10_load_85 h69 ?_
        refine g_aload_n B 0 dX10_load_88 rfl rfl ?_
        refine g_iconst (v := 0) B dX10_load_89 (by decide) ?_
        replace h := bnS_s h
        obtain ⟨x71, s73, h72, h⟩ := h
        refine g_callVs0 (st := []) B (cX10_backc h72) (Nat.le_of_ble_eq_true rfl) rfl rfl mi_X10_back lk_RX10_321 ⟨Nat.le_of_ble_eq_true rfl, Nat.le_of_ble_eq_true rfl⟩ rfl rfl (Nat.le_of_ble_eq_true rfl) dX10_load_90 (Nat.zero_le _) (Nat.zero_le _) ?_
        obtain ⟨w1, w2⟩ := inS h
        clear h
        subst w1
        subst w2
        exact g_iret B hE (Nat.zero_le _) (Nat.zero_le _) dX10_load_93
    clear h
    refine g_sub [1, 0] rfl ?_
    refine lpS_w (I := fun q17 s26 => GW Δ Γ (0) (0) 36 [(0, va_rf v0), (2, .int q17)] [] s26) (r := r18) (σr := s32) ?_ FUEL 0 s16 h19
    intro q17 s26 x24 s9 h hI22 hR23
    unfold fX10_load_l1 at h
    refine g_iload_n B 1 dX10_load_36 rfl rfl ?_
    refine g_sipush (v := 6139) B dX10_load_37 (by decide) ?_
    refine g_icmp_ge B 56 dX10_load_40 (by decide) (fun hc => ?_) (fun hc => ?_)
    · replace h := ifp hc h
      obtain ⟨w1, w2⟩ := inS h
      clear h
      subst w1
      subst w2
      obtain ⟨e8, e7⟩ := hR23 _ rfl
      subst e8
      subst e7
      exact g_sub [0] rfl kE20
    · replace h := ifn hc h
      refine g_aload_n B 0 dX10_load_43 rfl rfl ?_
      replace h := bnP_s h
      obtain ⟨x27, h28, h⟩ := h
      refine g_getR B fl_RX10_9 (by decide) dX10_load_44 h28 ?_
      refine g_iload_n B 1 dX10_load_47 rfl rfl ?_
      refine g_iconst (v := 0) B dX10_load_48 (by decide) ?_
      replace h := bnP_s h
      obtain ⟨s31, h30, h⟩ := h
      refine g_iast B dX10_load_49 h30 ?_
      refine g_iinc (v := (q17 + 1)) B 1 dX10_load_50 rfl (by first | rfl | (congr 1; decide)) (Nat.le_of_ble_eq_true rfl) (s1_c (f1_k rfl (f1_x f1_n))) ?_
      refine g_goto B 36 dX10_load_53 (by decide) ?_
      obtain ⟨w1, w2⟩ := inS h
      clear h
      subst w1
      subst w2
      exact g_sub [1, 0] rfl (hI22 _ rfl)
  · replace h := ifn (bI0 hc) h
    refine g_iconst (v := 0) B dX10_load_18 (by decide) ?_
    obtain ⟨w1, w2⟩ := inS h
    clear h
    subst w1
    subst w2
    exact g_iret B hE (Nat.zero_le _) (Nat.zero_le _) dX10_load_19
set_option maxRecDepth 100000 in
set_option maxHeartbeats 4000000 in
theorem cX10_depthOfc {l : Launch} {v0 : Option Nat} {v1 : Int32} {σ : HpT} {r : Int32} (h : fX10_depthOf v0 v1 σ = some r) : IsK σ v0 10 ∧ Ct l yX10_depthOf cX10_depthOf 4 (some .int) 1 22 [va_rf v0, .int v1] σ (.ok (some (.int r))) σ 0 0 := by
  unfold fX10_depthOf at h
  replace h := bnP_s h
  obtain ⟨u, hk, h⟩ := h
  replace hk := isK_s hk
  refine ⟨hk, ?_⟩
  refine ct_start mi_X10_depthOf.1 rfl (al_le (al_1 (rf_cat _) (al_1 rfl al_n)) (Nat.le_of_ble_eq_true rfl)) (ag_1 (rf_cat _) (ag_1 rfl ag_n)) (fun Δ Γ B hE hnm => ?_)
  refine g_iconst (v := 0) B dX10_depthOf_0 (by decide) ?_
  refine g_istore_n B dX10_depthOf_1 rfl (Nat.le_of_ble_eq_true rfl) (s1_c (f1_k rfl (f1_1 rfl rfl f1_n))) ?_
  refine g_iload_n B 2 dX10_depthOf_2 rfl rfl ?_
  refine g_istore_n B dX10_depthOf_3 rfl (Nat.le_of_ble_eq_true rfl) (s1_c (f1_1 rfl rfl (f1_k rfl (f1_k rfl f1_n)))) ?_
  replace h := bnP_s h
  obtain ⟨r2, h3, h⟩ := h
  have kE4 : GW Δ Γ (0) (0) 24 [(2, .int r2)] [] σ := by
    refine g_iload_n B 0 dX10_depthOf_24 rfl rfl ?_
    replace h := Option.some.inj h
    subst h
    exact g_iret B hE (Nat.zero_le _) (Nat.zero_le _) dX10_depthOf_25
  clear h
  refine g_sub [2, 1, 0] rfl ?_
  refine lpP_w (I := fun q1 => GW Δ Γ (0) (0) 4 [(0, va_rf v0), (2, .int q1.1), (3, .int q1.2)] [] σ) (r := r2) ?_ FUEL (0, v1) h3
  intro q1 x8 h hI6 hR7
  unfold fX10_depthOf_l1 at h
  refine g_iload_n B 2 dX10_depthOf_4 rfl rfl ?_
  refine g_iconst (v := (-1)) B dX10_depthOf_5 (by decide) ?_
  refine g_icmp_eq B 24 dX10_depthOf_6 (by decide) (fun hc => ?_) (fun hc => ?_)
  · replace h := ifp hc h
    replace h := Option.some.inj h
    subst h
    have e8 := hR7 _ rfl
    subst e8
    exact g_sub [1] rfl kE4
  · replace h := ifn hc h
    refine g_iinc (v := (q1.1 + 1)) B 1 dX10_depthOf_9 rfl (by first | rfl | (congr 1; decide)) (Nat.le_of_ble_eq_true rfl) (s1_c (f1_k rfl (f1_x (f1_k rfl f1_n)))) ?_
    refine g_aload_n B 1 dX10_depthOf_12 rfl rfl ?_
    refine g_iload_n B 2 dX10_depthOf_13 rfl rfl ?_
    refine g_iconst (v := 2) B dX10_depthOf_14 (by decide) ?_
    replace h := bnP_s h
    obtain ⟨x10, h11, h⟩ := h
    refine g_callVs0 (st := []) B (cX10_ofClausec h11) (Nat.le_of_ble_eq_true rfl) rfl rfl mi_X10_ofClause lk_RX10_145 ⟨Nat.le_of_ble_eq_true rfl, Nat.le_of_ble_eq_true rfl⟩ rfl rfl (Nat.le_of_ble_eq_true rfl) dX10_depthOf_15 (Nat.zero_le _) (Nat.zero_le _) ?_
    refine g_iconst (v := 1) B dX10_depthOf_18 (by decide) ?_
    refine g_isub B dX10_depthOf_19 ?_
    refine g_istore_n B dX10_depthOf_20 rfl (Nat.le_of_ble_eq_true rfl) (s1_c (f1_1 rfl rfl (f1_k rfl (f1_x f1_n)))) ?_
    refine g_goto B 4 dX10_depthOf_21 (by decide) ?_
    replace h := Option.some.inj h
    subst h
    exact g_sub [2, 1, 0] rfl (hI6 _ rfl)
