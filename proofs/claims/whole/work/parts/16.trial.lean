theorem lay_in {C : String} {T : u_T} {N : Nat} (h : ∀ k, k < N → u_lay C T k ∈ ALLw) : ∀ w ∈ u_ws C T N, w ∈ ALLw := by
  intro w hw
  obtain ⟨k, hk, rfl⟩ := List.mem_map.mp hw
  exact h k (List.mem_range.mp hk)
theorem lay_0 : ∀ w ∈ u_ws RX0 TX0 8, w ∈ ALLw := lay_in (fun k hk => match k, hk with
  | 0, _ => mw (i := 366) (by decide +kernel) rfl
  | 1, _ => mw (i := 368) (by decide +kernel) rfl
  | 2, _ => mw (i := 370) (by decide +kernel) rfl
  | 3, _ => mw (i := 372) (by decide +kernel) rfl
  | 4, _ => mw (i := 374) (by decide +kernel) rfl
  | 5, _ => mw (i := 376) (by decide +kernel) rfl
  | 6, _ => mw (i := 378) (by decide +kernel) rfl
  | 7, _ => mw (i := 380) (by decide +kernel) rfl
  | n + 8, h => absurd h (by omega))
theorem dv_0 : ∀ j, j < 8 → defaultValue (tyX0 j) = (if fT 0 j = 0 then .int 0 else if fT 0 j = 1 then .long 0 else .null) := fun j hj => match j, hj with
  | 0, _ => rfl
  | 1, _ => rfl
  | 2, _ => rfl
  | 3, _ => rfl
  | 4, _ => rfl
  | 5, _ => rfl
  | 6, _ => rfl
  | 7, _ => rfl
  | n + 8, h => absurd h (by omega)
theorem lay_1 : ∀ w ∈ u_ws RX1 TX1 12, w ∈ ALLw := lay_in (fun k hk => match k, hk with
  | 0, _ => mw (i := 412) (by decide +kernel) rfl
  | 1, _ => mw (i := 414) (by decide +kernel) rfl
  | 2, _ => mw (i := 416) (by decide +kernel) rfl
  | 3, _ => mw (i := 418) (by decide +kernel) rfl
  | 4, _ => mw (i := 420) (by decide +kernel) rfl
  | 5, _ => mw (i := 422) (by decide +kernel) rfl
  | 6, _ => mw (i := 424) (by decide +kernel) rfl
  | 7, _ => mw (i := 426) (by decide +kernel) rfl
  | 8, _ => mw (i := 428) (by decide +kernel) rfl
  | 9, _ => mw (i := 430) (by decide +kernel) rfl
  | 10, _ => mw (i := 432) (by decide +kernel) rfl
  | 11, _ => mw (i := 434) (by decide +kernel) rfl
  | n + 12, h => absurd h (by omega))
theorem dv_1 : ∀ j, j < 12 → defaultValue (tyX1 j) = (if fT 1 j = 0 then .int 0 else if fT 1 j = 1 then .long 0 else .null) := fun j hj => match j, hj with
  | 0, _ => rfl
  | 1, _ => rfl
  | 2, _ => rfl
  | 3, _ => rfl
  | 4, _ => rfl
  | 5, _ => rfl
  | 6, _ => rfl
  | 7, _ => rfl
  | 8, _ => rfl
  | 9, _ => rfl
  | 10, _ => rfl
  | 11, _ => rfl
  | n + 12, h => absurd h (by omega)
theorem lay_2 : ∀ w ∈ u_ws RX2 TX2 4, w ∈ ALLw := lay_in (fun k hk => match k, hk with
  | 0, _ => mw (i := 296) (by decide +kernel) rfl
  | 1, _ => mw (i := 298) (by decide +kernel) rfl
  | 2, _ => mw (i := 300) (by decide +kernel) rfl
  | 3, _ => mw (i := 302) (by decide +kernel) rfl
  | n + 4, h => absurd h (by omega))
theorem dv_2 : ∀ j, j < 4 → defaultValue (tyX2 j) = (if fT 2 j = 0 then .int 0 else if fT 2 j = 1 then .long 0 else .null) := fun j hj => match j, hj with
  | 0, _ => rfl
  | 1, _ => rfl
  | 2, _ => rfl
  | 3, _ => rfl
  | n + 4, h => absurd h (by omega)
theorem lay_3 : ∀ w ∈ u_ws RX3 TX3 5, w ∈ ALLw := lay_in (fun k hk => match k, hk with
  | 0, _ => mw (i := 321) (by decide +kernel) rfl
  | 1, _ => mw (i := 323) (by decide +kernel) rfl
  | 2, _ => mw (i := 325) (by decide +kernel) rfl
  | 3, _ => mw (i := 327) (by decide +kernel) rfl
  | 4, _ => mw (i := 329) (by decide +kernel) rfl
  | n + 5, h => absurd h (by omega))
theorem dv_3 : ∀ j, j < 5 → defaultValue (tyX3 j) = (if fT 3 j = 0 then .int 0 else if fT 3 j = 1 then .long 0 else .null) := fun j hj => match j, hj with
  | 0, _ => rfl
  | 1, _ => rfl
  | 2, _ => rfl
  | 3, _ => rfl
  | 4, _ => rfl
  | n + 5, h => absurd h (by omega)
theorem lay_4 : ∀ w ∈ u_ws RX4 TX4 4, w ∈ ALLw := lay_in (fun k hk => match k, hk with
  | 0, _ => mw (i := 271) (by decide +kernel) rfl
  | 1, _ => mw (i := 273) (by decide +kernel) rfl
  | 2, _ => mw (i := 275) (by decide +kernel) rfl
  | 3, _ => mw (i := 277) (by decide +kernel) rfl
  | n + 4, h => absurd h (by omega))
theorem dv_4 : ∀ j, j < 4 → defaultValue (tyX4 j) = (if fT 4 j = 0 then .int 0 else if fT 4 j = 1 then .long 0 else .null) := fun j hj => match j, hj with
  | 0, _ => rfl
  | 1, _ => rfl
  | 2, _ => rfl
  | 3, _ => rfl
  | n + 4, h => absurd h (by omega)
theorem lay_5 : ∀ w ∈ u_ws RX5 TX5 5, w ∈ ALLw := lay_in (fun k hk => match k, hk with
  | 0, _ => mw (i := 484) (by decide +kernel) rfl
  | 1, _ => mw (i := 486) (by decide +kernel) rfl
  | 2, _ => mw (i := 488) (by decide +kernel) rfl
  | 3, _ => mw (i := 490) (by decide +kernel) rfl
  | 4, _ => mw (i := 492) (by decide +kernel) rfl
  | n + 5, h => absurd h (by omega))
theorem dv_5 : ∀ j, j < 5 → defaultValue (tyX5 j) = (if fT 5 j = 0 then .int 0 else if fT 5 j = 1 then .long 0 else .null) := fun j hj => match j, hj with
  | 0, _ => rfl
  | 1, _ => rfl
  | 2, _ => rfl
  | 3, _ => rfl
  | 4, _ => rfl
  | n + 5, h => absurd h (by omega)
theorem lay_6 : ∀ w ∈ u_ws RX6 TX6 1, w ∈ ALLw := lay_in (fun k hk => match k, hk with
  | 0, _ => mw (i := 538) (by decide +kernel) rfl
  | n + 1, h => absurd h (by omega))
theorem dv_6 : ∀ j, j < 1 → defaultValue (tyX6 j) = (if fT 6 j = 0 then .int 0 else if fT 6 j = 1 then .long 0 else .null) := fun j hj => match j, hj with
  | 0, _ => rfl
  | n + 1, h => absurd h (by omega)
theorem lay_7 : ∀ w ∈ u_ws RX7 TX7 7, w ∈ ALLw := lay_in (fun k hk => match k, hk with
  | 0, _ => mw (i := 461) (by decide +kernel) rfl
  | 1, _ => mw (i := 463) (by decide +kernel) rfl
  | 2, _ => mw (i := 465) (by decide +kernel) rfl
  | 3, _ => mw (i := 467) (by decide +kernel) rfl
  | 4, _ => mw (i := 469) (by decide +kernel) rfl
  | 5, _ => mw (i := 471) (by decide +kernel) rfl
  | 6, _ => mw (i := 473) (by decide +kernel) rfl
  | n + 7, h => absurd h (by omega))
theorem dv_7 : ∀ j, j < 7 → defaultValue (tyX7 j) = (if fT 7 j = 0 then .int 0 else if fT 7 j = 1 then .long 0 else .null) := fun j hj => match j, hj with
  | 0, _ => rfl
  | 1, _ => rfl
  | 2, _ => rfl
  | 3, _ => rfl
  | 4, _ => rfl
  | 5, _ => rfl
  | 6, _ => rfl
  | n + 7, h => absurd h (by omega)
theorem lay_8 : ∀ w ∈ u_ws RX8 TX8 7, w ∈ ALLw := lay_in (fun k hk => match k, hk with
  | 0, _ => mw (i := 237) (by decide +kernel) rfl
  | 1, _ => mw (i := 239) (by decide +kernel) rfl
  | 2, _ => mw (i := 241) (by decide +kernel) rfl
  | 3, _ => mw (i := 243) (by decide +kernel) rfl
  | 4, _ => mw (i := 245) (by decide +kernel) rfl
  | 5, _ => mw (i := 247) (by decide +kernel) rfl
  | 6, _ => mw (i := 249) (by decide +kernel) rfl
  | n + 7, h => absurd h (by omega))
theorem dv_8 : ∀ j, j < 7 → defaultValue (tyX8 j) = (if fT 8 j = 0 then .int 0 else if fT 8 j = 1 then .long 0 else .null) := fun j hj => match j, hj with
  | 0, _ => rfl
  | 1, _ => rfl
  | 2, _ => rfl
  | 3, _ => rfl
  | 4, _ => rfl
  | 5, _ => rfl
  | 6, _ => rfl
  | n + 7, h => absurd h (by omega)
theorem lay_9 : ∀ w ∈ u_ws RX9 TX9 15, w ∈ ALLw := lay_in (fun k hk => match k, hk with
  | 0, _ => mw (i := 556) (by decide +kernel) rfl
  | 1, _ => mw (i := 558) (by decide +kernel) rfl
  | 2, _ => mw (i := 560) (by decide +kernel) rfl
  | 3, _ => mw (i := 562) (by decide +kernel) rfl
  | 4, _ => mw (i := 564) (by decide +kernel) rfl
  | 5, _ => mw (i := 566) (by decide +kernel) rfl
  | 6, _ => mw (i := 568) (by decide +kernel) rfl
  | 7, _ => mw (i := 570) (by decide +kernel) rfl
  | 8, _ => mw (i := 572) (by decide +kernel) rfl
  | 9, _ => mw (i := 574) (by decide +kernel) rfl
  | 10, _ => mw (i := 576) (by decide +kernel) rfl
  | 11, _ => mw (i := 578) (by decide +kernel) rfl
  | 12, _ => mw (i := 580) (by decide +kernel) rfl
  | 13, _ => mw (i := 582) (by decide +kernel) rfl
  | 14, _ => mw (i := 584) (by decide +kernel) rfl
  | n + 15, h => absurd h (by omega))
theorem dv_9 : ∀ j, j < 15 → defaultValue (tyX9 j) = (if fT 9 j = 0 then .int 0 else if fT 9 j = 1 then .long 0 else .null) := fun j hj => match j, hj with
  | 0, _ => rfl
  | 1, _ => rfl
  | 2, _ => rfl
  | 3, _ => rfl
  | 4, _ => rfl
  | 5, _ => rfl
  | 6, _ => rfl
  | 7, _ => rfl
  | 8, _ => rfl
  | 9, _ => rfl
  | 10, _ => rfl
  | 11, _ => rfl
  | 12, _ => rfl
  | 13, _ => rfl
  | 14, _ => rfl
  | n + 15, h => absurd h (by omega)
theorem lay_10 : ∀ w ∈ u_ws RX10 TX10 24, w ∈ ALLw := lay_in (fun k hk => match k, hk with
  | 0, _ => mw (i := 2025) (by decide +kernel) rfl
  | 1, _ => mw (i := 2027) (by decide +kernel) rfl
  | 2, _ => mw (i := 2029) (by decide +kernel) rfl
  | 3, _ => mw (i := 2031) (by decide +kernel) rfl
  | 4, _ => mw (i := 2033) (by decide +kernel) rfl
  | 5, _ => mw (i := 2035) (by decide +kernel) rfl
  | 6, _ => mw (i := 2037) (by decide +kernel) rfl
  | 7, _ => mw (i := 2039) (by decide +kernel) rfl
  | 8, _ => mw (i := 2041) (by decide +kernel) rfl
  | 9, _ => mw (i := 2043) (by decide +kernel) rfl
  | 10, _ => mw (i := 2045) (by decide +kernel) rfl
  | 11, _ => mw (i := 2047) (by decide +kernel) rfl
  | 12, _ => mw (i := 2049) (by decide +kernel) rfl
  | 13, _ => mw (i := 2051) (by decide +kernel) rfl
  | 14, _ => mw (i := 2053) (by decide +kernel) rfl
  | 15, _ => mw (i := 2055) (by decide +kernel) rfl
  | 16, _ => mw (i := 2057) (by decide +kernel) rfl
  | 17, _ => mw (i := 2059) (by decide +kernel) rfl
  | 18, _ => mw (i := 2061) (by decide +kernel) rfl
  | 19, _ => mw (i := 2063) (by decide +kernel) rfl
  | 20, _ => mw (i := 2065) (by decide +kernel) rfl
  | 21, _ => mw (i := 2067) (by decide +kernel) rfl
  | 22, _ => mw (i := 2069) (by decide +kernel) rfl
  | 23, _ => mw (i := 2071) (by decide +kernel) rfl
  | n + 24, h => absurd h (by omega))
theorem dv_10 : ∀ j, j < 24 → defaultValue (tyX10 j) = (if fT 10 j = 0 then .int 0 else if fT 10 j = 1 then .long 0 else .null) := fun j hj => match j, hj with
  | 0, _ => rfl
  | 1, _ => rfl
  | 2, _ => rfl
  | 3, _ => rfl
  | 4, _ => rfl
  | 5, _ => rfl
  | 6, _ => rfl
  | 7, _ => rfl
  | 8, _ => rfl
  | 9, _ => rfl
  | 10, _ => rfl
  | 11, _ => rfl
  | 12, _ => rfl
  | 13, _ => rfl
  | 14, _ => rfl
  | 15, _ => rfl
  | 16, _ => rfl
  | 17, _ => rfl
  | 18, _ => rfl
  | 19, _ => rfl
  | 20, _ => rfl
  | 21, _ => rfl
  | 22, _ => rfl
  | 23, _ => rfl
  | n + 24, h => absurd h (by omega)
theorem lay_11 : ∀ w ∈ u_ws RJ4 TJ4 4, w ∈ ALLw := lay_in (fun k hk => match k, hk with
  | 0, _ => mw (i := 527) (by decide +kernel) rfl
  | 1, _ => mw (i := 529) (by decide +kernel) rfl
  | 2, _ => mw (i := 531) (by decide +kernel) rfl
  | 3, _ => mw (i := 533) (by decide +kernel) rfl
  | n + 4, h => absurd h (by omega))
theorem dv_11 : ∀ j, j < 4 → defaultValue (tyJ4 j) = (if fT 11 j = 0 then .int 0 else if fT 11 j = 1 then .long 0 else .null) := fun j hj => match j, hj with
  | 0, _ => rfl
  | 1, _ => rfl
  | 2, _ => rfl
  | 3, _ => rfl
  | n + 4, h => absurd h (by omega)
theorem mi_X10_in : MI yX10_in cX10_in 3 (some .boolean) 3 := ⟨by decide +kernel, (mw (i := 2104) (by decide +kernel) rfl), (mw (i := 176) (by decide +kernel) rfl), by decide +kernel, by decide +kernel⟩
theorem mi_X10_lastOf : MI yX10_lastOf cX10_lastOf 2 (some .int) 1 := ⟨by decide +kernel, (mw (i := 2315) (by decide +kernel) rfl), (mw (i := 176) (by decide +kernel) rfl), by decide +kernel, by decide +kernel⟩
theorem mi_X10_ofAct : MI yX10_ofAct cX10_ofAct 3 (some .int) 2 := ⟨by decide +kernel, (mw (i := 2178) (by decide +kernel) rfl), (mw (i := 176) (by decide +kernel) rfl), by decide +kernel, by decide +kernel⟩
theorem mi_X10_ofWord : MI yX10_ofWord cX10_ofWord 3 (some .int) 2 := ⟨by decide +kernel, (mw (i := 2261) (by decide +kernel) rfl), (mw (i := 176) (by decide +kernel) rfl), by decide +kernel, by decide +kernel⟩
theorem mi_X10_one : MI yX10_one cX10_one 1 (some .int) 1 := ⟨by decide +kernel, (mw (i := 2289) (by decide +kernel) rfl), (mw (i := 176) (by decide +kernel) rfl), by decide +kernel, by decide +kernel⟩
theorem mi_X10_standing : MI yX10_standing cX10_standing 4 (some .int) 1 := ⟨by decide +kernel, (mw (i := 2311) (by decide +kernel) rfl), (mw (i := 176) (by decide +kernel) rfl), by decide +kernel, by decide +kernel⟩
theorem mi_X10_stands : MI yX10_stands cX10_stands 2 (some .boolean) 1 := ⟨by decide +kernel, (mw (i := 2257) (by decide +kernel) rfl), (mw (i := 176) (by decide +kernel) rfl), by decide +kernel, by decide +kernel⟩
theorem fl_RX10_9 : Fl RX10 9 10 1 (.array .int) true := ⟨RX10, TX10, 24, tyX10, rfl, by decide, rfl, lay_10, (mw (i := 2002) (by decide +kernel) rfl), tyX10_ok, nmX10, tyX10_ok 1 (by decide), rfl, by decide, fun _ => rfl⟩
theorem lk_RX10_138 : LV RX10 138 yX10_ofAct := ⟨(mw (i := 2175) (by decide +kernel) rfl), (mw (i := 2177) (by decide +kernel) rfl), (mw (i := 53) (by decide +kernel) rfl)⟩
theorem lk_RX10_209 : LV RX10 209 yX10_ofWord := ⟨(mw (i := 2258) (by decide +kernel) rfl), (mw (i := 2260) (by decide +kernel) rfl), (mw (i := 72) (by decide +kernel) rfl)⟩
theorem lk_RX10_327 : LV RX10 327 yX10_lastOf := ⟨(mw (i := 2312) (by decide +kernel) rfl), (mw (i := 2314) (by decide +kernel) rfl), (mw (i := 84) (by decide +kernel) rfl)⟩
theorem lk_RX10_330 : LV RX10 330 yX10_stands := ⟨(mw (i := 2254) (by decide +kernel) rfl), (mw (i := 2256) (by decide +kernel) rfl), (mw (i := 71) (by decide +kernel) rfl)⟩
theorem lk_RX10_333 : LSt RX10 333 yX10_one := ⟨(mw (i := 2287) (by decide +kernel) rfl), (mw (i := 2288) (by decide +kernel) rfl)⟩
theorem dX10_in_0 : decode cX10_in 0 = .ok (.iload_n 1, 1) := by decide +kernel
theorem dX10_in_1 : decode cX10_in 1 = .ok (.iload_n 0, 1) := by decide +kernel
theorem dX10_in_2 : decode cX10_in 2 = .ok (.if_icmp .gt 12, 3) := by decide +kernel
theorem dX10_in_5 : decode cX10_in 5 = .ok (.iload_n 0, 1) := by decide +kernel
theorem dX10_in_6 : decode cX10_in 6 = .ok (.iload_n 2, 1) := by decide +kernel
theorem dX10_in_7 : decode cX10_in 7 = .ok (.if_icmp .gt 7, 3) := by decide +kernel
theorem dX10_in_10 : decode cX10_in 10 = .ok (.iconst 1, 1) := by decide +kernel
theorem dX10_in_11 : decode cX10_in 11 = .ok (.goto 4, 3) := by decide +kernel
theorem dX10_in_14 : decode cX10_in 14 = .ok (.iconst 0, 1) := by decide +kernel
theorem dX10_in_15 : decode cX10_in 15 = .ok (.ireturn, 1) := by decide +kernel
theorem dX10_one_0 : decode cX10_one 0 = .ok (.iload_n 0, 1) := by decide +kernel
theorem dX10_one_1 : decode cX10_one 1 = .ok (.ifCond .eq 7, 3) := by decide +kernel
theorem dX10_one_4 : decode cX10_one 4 = .ok (.iconst 1, 1) := by decide +kernel
theorem dX10_one_5 : decode cX10_one 5 = .ok (.goto 4, 3) := by decide +kernel
theorem dX10_one_8 : decode cX10_one 8 = .ok (.iconst 0, 1) := by decide +kernel
theorem dX10_one_9 : decode cX10_one 9 = .ok (.ireturn, 1) := by decide +kernel
theorem dX10_ofAct_0 : decode cX10_ofAct 0 = .ok (.aload_n 0, 1) := by decide +kernel
theorem dX10_ofAct_1 : decode cX10_ofAct 1 = .ok (.getfield 9, 3) := by decide +kernel
theorem dX10_ofAct_4 : decode cX10_ofAct 4 = .ok (.bipush 9, 2) := by decide +kernel
theorem dX10_ofAct_6 : decode cX10_ofAct 6 = .ok (.bipush 9, 2) := by decide +kernel
theorem dX10_ofAct_8 : decode cX10_ofAct 8 = .ok (.iload_n 1, 1) := by decide +kernel
theorem dX10_ofAct_9 : decode cX10_ofAct 9 = .ok (.imul, 1) := by decide +kernel
theorem dX10_ofAct_10 : decode cX10_ofAct 10 = .ok (.iadd, 1) := by decide +kernel
theorem dX10_ofAct_11 : decode cX10_ofAct 11 = .ok (.iload_n 2, 1) := by decide +kernel
theorem dX10_ofAct_12 : decode cX10_ofAct 12 = .ok (.iadd, 1) := by decide +kernel
theorem dX10_ofAct_13 : decode cX10_ofAct 13 = .ok (.iaload, 1) := by decide +kernel
theorem dX10_ofAct_14 : decode cX10_ofAct 14 = .ok (.ireturn, 1) := by decide +kernel
theorem dX10_lastOf_0 : decode cX10_lastOf 0 = .ok (.aload_n 0, 1) := by decide +kernel
theorem dX10_lastOf_1 : decode cX10_lastOf 1 = .ok (.iload_n 1, 1) := by decide +kernel
theorem dX10_lastOf_2 : decode cX10_lastOf 2 = .ok (.iconst 5, 1) := by decide +kernel
theorem dX10_lastOf_3 : decode cX10_lastOf 3 = .ok (.invokevirtual 138, 3) := by decide +kernel
theorem dX10_lastOf_6 : decode cX10_lastOf 6 = .ok (.aload_n 0, 1) := by decide +kernel
theorem dX10_lastOf_7 : decode cX10_lastOf 7 = .ok (.iload_n 1, 1) := by decide +kernel
theorem dX10_lastOf_8 : decode cX10_lastOf 8 = .ok (.bipush 6, 2) := by decide +kernel
theorem dX10_lastOf_10 : decode cX10_lastOf 10 = .ok (.invokevirtual 138, 3) := by decide +kernel
theorem dX10_lastOf_13 : decode cX10_lastOf 13 = .ok (.iadd, 1) := by decide +kernel
theorem dX10_lastOf_14 : decode cX10_lastOf 14 = .ok (.iconst 1, 1) := by decide +kernel
theorem dX10_lastOf_15 : decode cX10_lastOf 15 = .ok (.isub, 1) := by decide +kernel
theorem dX10_lastOf_16 : decode cX10_lastOf 16 = .ok (.ireturn, 1) := by decide +kernel
theorem dX10_ofWord_0 : decode cX10_ofWord 0 = .ok (.aload_n 0, 1) := by decide +kernel
theorem dX10_ofWord_1 : decode cX10_ofWord 1 = .ok (.getfield 9, 3) := by decide +kernel
theorem dX10_ofWord_4 : decode cX10_ofWord 4 = .ok (.bipush 127, 2) := by decide +kernel
theorem dX10_ofWord_6 : decode cX10_ofWord 6 = .ok (.bipush 13, 2) := by decide +kernel
theorem dX10_ofWord_8 : decode cX10_ofWord 8 = .ok (.iload_n 1, 1) := by decide +kernel
theorem dX10_ofWord_9 : decode cX10_ofWord 9 = .ok (.imul, 1) := by decide +kernel
theorem dX10_ofWord_10 : decode cX10_ofWord 10 = .ok (.iadd, 1) := by decide +kernel
theorem dX10_ofWord_11 : decode cX10_ofWord 11 = .ok (.iload_n 2, 1) := by decide +kernel
theorem dX10_ofWord_12 : decode cX10_ofWord 12 = .ok (.iadd, 1) := by decide +kernel
theorem dX10_ofWord_13 : decode cX10_ofWord 13 = .ok (.iaload, 1) := by decide +kernel
theorem dX10_ofWord_14 : decode cX10_ofWord 14 = .ok (.ireturn, 1) := by decide +kernel
theorem dX10_stands_0 : decode cX10_stands 0 = .ok (.aload_n 0, 1) := by decide +kernel
theorem dX10_stands_1 : decode cX10_stands 1 = .ok (.iload_n 1, 1) := by decide +kernel
theorem dX10_stands_2 : decode cX10_stands 2 = .ok (.iconst 2, 1) := by decide +kernel
theorem dX10_stands_3 : decode cX10_stands 3 = .ok (.invokevirtual 209, 3) := by decide +kernel
theorem dX10_stands_6 : decode cX10_stands 6 = .ok (.ifCond .ne 7, 3) := by decide +kernel
theorem dX10_stands_9 : decode cX10_stands 9 = .ok (.iconst 1, 1) := by decide +kernel
theorem dX10_stands_10 : decode cX10_stands 10 = .ok (.goto 4, 3) := by decide +kernel
theorem dX10_stands_13 : decode cX10_stands 13 = .ok (.iconst 0, 1) := by decide +kernel
theorem dX10_stands_14 : decode cX10_stands 14 = .ok (.ireturn, 1) := by decide +kernel
theorem dX10_standing_0 : decode cX10_standing 0 = .ok (.iconst 0, 1) := by decide +kernel
theorem dX10_standing_1 : decode cX10_standing 1 = .ok (.istore_n 2, 1) := by decide +kernel
theorem dX10_standing_2 : decode cX10_standing 2 = .ok (.aload_n 0, 1) := by decide +kernel
theorem dX10_standing_3 : decode cX10_standing 3 = .ok (.iload_n 1, 1) := by decide +kernel
theorem dX10_standing_4 : decode cX10_standing 4 = .ok (.iconst 5, 1) := by decide +kernel
theorem dX10_standing_5 : decode cX10_standing 5 = .ok (.invokevirtual 138, 3) := by decide +kernel
theorem dX10_standing_8 : decode cX10_standing 8 = .ok (.istore_n 3, 1) := by decide +kernel
theorem dX10_standing_9 : decode cX10_standing 9 = .ok (.iload_n 3, 1) := by decide +kernel
theorem dX10_standing_10 : decode cX10_standing 10 = .ok (.aload_n 0, 1) := by decide +kernel
theorem dX10_standing_11 : decode cX10_standing 11 = .ok (.iload_n 1, 1) := by decide +kernel
theorem dX10_standing_12 : decode cX10_standing 12 = .ok (.invokevirtual 327, 3) := by decide +kernel
theorem dX10_standing_15 : decode cX10_standing 15 = .ok (.if_icmp .gt 27, 3) := by decide +kernel
theorem dX10_standing_18 : decode cX10_standing 18 = .ok (.iload_n 2, 1) := by decide +kernel
theorem dX10_standing_19 : decode cX10_standing 19 = .ok (.aload_n 0, 1) := by decide +kernel
theorem dX10_standing_20 : decode cX10_standing 20 = .ok (.iload_n 3, 1) := by decide +kernel
theorem dX10_standing_21 : decode cX10_standing 21 = .ok (.invokevirtual 330, 3) := by decide +kernel
theorem dX10_standing_24 : decode cX10_standing 24 = .ok (.invokestatic 333, 3) := by decide +kernel
theorem dX10_standing_27 : decode cX10_standing 27 = .ok (.aload_n 0, 1) := by decide +kernel
theorem dX10_standing_28 : decode cX10_standing 28 = .ok (.iload_n 3, 1) := by decide +kernel
theorem dX10_standing_29 : decode cX10_standing 29 = .ok (.iconst 4, 1) := by decide +kernel
theorem dX10_standing_30 : decode cX10_standing 30 = .ok (.invokevirtual 209, 3) := by decide +kernel
theorem dX10_standing_33 : decode cX10_standing 33 = .ok (.iadd, 1) := by decide +kernel
theorem dX10_standing_34 : decode cX10_standing 34 = .ok (.iadd, 1) := by decide +kernel
theorem dX10_standing_35 : decode cX10_standing 35 = .ok (.istore_n 2, 1) := by decide +kernel
theorem dX10_standing_36 : decode cX10_standing 36 = .ok (.iinc 3 1, 3) := by decide +kernel
theorem dX10_standing_39 : decode cX10_standing 39 = .ok (.goto (-30), 3) := by decide +kernel
theorem dX10_standing_42 : decode cX10_standing 42 = .ok (.iload_n 2, 1) := by decide +kernel
theorem dX10_standing_43 : decode cX10_standing 43 = .ok (.ireturn, 1) := by decide +kernel
def fX10_in (v0 : Int32) (v1 : Int32) (v2 : Int32) (σ : HpT) : Option (Bool) := (if v0 < v1 then some false else (if v2 < v0 then some false else some true))
def fX10_one (v0 : Int32) (σ : HpT) : Option (Int32) := (if v0 = 0 then some 0 else some 1)
def fX10_ofAct (v0 : Option Nat) (v1 : Int32) (v2 : Int32) (σ : HpT) : Option (Int32) := bnP (isK σ v0 10) (fun _ => bnP (gR σ v0 10 1) (fun x1 => bnP (aI σ x1 20 ((9 + (9 * v1)) + v2)) (fun x3 => some x3)))
def fX10_lastOf (v0 : Option Nat) (v1 : Int32) (σ : HpT) : Option (Int32) := bnP (isK σ v0 10) (fun _ => bnP (fX10_ofAct v0 v1 5 σ) (fun x1 => bnP (fX10_ofAct v0 v1 6 σ) (fun x3 => some ((x1 + x3) - 1))))
def fX10_ofWord (v0 : Option Nat) (v1 : Int32) (v2 : Int32) (σ : HpT) : Option (Int32) := bnP (isK σ v0 10) (fun _ => bnP (gR σ v0 10 1) (fun x1 => bnP (aI σ x1 20 ((127 + (13 * v1)) + v2)) (fun x3 => some x3)))
def fX10_stands (v0 : Option Nat) (v1 : Int32) (σ : HpT) : Option (Bool) := bnP (isK σ v0 10) (fun _ => bnP (fX10_ofWord v0 v1 2 σ) (fun x1 => (if x1 = 0 then some true else some false)))
def fX10_standing_l1 (c0 : Option Nat) (c1 : Int32) (s12 : HpT) (q3 : Int32 × Int32) : Option ((Int32 × Int32) ⊕ (Int32)) := bnP (fX10_lastOf c0 c1 s12) (fun x13 => (if x13 < q3.2 then some (.inr q3.1) else bnP (fX10_stands c0 q3.2 s12) (fun x15 => bnP (fX10_one (bI x15) s12) (fun x17 => bnP (fX10_ofWord c0 q3.2 4 s12) (fun x19 => some (.inl ((q3.1 + (x17 + x19)), (q3.2 + 1))))))))
def fX10_standing (v0 : Option Nat) (v1 : Int32) (σ : HpT) : Option (Int32) := bnP (isK σ v0 10) (fun _ => bnP (fX10_ofAct v0 v1 5 σ) (fun x1 => bnP (lpP (fX10_standing_l1 v0 v1 σ) FUEL (0, x1)) (fun r4 => some r4)))
set_option maxRecDepth 100000 in
set_option maxHeartbeats 4000000 in
theorem cX10_inc {l : Launch} {v0 : Int32} {v1 : Int32} {v2 : Int32} {σ : HpT} {r : Bool} (h : fX10_in v0 v1 v2 σ = some r) : Ct l yX10_in cX10_in 3 (some .boolean) 0 0 [.int v0, .int v1, .int v2] σ (.ok (some (.int (bI r)))) σ 0 0 := by
  unfold fX10_in at h
  refine ct_start mi_X10_in.1 rfl (al_le (al_1 rfl (al_1 rfl (al_1 rfl al_n))) (Nat.le_of_ble_eq_true rfl)) (ag_1 rfl (ag_1 rfl (ag_1 rfl ag_n))) (fun Δ Γ B hE hnm => ?_)
  refine g_iload_n B 1 dX10_in_0 rfl rfl ?_
  refine g_iload_n B 0 dX10_in_1 rfl rfl ?_
  refine g_icmp_gt B 14 dX10_in_2 (by decide) (fun hc => ?_) (fun hc => ?_)
  · replace h := ifp hc h
    refine g_iconst (v := 0) B dX10_in_14 (by decide) ?_
    cases h
    exact g_zret B hE rfl (Nat.zero_le _) (Nat.zero_le _) dX10_in_15
  · replace h := ifn hc h
    refine g_iload_n B 0 dX10_in_5 rfl rfl ?_
    refine g_iload_n B 2 dX10_in_6 rfl rfl ?_
    refine g_icmp_gt B 14 dX10_in_7 (by decide) (fun hc => ?_) (fun hc => ?_)
    · replace h := ifp hc h
      refine g_iconst (v := 0) B dX10_in_14 (by decide) ?_
      cases h
      exact g_zret B hE rfl (Nat.zero_le _) (Nat.zero_le _) dX10_in_15
    · replace h := ifn hc h
      refine g_iconst (v := 1) B dX10_in_10 (by decide) ?_
      refine g_goto B 15 dX10_in_11 (by decide) ?_
      cases h
      exact g_zret B hE rfl (Nat.zero_le _) (Nat.zero_le _) dX10_in_15
set_option maxRecDepth 100000 in
set_option maxHeartbeats 4000000 in
theorem cX10_onec {l : Launch} {v0 : Int32} {σ : HpT} {r : Int32} (h : fX10_one v0 σ = some r) : Ct l yX10_one cX10_one 1 (some .int) 0 0 [.int v0] σ (.ok (some (.int r))) σ 0 0 := by
  unfold fX10_one at h
  refine ct_start mi_X10_one.1 rfl (al_le (al_1 rfl al_n) (Nat.le_of_ble_eq_true rfl)) (ag_1 rfl ag_n) (fun Δ Γ B hE hnm => ?_)
  refine g_iload_n B 0 dX10_one_0 rfl rfl ?_
  refine g_if_eq B 8 dX10_one_1 (by decide) (fun hc => ?_) (fun hc => ?_)
  · replace h := ifp hc h
    refine g_iconst (v := 0) B dX10_one_8 (by decide) ?_
    cases h
    exact g_iret B hE (Nat.zero_le _) (Nat.zero_le _) dX10_one_9
  · replace h := ifn hc h
    refine g_iconst (v := 1) B dX10_one_4 (by decide) ?_
    refine g_goto B 9 dX10_one_5 (by decide) ?_
    cases h
    exact g_iret B hE (Nat.zero_le _) (Nat.zero_le _) dX10_one_9
set_option maxRecDepth 100000 in
set_option maxHeartbeats 4000000 in
theorem cX10_ofActc {l : Launch} {v0 : Option Nat} {v1 : Int32} {v2 : Int32} {σ : HpT} {r : Int32} (h : fX10_ofAct v0 v1 v2 σ = some r) : IsK σ v0 10 ∧ Ct l yX10_ofAct cX10_ofAct 3 (some .int) 0 0 [va_rf v0, .int v1, .int v2] σ (.ok (some (.int r))) σ 0 0 := by
  unfold fX10_ofAct at h
  obtain ⟨u, hk, h⟩ := bnP_s h
  replace hk := isK_s hk
  refine ⟨hk, ?_⟩
  refine ct_start mi_X10_ofAct.1 rfl (al_le (al_1 (rf_cat _) (al_1 rfl (al_1 rfl al_n))) (Nat.le_of_ble_eq_true rfl)) (ag_1 (rf_cat _) (ag_1 rfl (ag_1 rfl ag_n))) (fun Δ Γ B hE hnm => ?_)
  refine g_aload_n B 0 dX10_ofAct_0 rfl rfl ?_
  obtain ⟨x1, h2, h⟩ := bnP_s h
  refine g_getR B fl_RX10_9 (by decide) dX10_ofAct_1 h2 ?_
  refine g_bipush (v := 9) B dX10_ofAct_4 (by decide) ?_
  refine g_bipush (v := 9) B dX10_ofAct_6 (by decide) ?_
  refine g_iload_n B 1 dX10_ofAct_8 rfl rfl ?_
  refine g_imul B dX10_ofAct_9 ?_
  refine g_iadd B dX10_ofAct_10 ?_
  refine g_iload_n B 2 dX10_ofAct_11 rfl rfl ?_
  refine g_iadd B dX10_ofAct_12 ?_
  obtain ⟨x3, h4, h⟩ := bnP_s h
  refine g_iald B dX10_ofAct_13 h4 ?_
  cases h
  exact g_iret B hE (Nat.zero_le _) (Nat.zero_le _) dX10_ofAct_14
set_option maxRecDepth 100000 in
set_option maxHeartbeats 4000000 in
theorem cX10_lastOfc {l : Launch} {v0 : Option Nat} {v1 : Int32} {σ : HpT} {r : Int32} (h : fX10_lastOf v0 v1 σ = some r) : IsK σ v0 10 ∧ Ct l yX10_lastOf cX10_lastOf 2 (some .int) 1 22 [va_rf v0, .int v1] σ (.ok (some (.int r))) σ 0 0 := by
  unfold fX10_lastOf at h
  obtain ⟨u, hk, h⟩ := bnP_s h
  replace hk := isK_s hk
  refine ⟨hk, ?_⟩
  refine ct_start mi_X10_lastOf.1 rfl (al_le (al_1 (rf_cat _) (al_1 rfl al_n)) (Nat.le_of_ble_eq_true rfl)) (ag_1 (rf_cat _) (ag_1 rfl ag_n)) (fun Δ Γ B hE hnm => ?_)
  refine g_aload_n B 0 dX10_lastOf_0 rfl rfl ?_
  refine g_iload_n B 1 dX10_lastOf_1 rfl rfl ?_
  refine g_iconst (v := 5) B dX10_lastOf_2 (by decide) ?_
  obtain ⟨x1, h2, h⟩ := bnP_s h
  refine g_callVs0 (st := []) B (cX10_ofActc h2) (Nat.le_of_ble_eq_true rfl) rfl rfl mi_X10_ofAct lk_RX10_138 ⟨Nat.le_of_ble_eq_true rfl, Nat.le_of_ble_eq_true rfl⟩ rfl rfl (Nat.le_of_ble_eq_true rfl) dX10_lastOf_3 (Nat.zero_le _) (Nat.zero_le _) ?_
  refine g_aload_n B 0 dX10_lastOf_6 rfl rfl ?_
  refine g_iload_n B 1 dX10_lastOf_7 rfl rfl ?_
  refine g_bipush (v := 6) B dX10_lastOf_8 (by decide) ?_
  obtain ⟨x3, h4, h⟩ := bnP_s h
  refine g_callVs0 (st := [.int x1]) B (cX10_ofActc h4) (Nat.le_of_ble_eq_true rfl) rfl rfl mi_X10_ofAct lk_RX10_138 ⟨Nat.le_of_ble_eq_true rfl, Nat.le_of_ble_eq_true rfl⟩ rfl rfl (Nat.le_of_ble_eq_true rfl) dX10_lastOf_10 (Nat.zero_le _) (Nat.zero_le _) ?_
  refine g_iadd B dX10_lastOf_13 ?_
  refine g_iconst (v := 1) B dX10_lastOf_14 (by decide) ?_
  refine g_isub B dX10_lastOf_15 ?_
  cases h
  exact g_iret B hE (Nat.zero_le _) (Nat.zero_le _) dX10_lastOf_16
set_option maxRecDepth 100000 in
set_option maxHeartbeats 4000000 in
theorem cX10_ofWordc {l : Launch} {v0 : Option Nat} {v1 : Int32} {v2 : Int32} {σ : HpT} {r : Int32} (h : fX10_ofWord v0 v1 v2 σ = some r) : IsK σ v0 10 ∧ Ct l yX10_ofWord cX10_ofWord 3 (some .int) 0 0 [va_rf v0, .int v1, .int v2] σ (.ok (some (.int r))) σ 0 0 := by
  unfold fX10_ofWord at h
  obtain ⟨u, hk, h⟩ := bnP_s h
  replace hk := isK_s hk
  refine ⟨hk, ?_⟩
  refine ct_start mi_X10_ofWord.1 rfl (al_le (al_1 (rf_cat _) (al_1 rfl (al_1 rfl al_n))) (Nat.le_of_ble_eq_true rfl)) (ag_1 (rf_cat _) (ag_1 rfl (ag_1 rfl ag_n))) (fun Δ Γ B hE hnm => ?_)
  refine g_aload_n B 0 dX10_ofWord_0 rfl rfl ?_
  obtain ⟨x1, h2, h⟩ := bnP_s h
  refine g_getR B fl_RX10_9 (by decide) dX10_ofWord_1 h2 ?_
  refine g_bipush (v := 127) B dX10_ofWord_4 (by decide) ?_
  refine g_bipush (v := 13) B dX10_ofWord_6 (by decide) ?_
  refine g_iload_n B 1 dX10_ofWord_8 rfl rfl ?_
  refine g_imul B dX10_ofWord_9 ?_
  refine g_iadd B dX10_ofWord_10 ?_
  refine g_iload_n B 2 dX10_ofWord_11 rfl rfl ?_
  refine g_iadd B dX10_ofWord_12 ?_
  obtain ⟨x3, h4, h⟩ := bnP_s h
  refine g_iald B dX10_ofWord_13 h4 ?_
  cases h
  exact g_iret B hE (Nat.zero_le _) (Nat.zero_le _) dX10_ofWord_14
set_option maxRecDepth 100000 in
set_option maxHeartbeats 4000000 in
theorem cX10_standsc {l : Launch} {v0 : Option Nat} {v1 : Int32} {σ : HpT} {r : Bool} (h : fX10_stands v0 v1 σ = some r) : IsK σ v0 10 ∧ Ct l yX10_stands cX10_stands 2 (some .boolean) 1 22 [va_rf v0, .int v1] σ (.ok (some (.int (bI r)))) σ 0 0 := by
  unfold fX10_stands at h
  obtain ⟨u, hk, h⟩ := bnP_s h
  replace hk := isK_s hk
  refine ⟨hk, ?_⟩
  refine ct_start mi_X10_stands.1 rfl (al_le (al_1 (rf_cat _) (al_1 rfl al_n)) (Nat.le_of_ble_eq_true rfl)) (ag_1 (rf_cat _) (ag_1 rfl ag_n)) (fun Δ Γ B hE hnm => ?_)
  refine g_aload_n B 0 dX10_stands_0 rfl rfl ?_
  refine g_iload_n B 1 dX10_stands_1 rfl rfl ?_
  refine g_iconst (v := 2) B dX10_stands_2 (by decide) ?_
  obtain ⟨x1, h2, h⟩ := bnP_s h
  refine g_callVs0 (st := []) B (cX10_ofWordc h2) (Nat.le_of_ble_eq_true rfl) rfl rfl mi_X10_ofWord lk_RX10_209 ⟨Nat.le_of_ble_eq_true rfl, Nat.le_of_ble_eq_true rfl⟩ rfl rfl (Nat.le_of_ble_eq_true rfl) dX10_stands_3 (Nat.zero_le _) (Nat.zero_le _) ?_
  refine g_if_ne B 13 dX10_stands_6 (by decide) (fun hc => ?_) (fun hc => ?_)
  · replace h := ifn hc h
    refine g_iconst (v := 0) B dX10_stands_13 (by decide) ?_
    cases h
    exact g_zret B hE rfl (Nat.zero_le _) (Nat.zero_le _) dX10_stands_14
  · replace h := ifp hc h
    refine g_iconst (v := 1) B dX10_stands_9 (by decide) ?_
    refine g_goto B 14 dX10_stands_10 (by decide) ?_
    cases h
    exact g_zret B hE rfl (Nat.zero_le _) (Nat.zero_le _) dX10_stands_14
set_option maxRecDepth 100000 in
set_option maxHeartbeats 4000000 in
theorem cX10_standingc {l : Launch} {v0 : Option Nat} {v1 : Int32} {σ : HpT} {r : Int32} (h : fX10_standing v0 v1 σ = some r) : IsK σ v0 10 ∧ Ct l yX10_standing cX10_standing 4 (some .int) 2 43 [va_rf v0, .int v1] σ (.ok (some (.int r))) σ 0 0 := by
  unfold fX10_standing at h
  obtain ⟨u, hk, h⟩ := bnP_s h
  replace hk := isK_s hk
  refine ⟨hk, ?_⟩
  refine ct_start mi_X10_standing.1 rfl (al_le (al_1 (rf_cat _) (al_1 rfl al_n)) (Nat.le_of_ble_eq_true rfl)) (ag_1 (rf_cat _) (ag_1 rfl ag_n)) (fun Δ Γ B hE hnm => ?_)
  refine g_iconst (v := 0) B dX10_standing_0 (by decide) ?_
  refine g_istore_n B dX10_standing_1 rfl (Nat.le_of_ble_eq_true rfl) (s1_c (f1_k rfl (f1_1 rfl rfl f1_n))) ?_
  refine g_aload_n B 1 dX10_standing_2 rfl rfl ?_
  refine g_iload_n B 2 dX10_standing_3 rfl rfl ?_
  refine g_iconst (v := 5) B dX10_standing_4 (by decide) ?_
  obtain ⟨x1, h2, h⟩ := bnP_s h
  refine g_callVs0 (st := []) B (cX10_ofActc h2) (Nat.le_of_ble_eq_true rfl) rfl rfl mi_X10_ofAct lk_RX10_138 ⟨Nat.le_of_ble_eq_true rfl, Nat.le_of_ble_eq_true rfl⟩ rfl rfl (Nat.le_of_ble_eq_true rfl) dX10_standing_5 (Nat.zero_le _) (Nat.zero_le _) ?_
  refine g_istore_n B dX10_standing_8 rfl (Nat.le_of_ble_eq_true rfl) (s1_c (f1_1 rfl rfl (f1_k rfl (f1_k rfl f1_n)))) ?_
  obtain ⟨r4, h5, h⟩ := bnP_s h
  have kE6 : GW Δ Γ (0) (0) 42 [(2, .int r4)] [] σ := by
    refine g_iload_n B 0 dX10_standing_42 rfl rfl ?_
    cases h
    exact g_iret B hE (Nat.zero_le _) (Nat.zero_le _) dX10_standing_43
  clear h
  refine g_sub [2, 3, 1, 0] rfl ?_
  refine lpP_w (I := fun q3 => GW Δ Γ (0) (0) 9 [(0, va_rf v0), (1, .int v1), (2, .int q3.1), (3, .int q3.2)] [] σ) (r := r4) ?_ FUEL (0, x1) h5
  intro q3 x10 h hI8 hR9
  unfold fX10_standing_l1 at h
  refine g_iload_n B 3 dX10_standing_9 rfl rfl ?_
  refine g_aload_n B 0 dX10_standing_10 rfl rfl ?_
  refine g_iload_n B 1 dX10_standing_11 rfl rfl ?_
  obtain ⟨x12, h13, h⟩ := bnP_s h
  refine g_callVs0 (st := [.int q3.2]) B (cX10_lastOfc h13) (Nat.le_of_ble_eq_true rfl) rfl rfl mi_X10_lastOf lk_RX10_327 ⟨Nat.le_of_ble_eq_true rfl, Nat.le_of_ble_eq_true rfl⟩ rfl rfl (Nat.le_of_ble_eq_true rfl) dX10_standing_12 (Nat.zero_le _) (Nat.zero_le _) ?_
  refine g_icmp_gt B 42 dX10_standing_15 (by decide) (fun hc => ?_) (fun hc => ?_)
  · replace h := ifp hc h
    cases h
    have e8 := hR9 _ rfl
    subst e8
    exact g_sub [2] rfl kE6
  · replace h := ifn hc h
    refine g_iload_n B 2 dX10_standing_18 rfl rfl ?_
    refine g_aload_n B 0 dX10_standing_19 rfl rfl ?_
    refine g_iload_n B 3 dX10_standing_20 rfl rfl ?_
    obtain ⟨x14, h15, h⟩ := bnP_s h
    refine g_callVs0 (st := [.int q3.1]) B (cX10_standsc h15) (Nat.le_of_ble_eq_true rfl) rfl rfl mi_X10_stands lk_RX10_330 ⟨Nat.le_of_ble_eq_true rfl, Nat.le_of_ble_eq_true rfl⟩ rfl rfl (Nat.le_of_ble_eq_true rfl) dX10_standing_21 (Nat.zero_le _) (Nat.zero_le _) ?_
    obtain ⟨x16, h17, h⟩ := bnP_s h
    refine g_callSs0 (st := [.int q3.1]) B (cX10_onec h17) mi_X10_one lk_RX10_333 ⟨Nat.le_of_ble_eq_true rfl, Nat.le_of_ble_eq_true rfl⟩ rfl rfl (Nat.le_of_ble_eq_true rfl) dX10_standing_24 (Nat.zero_le _) (Nat.zero_le _) ?_
    refine g_aload_n B 0 dX10_standing_27 rfl rfl ?_
    refine g_iload_n B 3 dX10_standing_28 rfl rfl ?_
    refine g_iconst (v := 4) B dX10_standing_29 (by decide) ?_
    obtain ⟨x18, h19, h⟩ := bnP_s h
    refine g_callVs0 (st := [.int x16, .int q3.1]) B (cX10_ofWordc h19) (Nat.le_of_ble_eq_true rfl) rfl rfl mi_X10_ofWord lk_RX10_209 ⟨Nat.le_of_ble_eq_true rfl, Nat.le_of_ble_eq_true rfl⟩ rfl rfl (Nat.le_of_ble_eq_true rfl) dX10_standing_30 (Nat.zero_le _) (Nat.zero_le _) ?_
    refine g_iadd B dX10_standing_33 ?_
    refine g_iadd B dX10_standing_34 ?_
    refine g_istore_n B dX10_standing_35 rfl (Nat.le_of_ble_eq_true rfl) (s1_c (f1_k rfl (f1_1 rfl rfl (f1_x (f1_k rfl f1_n))))) ?_
    refine g_iinc (v := (q3.2 + 1)) B 3 dX10_standing_36 rfl (by first | rfl | (congr 1; decide)) (Nat.le_of_ble_eq_true rfl) (s1_c (f1_1 rfl rfl (f1_k rfl (f1_k rfl (f1_x f1_n))))) ?_
    refine g_goto B 9 dX10_standing_39 (by decide) ?_
    cases h
    exact g_sub [2, 3, 1, 0] rfl (hI8 _ rfl)
