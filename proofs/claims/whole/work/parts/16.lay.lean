theorem lay_in {C : String} {T : u_T} {N : Nat} (h : ∀ k, k < N → u_lay C T k ∈ ALLw) : ∀ w ∈ u_ws C T N, w ∈ ALLw := by
  intro w hw
  obtain ⟨k, hk, rfl⟩ := List.mem_map.mp hw
  exact h k (List.mem_range.mp hk)
theorem lay_0 : ∀ w ∈ u_ws RX0 TX0 8, w ∈ ALLw := lay_in (fun k hk => match k, hk with
  | 0, _ => mw (i := 366) (by decide +kernel) rfl
  | 1, _ => mw (i := 368) (by decide +kernel) rfl
  | 2, _ => mw (i := 370) (by decide +kernel) rfl
  | 3, _ => mw (i := 372) (by decide +kernel) rfl
  | 4, _ => mw (i := 374) (by decide +kernel) rfl
  | 5, _ => mw (i := 376) (by decide +kernel) rfl
  | 6, _ => mw (i := 378) (by decide +kernel) rfl
  | 7, _ => mw (i := 380) (by decide +kernel) rfl
  | n + 8, h => absurd h (by omega))
theorem dv_0 : ∀ j, j < 8 → defaultValue (tyX0 j) = (if fT 0 j = 0 then .int 0 else if fT 0 j = 1 then .long 0 else .null) := fun j hj => match j, hj with
  | 0, _ => rfl
  | 1, _ => rfl
  | 2, _ => rfl
  | 3, _ => rfl
  | 4, _ => rfl
  | 5, _ => rfl
  | 6, _ => rfl
  | 7, _ => rfl
  | n + 8, h => absurd h (by omega)
theorem lay_1 : ∀ w ∈ u_ws RX1 TX1 12, w ∈ ALLw := lay_in (fun k hk => match k, hk with
  | 0, _ => mw (i := 412) (by decide +kernel) rfl
  | 1, _ => mw (i := 414) (by decide +kernel) rfl
  | 2, _ => mw (i := 416) (by decide +kernel) rfl
  | 3, _ => mw (i := 418) (by decide +kernel) rfl
  | 4, _ => mw (i := 420) (by decide +kernel) rfl
  | 5, _ => mw (i := 422) (by decide +kernel) rfl
  | 6, _ => mw (i := 424) (by decide +kernel) rfl
  | 7, _ => mw (i := 426) (by decide +kernel) rfl
  | 8, _ => mw (i := 428) (by decide +kernel) rfl
  | 9, _ => mw (i := 430) (by decide +kernel) rfl
  | 10, _ => mw (i := 432) (by decide +kernel) rfl
  | 11, _ => mw (i := 434) (by decide +kernel) rfl
  | n + 12, h => absurd h (by omega))
theorem dv_1 : ∀ j, j < 12 → defaultValue (tyX1 j) = (if fT 1 j = 0 then .int 0 else if fT 1 j = 1 then .long 0 else .null) := fun j hj => match j, hj with
  | 0, _ => rfl
  | 1, _ => rfl
  | 2, _ => rfl
  | 3, _ => rfl
  | 4, _ => rfl
  | 5, _ => rfl
  | 6, _ => rfl
  | 7, _ => rfl
  | 8, _ => rfl
  | 9, _ => rfl
  | 10, _ => rfl
  | 11, _ => rfl
  | n + 12, h => absurd h (by omega)
theorem lay_2 : ∀ w ∈ u_ws RX2 TX2 4, w ∈ ALLw := lay_in (fun k hk => match k, hk with
  | 0, _ => mw (i := 296) (by decide +kernel) rfl
  | 1, _ => mw (i := 298) (by decide +kernel) rfl
  | 2, _ => mw (i := 300) (by decide +kernel) rfl
  | 3, _ => mw (i := 302) (by decide +kernel) rfl
  | n + 4, h => absurd h (by omega))
theorem dv_2 : ∀ j, j < 4 → defaultValue (tyX2 j) = (if fT 2 j = 0 then .int 0 else if fT 2 j = 1 then .long 0 else .null) := fun j hj => match j, hj with
  | 0, _ => rfl
  | 1, _ => rfl
  | 2, _ => rfl
  | 3, _ => rfl
  | n + 4, h => absurd h (by omega)
theorem lay_3 : ∀ w ∈ u_ws RX3 TX3 5, w ∈ ALLw := lay_in (fun k hk => match k, hk with
  | 0, _ => mw (i := 321) (by decide +kernel) rfl
  | 1, _ => mw (i := 323) (by decide +kernel) rfl
  | 2, _ => mw (i := 325) (by decide +kernel) rfl
  | 3, _ => mw (i := 327) (by decide +kernel) rfl
  | 4, _ => mw (i := 329) (by decide +kernel) rfl
  | n + 5, h => absurd h (by omega))
theorem dv_3 : ∀ j, j < 5 → defaultValue (tyX3 j) = (if fT 3 j = 0 then .int 0 else if fT 3 j = 1 then .long 0 else .null) := fun j hj => match j, hj with
  | 0, _ => rfl
  | 1, _ => rfl
  | 2, _ => rfl
  | 3, _ => rfl
  | 4, _ => rfl
  | n + 5, h => absurd h (by omega)
theorem lay_4 : ∀ w ∈ u_ws RX4 TX4 4, w ∈ ALLw := lay_in (fun k hk => match k, hk with
  | 0, _ => mw (i := 271) (by decide +kernel) rfl
  | 1, _ => mw (i := 273) (by decide +kernel) rfl
  | 2, _ => mw (i := 275) (by decide +kernel) rfl
  | 3, _ => mw (i := 277) (by decide +kernel) rfl
  | n + 4, h => absurd h (by omega))
theorem dv_4 : ∀ j, j < 4 → defaultValue (tyX4 j) = (if fT 4 j = 0 then .int 0 else if fT 4 j = 1 then .long 0 else .null) := fun j hj => match j, hj with
  | 0, _ => rfl
  | 1, _ => rfl
  | 2, _ => rfl
  | 3, _ => rfl
  | n + 4, h => absurd h (by omega)
theorem lay_5 : ∀ w ∈ u_ws RX5 TX5 5, w ∈ ALLw := lay_in (fun k hk => match k, hk with
  | 0, _ => mw (i := 484) (by decide +kernel) rfl
  | 1, _ => mw (i := 486) (by decide +kernel) rfl
  | 2, _ => mw (i := 488) (by decide +kernel) rfl
  | 3, _ => mw (i := 490) (by decide +kernel) rfl
  | 4, _ => mw (i := 492) (by decide +kernel) rfl
  | n + 5, h => absurd h (by omega))
theorem dv_5 : ∀ j, j < 5 → defaultValue (tyX5 j) = (if fT 5 j = 0 then .int 0 else if fT 5 j = 1 then .long 0 else .null) := fun j hj => match j, hj with
  | 0, _ => rfl
  | 1, _ => rfl
  | 2, _ => rfl
  | 3, _ => rfl
  | 4, _ => rfl
  | n + 5, h => absurd h (by omega)
theorem lay_6 : ∀ w ∈ u_ws RX6 TX6 1, w ∈ ALLw := lay_in (fun k hk => match k, hk with
  | 0, _ => mw (i := 538) (by decide +kernel) rfl
  | n + 1, h => absurd h (by omega))
theorem dv_6 : ∀ j, j < 1 → defaultValue (tyX6 j) = (if fT 6 j = 0 then .int 0 else if fT 6 j = 1 then .long 0 else .null) := fun j hj => match j, hj with
  | 0, _ => rfl
  | n + 1, h => absurd h (by omega)
theorem lay_7 : ∀ w ∈ u_ws RX7 TX7 7, w ∈ ALLw := lay_in (fun k hk => match k, hk with
  | 0, _ => mw (i := 461) (by decide +kernel) rfl
  | 1, _ => mw (i := 463) (by decide +kernel) rfl
  | 2, _ => mw (i := 465) (by decide +kernel) rfl
  | 3, _ => mw (i := 467) (by decide +kernel) rfl
  | 4, _ => mw (i := 469) (by decide +kernel) rfl
  | 5, _ => mw (i := 471) (by decide +kernel) rfl
  | 6, _ => mw (i := 473) (by decide +kernel) rfl
  | n + 7, h => absurd h (by omega))
theorem dv_7 : ∀ j, j < 7 → defaultValue (tyX7 j) = (if fT 7 j = 0 then .int 0 else if fT 7 j = 1 then .long 0 else .null) := fun j hj => match j, hj with
  | 0, _ => rfl
  | 1, _ => rfl
  | 2, _ => rfl
  | 3, _ => rfl
  | 4, _ => rfl
  | 5, _ => rfl
  | 6, _ => rfl
  | n + 7, h => absurd h (by omega)
theorem lay_8 : ∀ w ∈ u_ws RX8 TX8 7, w ∈ ALLw := lay_in (fun k hk => match k, hk with
  | 0, _ => mw (i := 237) (by decide +kernel) rfl
  | 1, _ => mw (i := 239) (by decide +kernel) rfl
  | 2, _ => mw (i := 241) (by decide +kernel) rfl
  | 3, _ => mw (i := 243) (by decide +kernel) rfl
  | 4, _ => mw (i := 245) (by decide +kernel) rfl
  | 5, _ => mw (i := 247) (by decide +kernel) rfl
  | 6, _ => mw (i := 249) (by decide +kernel) rfl
  | n + 7, h => absurd h (by omega))
theorem dv_8 : ∀ j, j < 7 → defaultValue (tyX8 j) = (if fT 8 j = 0 then .int 0 else if fT 8 j = 1 then .long 0 else .null) := fun j hj => match j, hj with
  | 0, _ => rfl
  | 1, _ => rfl
  | 2, _ => rfl
  | 3, _ => rfl
  | 4, _ => rfl
  | 5, _ => rfl
  | 6, _ => rfl
  | n + 7, h => absurd h (by omega)
theorem lay_9 : ∀ w ∈ u_ws RX9 TX9 15, w ∈ ALLw := lay_in (fun k hk => match k, hk with
  | 0, _ => mw (i := 556) (by decide +kernel) rfl
  | 1, _ => mw (i := 558) (by decide +kernel) rfl
  | 2, _ => mw (i := 560) (by decide +kernel) rfl
  | 3, _ => mw (i := 562) (by decide +kernel) rfl
  | 4, _ => mw (i := 564) (by decide +kernel) rfl
  | 5, _ => mw (i := 566) (by decide +kernel) rfl
  | 6, _ => mw (i := 568) (by decide +kernel) rfl
  | 7, _ => mw (i := 570) (by decide +kernel) rfl
  | 8, _ => mw (i := 572) (by decide +kernel) rfl
  | 9, _ => mw (i := 574) (by decide +kernel) rfl
  | 10, _ => mw (i := 576) (by decide +kernel) rfl
  | 11, _ => mw (i := 578) (by decide +kernel) rfl
  | 12, _ => mw (i := 580) (by decide +kernel) rfl
  | 13, _ => mw (i := 582) (by decide +kernel) rfl
  | 14, _ => mw (i := 584) (by decide +kernel) rfl
  | n + 15, h => absurd h (by omega))
theorem dv_9 : ∀ j, j < 15 → defaultValue (tyX9 j) = (if fT 9 j = 0 then .int 0 else if fT 9 j = 1 then .long 0 else .null) := fun j hj => match j, hj with
  | 0, _ => rfl
  | 1, _ => rfl
  | 2, _ => rfl
  | 3, _ => rfl
  | 4, _ => rfl
  | 5, _ => rfl
  | 6, _ => rfl
  | 7, _ => rfl
  | 8, _ => rfl
  | 9, _ => rfl
  | 10, _ => rfl
  | 11, _ => rfl
  | 12, _ => rfl
  | 13, _ => rfl
  | 14, _ => rfl
  | n + 15, h => absurd h (by omega)
theorem lay_10 : ∀ w ∈ u_ws RX10 TX10 24, w ∈ ALLw := lay_in (fun k hk => match k, hk with
  | 0, _ => mw (i := 2025) (by decide +kernel) rfl
  | 1, _ => mw (i := 2027) (by decide +kernel) rfl
  | 2, _ => mw (i := 2029) (by decide +kernel) rfl
  | 3, _ => mw (i := 2031) (by decide +kernel) rfl
  | 4, _ => mw (i := 2033) (by decide +kernel) rfl
  | 5, _ => mw (i := 2035) (by decide +kernel) rfl
  | 6, _ => mw (i := 2037) (by decide +kernel) rfl
  | 7, _ => mw (i := 2039) (by decide +kernel) rfl
  | 8, _ => mw (i := 2041) (by decide +kernel) rfl
  | 9, _ => mw (i := 2043) (by decide +kernel) rfl
  | 10, _ => mw (i := 2045) (by decide +kernel) rfl
  | 11, _ => mw (i := 2047) (by decide +kernel) rfl
  | 12, _ => mw (i := 2049) (by decide +kernel) rfl
  | 13, _ => mw (i := 2051) (by decide +kernel) rfl
  | 14, _ => mw (i := 2053) (by decide +kernel) rfl
  | 15, _ => mw (i := 2055) (by decide +kernel) rfl
  | 16, _ => mw (i := 2057) (by decide +kernel) rfl
  | 17, _ => mw (i := 2059) (by decide +kernel) rfl
  | 18, _ => mw (i := 2061) (by decide +kernel) rfl
  | 19, _ => mw (i := 2063) (by decide +kernel) rfl
  | 20, _ => mw (i := 2065) (by decide +kernel) rfl
  | 21, _ => mw (i := 2067) (by decide +kernel) rfl
  | 22, _ => mw (i := 2069) (by decide +kernel) rfl
  | 23, _ => mw (i := 2071) (by decide +kernel) rfl
  | n + 24, h => absurd h (by omega))
theorem dv_10 : ∀ j, j < 24 → defaultValue (tyX10 j) = (if fT 10 j = 0 then .int 0 else if fT 10 j = 1 then .long 0 else .null) := fun j hj => match j, hj with
  | 0, _ => rfl
  | 1, _ => rfl
  | 2, _ => rfl
  | 3, _ => rfl
  | 4, _ => rfl
  | 5, _ => rfl
  | 6, _ => rfl
  | 7, _ => rfl
  | 8, _ => rfl
  | 9, _ => rfl
  | 10, _ => rfl
  | 11, _ => rfl
  | 12, _ => rfl
  | 13, _ => rfl
  | 14, _ => rfl
  | 15, _ => rfl
  | 16, _ => rfl
  | 17, _ => rfl
  | 18, _ => rfl
  | 19, _ => rfl
  | 20, _ => rfl
  | 21, _ => rfl
  | 22, _ => rfl
  | 23, _ => rfl
  | n + 24, h => absurd h (by omega)
theorem lay_11 : ∀ w ∈ u_ws RJ4 TJ4 4, w ∈ ALLw := lay_in (fun k hk => match k, hk with
  | 0, _ => mw (i := 527) (by decide +kernel) rfl
  | 1, _ => mw (i := 529) (by decide +kernel) rfl
  | 2, _ => mw (i := 531) (by decide +kernel) rfl
  | 3, _ => mw (i := 533) (by decide +kernel) rfl
  | n + 4, h => absurd h (by omega))
theorem dv_11 : ∀ j, j < 4 → defaultValue (tyJ4 j) = (if fT 11 j = 0 then .int 0 else if fT 11 j = 1 then .long 0 else .null) := fun j hj => match j, hj with
  | 0, _ => rfl
  | 1, _ => rfl
  | 2, _ => rfl
  | 3, _ => rfl
  | n + 4, h => absurd h (by omega)
