theorem lay_in {C : String} {T : u_T} {N : Nat} (h : ∀ k, k < N → u_lay C T k ∈ ALLw) : ∀ w ∈ u_ws C T N, w ∈ ALLw := by
  intro w hw
  obtain ⟨k, hk, rfl⟩ := List.mem_map.mp hw
  exact h k (List.mem_range.mp hk)
theorem lay_0 : ∀ w ∈ u_ws RX0 TX0 8, w ∈ ALLw := lay_in (fun k hk => match k, hk with
  | 0, _ => mw (i := 243) (by decide +kernel) rfl
  | 1, _ => mw (i := 245) (by decide +kernel) rfl
  | 2, _ => mw (i := 247) (by decide +kernel) rfl
  | 3, _ => mw (i := 249) (by decide +kernel) rfl
  | 4, _ => mw (i := 251) (by decide +kernel) rfl
  | 5, _ => mw (i := 253) (by decide +kernel) rfl
  | 6, _ => mw (i := 255) (by decide +kernel) rfl
  | 7, _ => mw (i := 257) (by decide +kernel) rfl
  | n + 8, h => absurd h (by omega))
theorem dv_0 : ∀ j, j < 8 → defaultValue (tyX0 j) = (if fT 0 j = 0 then .int 0 else if fT 0 j = 1 then .long 0 else .null) := fun j hj => match j, hj with
  | 0, _ => rfl
  | 1, _ => rfl
  | 2, _ => rfl
  | 3, _ => rfl
  | 4, _ => rfl
  | 5, _ => rfl
  | 6, _ => rfl
  | 7, _ => rfl
  | n + 8, h => absurd h (by omega)
theorem lay_1 : ∀ w ∈ u_ws RX1 TX1 12, w ∈ ALLw := lay_in (fun k hk => match k, hk with
  | 0, _ => mw (i := 289) (by decide +kernel) rfl
  | 1, _ => mw (i := 291) (by decide +kernel) rfl
  | 2, _ => mw (i := 293) (by decide +kernel) rfl
  | 3, _ => mw (i := 295) (by decide +kernel) rfl
  | 4, _ => mw (i := 297) (by decide +kernel) rfl
  | 5, _ => mw (i := 299) (by decide +kernel) rfl
  | 6, _ => mw (i := 301) (by decide +kernel) rfl
  | 7, _ => mw (i := 303) (by decide +kernel) rfl
  | 8, _ => mw (i := 305) (by decide +kernel) rfl
  | 9, _ => mw (i := 307) (by decide +kernel) rfl
  | 10, _ => mw (i := 309) (by decide +kernel) rfl
  | 11, _ => mw (i := 311) (by decide +kernel) rfl
  | n + 12, h => absurd h (by omega))
theorem dv_1 : ∀ j, j < 12 → defaultValue (tyX1 j) = (if fT 1 j = 0 then .int 0 else if fT 1 j = 1 then .long 0 else .null) := fun j hj => match j, hj with
  | 0, _ => rfl
  | 1, _ => rfl
  | 2, _ => rfl
  | 3, _ => rfl
  | 4, _ => rfl
  | 5, _ => rfl
  | 6, _ => rfl
  | 7, _ => rfl
  | 8, _ => rfl
  | 9, _ => rfl
  | 10, _ => rfl
  | 11, _ => rfl
  | n + 12, h => absurd h (by omega)
theorem lay_2 : ∀ w ∈ u_ws RX2 TX2 4, w ∈ ALLw := lay_in (fun k hk => match k, hk with
  | 0, _ => mw (i := 175) (by decide +kernel) rfl
  | 1, _ => mw (i := 177) (by decide +kernel) rfl
  | 2, _ => mw (i := 179) (by decide +kernel) rfl
  | 3, _ => mw (i := 181) (by decide +kernel) rfl
  | n + 4, h => absurd h (by omega))
theorem dv_2 : ∀ j, j < 4 → defaultValue (tyX2 j) = (if fT 2 j = 0 then .int 0 else if fT 2 j = 1 then .long 0 else .null) := fun j hj => match j, hj with
  | 0, _ => rfl
  | 1, _ => rfl
  | 2, _ => rfl
  | 3, _ => rfl
  | n + 4, h => absurd h (by omega)
theorem lay_3 : ∀ w ∈ u_ws RX3 TX3 5, w ∈ ALLw := lay_in (fun k hk => match k, hk with
  | 0, _ => mw (i := 200) (by decide +kernel) rfl
  | 1, _ => mw (i := 202) (by decide +kernel) rfl
  | 2, _ => mw (i := 204) (by decide +kernel) rfl
  | 3, _ => mw (i := 206) (by decide +kernel) rfl
  | 4, _ => mw (i := 208) (by decide +kernel) rfl
  | n + 5, h => absurd h (by omega))
theorem dv_3 : ∀ j, j < 5 → defaultValue (tyX3 j) = (if fT 3 j = 0 then .int 0 else if fT 3 j = 1 then .long 0 else .null) := fun j hj => match j, hj with
  | 0, _ => rfl
  | 1, _ => rfl
  | 2, _ => rfl
  | 3, _ => rfl
  | 4, _ => rfl
  | n + 5, h => absurd h (by omega)
theorem lay_4 : ∀ w ∈ u_ws RX4 TX4 4, w ∈ ALLw := lay_in (fun k hk => match k, hk with
  | 0, _ => mw (i := 152) (by decide +kernel) rfl
  | 1, _ => mw (i := 154) (by decide +kernel) rfl
  | 2, _ => mw (i := 156) (by decide +kernel) rfl
  | 3, _ => mw (i := 158) (by decide +kernel) rfl
  | n + 4, h => absurd h (by omega))
theorem dv_4 : ∀ j, j < 4 → defaultValue (tyX4 j) = (if fT 4 j = 0 then .int 0 else if fT 4 j = 1 then .long 0 else .null) := fun j hj => match j, hj with
  | 0, _ => rfl
  | 1, _ => rfl
  | 2, _ => rfl
  | 3, _ => rfl
  | n + 4, h => absurd h (by omega)
theorem lay_5 : ∀ w ∈ u_ws RX5 TX5 5, w ∈ ALLw := lay_in (fun k hk => match k, hk with
  | 0, _ => mw (i := 360) (by decide +kernel) rfl
  | 1, _ => mw (i := 362) (by decide +kernel) rfl
  | 2, _ => mw (i := 364) (by decide +kernel) rfl
  | 3, _ => mw (i := 366) (by decide +kernel) rfl
  | 4, _ => mw (i := 368) (by decide +kernel) rfl
  | n + 5, h => absurd h (by omega))
theorem dv_5 : ∀ j, j < 5 → defaultValue (tyX5 j) = (if fT 5 j = 0 then .int 0 else if fT 5 j = 1 then .long 0 else .null) := fun j hj => match j, hj with
  | 0, _ => rfl
  | 1, _ => rfl
  | 2, _ => rfl
  | 3, _ => rfl
  | 4, _ => rfl
  | n + 5, h => absurd h (by omega)
theorem lay_6 : ∀ w ∈ u_ws RX6 TX6 1, w ∈ ALLw := lay_in (fun k hk => match k, hk with
  | 0, _ => mw (i := 412) (by decide +kernel) rfl
  | n + 1, h => absurd h (by omega))
theorem dv_6 : ∀ j, j < 1 → defaultValue (tyX6 j) = (if fT 6 j = 0 then .int 0 else if fT 6 j = 1 then .long 0 else .null) := fun j hj => match j, hj with
  | 0, _ => rfl
  | n + 1, h => absurd h (by omega)
theorem lay_7 : ∀ w ∈ u_ws RX7 TX7 7, w ∈ ALLw := lay_in (fun k hk => match k, hk with
  | 0, _ => mw (i := 338) (by decide +kernel) rfl
  | 1, _ => mw (i := 340) (by decide +kernel) rfl
  | 2, _ => mw (i := 342) (by decide +kernel) rfl
  | 3, _ => mw (i := 344) (by decide +kernel) rfl
  | 4, _ => mw (i := 346) (by decide +kernel) rfl
  | 5, _ => mw (i := 348) (by decide +kernel) rfl
  | 6, _ => mw (i := 350) (by decide +kernel) rfl
  | n + 7, h => absurd h (by omega))
theorem dv_7 : ∀ j, j < 7 → defaultValue (tyX7 j) = (if fT 7 j = 0 then .int 0 else if fT 7 j = 1 then .long 0 else .null) := fun j hj => match j, hj with
  | 0, _ => rfl
  | 1, _ => rfl
  | 2, _ => rfl
  | 3, _ => rfl
  | 4, _ => rfl
  | 5, _ => rfl
  | 6, _ => rfl
  | n + 7, h => absurd h (by omega)
theorem lay_8 : ∀ w ∈ u_ws RX8 TX8 7, w ∈ ALLw := lay_in (fun k hk => match k, hk with
  | 0, _ => mw (i := 118) (by decide +kernel) rfl
  | 1, _ => mw (i := 120) (by decide +kernel) rfl
  | 2, _ => mw (i := 122) (by decide +kernel) rfl
  | 3, _ => mw (i := 124) (by decide +kernel) rfl
  | 4, _ => mw (i := 126) (by decide +kernel) rfl
  | 5, _ => mw (i := 128) (by decide +kernel) rfl
  | 6, _ => mw (i := 130) (by decide +kernel) rfl
  | n + 7, h => absurd h (by omega))
theorem dv_8 : ∀ j, j < 7 → defaultValue (tyX8 j) = (if fT 8 j = 0 then .int 0 else if fT 8 j = 1 then .long 0 else .null) := fun j hj => match j, hj with
  | 0, _ => rfl
  | 1, _ => rfl
  | 2, _ => rfl
  | 3, _ => rfl
  | 4, _ => rfl
  | 5, _ => rfl
  | 6, _ => rfl
  | n + 7, h => absurd h (by omega)
theorem lay_9 : ∀ w ∈ u_ws RX9 TX9 15, w ∈ ALLw := lay_in (fun k hk => match k, hk with
  | 0, _ => mw (i := 430) (by decide +kernel) rfl
  | 1, _ => mw (i := 432) (by decide +kernel) rfl
  | 2, _ => mw (i := 434) (by decide +kernel) rfl
  | 3, _ => mw (i := 436) (by decide +kernel) rfl
  | 4, _ => mw (i := 438) (by decide +kernel) rfl
  | 5, _ => mw (i := 440) (by decide +kernel) rfl
  | 6, _ => mw (i := 442) (by decide +kernel) rfl
  | 7, _ => mw (i := 444) (by decide +kernel) rfl
  | 8, _ => mw (i := 446) (by decide +kernel) rfl
  | 9, _ => mw (i := 448) (by decide +kernel) rfl
  | 10, _ => mw (i := 450) (by decide +kernel) rfl
  | 11, _ => mw (i := 452) (by decide +kernel) rfl
  | 12, _ => mw (i := 454) (by decide +kernel) rfl
  | 13, _ => mw (i := 456) (by decide +kernel) rfl
  | 14, _ => mw (i := 458) (by decide +kernel) rfl
  | n + 15, h => absurd h (by omega))
theorem dv_9 : ∀ j, j < 15 → defaultValue (tyX9 j) = (if fT 9 j = 0 then .int 0 else if fT 9 j = 1 then .long 0 else .null) := fun j hj => match j, hj with
  | 0, _ => rfl
  | 1, _ => rfl
  | 2, _ => rfl
  | 3, _ => rfl
  | 4, _ => rfl
  | 5, _ => rfl
  | 6, _ => rfl
  | 7, _ => rfl
  | 8, _ => rfl
  | 9, _ => rfl
  | 10, _ => rfl
  | 11, _ => rfl
  | 12, _ => rfl
  | 13, _ => rfl
  | 14, _ => rfl
  | n + 15, h => absurd h (by omega)
theorem lay_10 : ∀ w ∈ u_ws RX10 TX10 8, w ∈ ALLw := lay_in (fun k hk => match k, hk with
  | 0, _ => mw (i := 1533) (by decide +kernel) rfl
  | 1, _ => mw (i := 1535) (by decide +kernel) rfl
  | 2, _ => mw (i := 1537) (by decide +kernel) rfl
  | 3, _ => mw (i := 1539) (by decide +kernel) rfl
  | 4, _ => mw (i := 1541) (by decide +kernel) rfl
  | 5, _ => mw (i := 1543) (by decide +kernel) rfl
  | 6, _ => mw (i := 1545) (by decide +kernel) rfl
  | 7, _ => mw (i := 1547) (by decide +kernel) rfl
  | n + 8, h => absurd h (by omega))
theorem dv_10 : ∀ j, j < 8 → defaultValue (tyX10 j) = (if fT 10 j = 0 then .int 0 else if fT 10 j = 1 then .long 0 else .null) := fun j hj => match j, hj with
  | 0, _ => rfl
  | 1, _ => rfl
  | 2, _ => rfl
  | 3, _ => rfl
  | 4, _ => rfl
  | 5, _ => rfl
  | 6, _ => rfl
  | 7, _ => rfl
  | n + 8, h => absurd h (by omega)
theorem lay_11 : ∀ w ∈ u_ws RJ4 TJ4 4, w ∈ ALLw := lay_in (fun k hk => match k, hk with
  | 0, _ => mw (i := 402) (by decide +kernel) rfl
  | 1, _ => mw (i := 404) (by decide +kernel) rfl
  | 2, _ => mw (i := 406) (by decide +kernel) rfl
  | 3, _ => mw (i := 408) (by decide +kernel) rfl
  | n + 4, h => absurd h (by omega))
theorem dv_11 : ∀ j, j < 4 → defaultValue (tyJ4 j) = (if fT 11 j = 0 then .int 0 else if fT 11 j = 1 then .long 0 else .null) := fun j hj => match j, hj with
  | 0, _ => rfl
  | 1, _ => rfl
  | 2, _ => rfl
  | 3, _ => rfl
  | n + 4, h => absurd h (by omega)
theorem lay_12 : ∀ w ∈ u_ws RJx4a65c TJx4a65c 3, w ∈ ALLw := lay_in (fun k hk => match k, hk with
  | 0, _ => mw (i := 1273) (by decide +kernel) rfl
  | 1, _ => mw (i := 1269) (by decide +kernel) rfl
  | 2, _ => mw (i := 1271) (by decide +kernel) rfl
  | n + 3, h => absurd h (by omega))
theorem dv_12 : ∀ j, j < 3 → defaultValue (tyJx4a65c j) = (if fT 12 j = 0 then .int 0 else if fT 12 j = 1 then .long 0 else .null) := fun j hj => match j, hj with
  | 0, _ => rfl
  | 1, _ => rfl
  | 2, _ => rfl
  | n + 3, h => absurd h (by omega)
theorem lay_13 : ∀ w ∈ u_ws RX11 TX11 7, w ∈ ALLw := lay_in (fun k hk => match k, hk with
  | 0, _ => mw (i := 1285) (by decide +kernel) rfl
  | 1, _ => mw (i := 1287) (by decide +kernel) rfl
  | 2, _ => mw (i := 1289) (by decide +kernel) rfl
  | 3, _ => mw (i := 1291) (by decide +kernel) rfl
  | 4, _ => mw (i := 1293) (by decide +kernel) rfl
  | 5, _ => mw (i := 1295) (by decide +kernel) rfl
  | 6, _ => mw (i := 1297) (by decide +kernel) rfl
  | n + 7, h => absurd h (by omega))
theorem dv_13 : ∀ j, j < 7 → defaultValue (tyX11 j) = (if fT 13 j = 0 then .int 0 else if fT 13 j = 1 then .long 0 else .null) := fun j hj => match j, hj with
  | 0, _ => rfl
  | 1, _ => rfl
  | 2, _ => rfl
  | 3, _ => rfl
  | 4, _ => rfl
  | 5, _ => rfl
  | 6, _ => rfl
  | n + 7, h => absurd h (by omega)
theorem lay_14 : ∀ w ∈ u_ws RX12 TX12 4, w ∈ ALLw := lay_in (fun k hk => match k, hk with
  | 0, _ => mw (i := 1680) (by decide +kernel) rfl
  | 1, _ => mw (i := 1682) (by decide +kernel) rfl
  | 2, _ => mw (i := 1684) (by decide +kernel) rfl
  | 3, _ => mw (i := 1686) (by decide +kernel) rfl
  | n + 4, h => absurd h (by omega))
theorem dv_14 : ∀ j, j < 4 → defaultValue (tyX12 j) = (if fT 14 j = 0 then .int 0 else if fT 14 j = 1 then .long 0 else .null) := fun j hj => match j, hj with
  | 0, _ => rfl
  | 1, _ => rfl
  | 2, _ => rfl
  | 3, _ => rfl
  | n + 4, h => absurd h (by omega)
theorem lay_15 : ∀ w ∈ u_ws RJ0 TJ0 4, w ∈ ALLw := lay_in (fun k hk => match k, hk with
  | 0, _ => mw (i := 1641) (by decide +kernel) rfl
  | 1, _ => mw (i := 1643) (by decide +kernel) rfl
  | 2, _ => mw (i := 1645) (by decide +kernel) rfl
  | 3, _ => mw (i := 1647) (by decide +kernel) rfl
  | n + 4, h => absurd h (by omega))
theorem dv_15 : ∀ j, j < 4 → defaultValue (tyJ0 j) = (if fT 15 j = 0 then .int 0 else if fT 15 j = 1 then .long 0 else .null) := fun j hj => match j, hj with
  | 0, _ => rfl
  | 1, _ => rfl
  | 2, _ => rfl
  | 3, _ => rfl
  | n + 4, h => absurd h (by omega)
