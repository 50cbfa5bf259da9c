theorem mi0 : ∀ w ∈ u_ws RJx4a65c TJx4a65c 3, w ∈ mm_tb := by
  intro w hw
  obtain ⟨k, hk, rfl⟩ := List.mem_map.mp hw
  have h := (show ∀ k, k < 3 → (mm_chunk (([1, 1, 1] : List Nat).getD k 0))[([58, 54, 56] : List Nat).getD k 0]? = some (u_lay RJx4a65c TJx4a65c k) ∧ goodWord (u_lay RJx4a65c TJx4a65c k) = true by decide +kernel) k (List.mem_range.mp hk)
  exact mm_inC _ _ h.1 h.2
theorem mi1 : ∀ w ∈ u_ws RX0 TX0 13, w ∈ mm_tb := by
  intro w hw
  obtain ⟨k, hk, rfl⟩ := List.mem_map.mp hw
  have h := (show ∀ k, k < 13 → (mm_chunk (([5, 5, 5, 5, 5, 5, 5, 5, 5, 5, 5, 5, 5] : List Nat).getD k 0))[([8, 10, 12, 14, 16, 18, 20, 22, 24, 26, 28, 30, 32] : List Nat).getD k 0]? = some (u_lay RX0 TX0 k) ∧ goodWord (u_lay RX0 TX0 k) = true by decide +kernel) k (List.mem_range.mp hk)
  exact mm_inC _ _ h.1 h.2
theorem mi2 : ∀ w ∈ u_ws RX1 TX1 10, w ∈ mm_tb := by
  intro w hw
  obtain ⟨k, hk, rfl⟩ := List.mem_map.mp hw
  have h := (show ∀ k, k < 10 → (mm_chunk (([2, 2, 2, 2, 2, 2, 2, 2, 2, 2] : List Nat).getD k 0))[([96, 98, 100, 102, 104, 106, 108, 110, 112, 114] : List Nat).getD k 0]? = some (u_lay RX1 TX1 k) ∧ goodWord (u_lay RX1 TX1 k) = true by decide +kernel) k (List.mem_range.mp hk)
  exact mm_inC _ _ h.1 h.2
theorem mi3 : ∀ w ∈ u_ws RX2 TX2 5, w ∈ mm_tb := by
  intro w hw
  obtain ⟨k, hk, rfl⟩ := List.mem_map.mp hw
  have h := (show ∀ k, k < 5 → (mm_chunk (([1, 1, 1, 1, 1] : List Nat).getD k 0))[([130, 132, 134, 136, 138] : List Nat).getD k 0]? = some (u_lay RX2 TX2 k) ∧ goodWord (u_lay RX2 TX2 k) = true by decide +kernel) k (List.mem_range.mp hk)
  exact mm_inC _ _ h.1 h.2
theorem mi4 : ∀ w ∈ u_ws RX3 TX3 6, w ∈ mm_tb := by
  intro w hw
  obtain ⟨k, hk, rfl⟩ := List.mem_map.mp hw
  have h := (show ∀ k, k < 6 → (mm_chunk (([2, 2, 2, 2, 2, 2] : List Nat).getD k 0))[([60, 62, 64, 66, 68, 70] : List Nat).getD k 0]? = some (u_lay RX3 TX3 k) ∧ goodWord (u_lay RX3 TX3 k) = true by decide +kernel) k (List.mem_range.mp hk)
  exact mm_inC _ _ h.1 h.2
theorem mi5 : ∀ w ∈ u_ws RX4 TX4 6, w ∈ mm_tb := by
  intro w hw
  obtain ⟨k, hk, rfl⟩ := List.mem_map.mp hw
  have h := (show ∀ k, k < 6 → (mm_chunk (([4, 4, 4, 4, 4, 4] : List Nat).getD k 0))[([92, 94, 96, 98, 100, 102] : List Nat).getD k 0]? = some (u_lay RX4 TX4 k) ∧ goodWord (u_lay RX4 TX4 k) = true by decide +kernel) k (List.mem_range.mp hk)
  exact mm_inC _ _ h.1 h.2
theorem mi6 : ∀ w ∈ u_ws RX5 TX5 14, w ∈ mm_tb := by
  intro w hw
  obtain ⟨k, hk, rfl⟩ := List.mem_map.mp hw
  have h := (show ∀ k, k < 14 → (mm_chunk (([1, 1, 1, 1, 1, 1, 1, 1, 1, 1, 1, 1, 1, 1] : List Nat).getD k 0))[([82, 84, 86, 88, 90, 92, 94, 96, 98, 100, 102, 104, 106, 108] : List Nat).getD k 0]? = some (u_lay RX5 TX5 k) ∧ goodWord (u_lay RX5 TX5 k) = true by decide +kernel) k (List.mem_range.mp hk)
  exact mm_inC _ _ h.1 h.2
theorem mi7 : ∀ w ∈ u_ws RX6 TX6 5, w ∈ mm_tb := by
  intro w hw
  obtain ⟨k, hk, rfl⟩ := List.mem_map.mp hw
  have h := (show ∀ k, k < 5 → (mm_chunk (([3, 3, 3, 3, 3] : List Nat).getD k 0))[([140, 142, 144, 146, 148] : List Nat).getD k 0]? = some (u_lay RX6 TX6 k) ∧ goodWord (u_lay RX6 TX6 k) = true by decide +kernel) k (List.mem_range.mp hk)
  exact mm_inC _ _ h.1 h.2
theorem mi8 : ∀ w ∈ u_ws RX7 TX7 7, w ∈ mm_tb := by
  intro w hw
  obtain ⟨k, hk, rfl⟩ := List.mem_map.mp hw
  have h := (show ∀ k, k < 7 → (mm_chunk (([2, 2, 2, 2, 2, 2, 2] : List Nat).getD k 0))[([197, 199, 201, 203, 205, 207, 209] : List Nat).getD k 0]? = some (u_lay RX7 TX7 k) ∧ goodWord (u_lay RX7 TX7 k) = true by decide +kernel) k (List.mem_range.mp hk)
  exact mm_inC _ _ h.1 h.2
theorem mi9 : ∀ w ∈ u_ws RX8 TX8 6, w ∈ mm_tb := by
  intro w hw
  obtain ⟨k, hk, rfl⟩ := List.mem_map.mp hw
  have h := (show ∀ k, k < 6 → (mm_chunk (([1, 1, 1, 1, 1, 1] : List Nat).getD k 0))[([155, 157, 159, 161, 163, 165] : List Nat).getD k 0]? = some (u_lay RX8 TX8 k) ∧ goodWord (u_lay RX8 TX8 k) = true by decide +kernel) k (List.mem_range.mp hk)
  exact mm_inC _ _ h.1 h.2
theorem mi10 : ∀ w ∈ u_ws RX9 TX9 14, w ∈ mm_tb := by
  intro w hw
  obtain ⟨k, hk, rfl⟩ := List.mem_map.mp hw
  have h := (show ∀ k, k < 14 → (mm_chunk (([2, 2, 2, 2, 2, 2, 2, 2, 2, 2, 2, 2, 2, 2] : List Nat).getD k 0))[([16, 18, 20, 22, 24, 26, 28, 30, 32, 34, 36, 38, 40, 42] : List Nat).getD k 0]? = some (u_lay RX9 TX9 k) ∧ goodWord (u_lay RX9 TX9 k) = true by decide +kernel) k (List.mem_range.mp hk)
  exact mm_inC _ _ h.1 h.2
theorem mi11 : ∀ w ∈ u_ws RX10 TX10 16, w ∈ mm_tb := by
  intro w hw
  obtain ⟨k, hk, rfl⟩ := List.mem_map.mp hw
  have h := (show ∀ k, k < 16 → (mm_chunk (([1, 1, 1, 1, 1, 1, 1, 1, 1, 1, 1, 1, 1, 1, 1, 1] : List Nat).getD k 0))[([196, 198, 200, 202, 204, 206, 208, 210, 212, 214, 216, 218, 220, 222, 224, 226] : List Nat).getD k 0]? = some (u_lay RX10 TX10 k) ∧ goodWord (u_lay RX10 TX10 k) = true by decide +kernel) k (List.mem_range.mp hk)
  exact mm_inC _ _ h.1 h.2
theorem mi12 : ∀ w ∈ u_ws RX11 TX11 15, w ∈ mm_tb := by
  intro w hw
  obtain ⟨k, hk, rfl⟩ := List.mem_map.mp hw
  have h := (show ∀ k, k < 15 → (mm_chunk (([2, 2, 2, 2, 2, 2, 2, 2, 2, 2, 2, 2, 2, 2, 2] : List Nat).getD k 0))[([132, 134, 136, 138, 140, 142, 144, 146, 148, 150, 152, 154, 156, 158, 160] : List Nat).getD k 0]? = some (u_lay RX11 TX11 k) ∧ goodWord (u_lay RX11 TX11 k) = true by decide +kernel) k (List.mem_range.mp hk)
  exact mm_inC _ _ h.1 h.2
theorem mi13 : ∀ w ∈ u_ws RX12 TX12 117, w ∈ mm_tb := by
  intro w hw
  obtain ⟨k, hk, rfl⟩ := List.mem_map.mp hw
  have h := (show ∀ k, k < 117 → (mm_chunk (([7, 7, 7, 7, 7, 7, 7, 7, 7, 7, 7, 7, 7, 7, 7, 7, 7, 7, 7, 7, 7, 7, 7, 7, 7, 7, 7, 7, 7, 7, 7, 7, 7, 7, 7, 7, 7, 7, 7, 7, 7, 7, 7, 7, 7, 7, 7, 7, 7, 7, 7, 7, 7, 7, 7, 7, 7, 7, 7, 7, 7, 7, 7, 7, 7, 7, 7, 7, 7, 7, 7, 7, 7, 7, 7, 7, 7, 7, 7, 7, 7, 7, 7, 7, 7, 7, 7, 7, 7, 7, 7, 7, 7, 7, 7, 7, 7, 7, 7, 7, 7, 7, 7, 8, 8, 8, 8, 8, 8, 8, 8, 8, 8, 8, 8, 8, 8] : List Nat).getD k 0))[([35, 37, 39, 41, 43, 45, 47, 49, 51, 53, 55, 57, 59, 61, 63, 65, 67, 69, 71, 73, 75, 77, 79, 81, 83, 85, 87, 89, 91, 93, 95, 97, 99, 101, 103, 105, 107, 109, 111, 113, 115, 117, 119, 121, 123, 125, 127, 129, 131, 133, 135, 137, 139, 141, 143, 145, 147, 149, 151, 153, 155, 157, 159, 161, 163, 165, 167, 169, 171, 173, 175, 177, 179, 181, 183, 185, 187, 189, 191, 193, 195, 197, 199, 201, 203, 205, 207, 209, 211, 213, 215, 217, 219, 221, 223, 225, 227, 229, 231, 233, 235, 237, 239, 1, 3, 5, 7, 9, 11, 13, 15, 17, 19, 21, 23, 25, 27] : List Nat).getD k 0]? = some (u_lay RX12 TX12 k) ∧ goodWord (u_lay RX12 TX12 k) = true by decide +kernel) k (List.mem_range.mp hk)
  exact mm_inC _ _ h.1 h.2
theorem ma_boolean : Cond.arrayClass .boolean ∈ mm_tb := (mm_in8 30 (by decide +kernel) (by decide +kernel))
theorem ma_byte : Cond.arrayClass .byte ∈ mm_tb := (mm_in1 112 (by decide +kernel) (by decide +kernel))
theorem ma_int : Cond.arrayClass .int ∈ mm_tb := (mm_in1 111 (by decide +kernel) (by decide +kernel))
theorem ma_long : Cond.arrayClass .long ∈ mm_tb := (mm_in1 141 (by decide +kernel) (by decide +kernel))
theorem mk_X2_42 : mm_ca RX2 42 5 := ⟨RX4, TX4, 6, rfl, by decide, (mm_in4 115 (by decide +kernel) (by decide +kernel))⟩
theorem mk_X11_146 : mm_ca RX11 146 7 := ⟨RX6, TX6, 5, rfl, by decide, (mm_in3 111 (by decide +kernel) (by decide +kernel))⟩
theorem mk_X11_256 : mm_ca RX11 256 1 := ⟨RX0, TX0, 13, rfl, by decide, (mm_in3 67 (by decide +kernel) (by decide +kernel))⟩
theorem mk_X11_98 : mm_ca RX11 98 8 := ⟨RX7, TX7, 7, rfl, by decide, (mm_in2 179 (by decide +kernel) (by decide +kernel))⟩
theorem mc_X7_34 : Cond.constant RX7 34 (2000000000) ∈ mm_tb := (mm_in3 86 (by decide +kernel) (by decide +kernel))
theorem mc_X8_73 : Cond.constant RX8 73 (2000000000) ∈ mm_tb := (mm_in5 183 (by decide +kernel) (by decide +kernel))
theorem mc_X11_145 : Cond.constant RX11 145 (100000) ∈ mm_tb := (mm_in3 124 (by decide +kernel) (by decide +kernel))
theorem mc_X11_97 : Cond.constant RX11 97 (1000000) ∈ mm_tb := (mm_in2 178 (by decide +kernel) (by decide +kernel))
theorem mc_X12_279 : Cond.constant RX12 279 (1000000) ∈ mm_tb := (mm_in8 42 (by decide +kernel) (by decide +kernel))
theorem mc_X12_280 : Cond.constant RX12 280 (100000) ∈ mm_tb := (mm_in8 43 (by decide +kernel) (by decide +kernel))
theorem mc_X12_544 : Cond.constant RX12 544 (2000000000) ∈ mm_tb := (mm_in9 129 (by decide +kernel) (by decide +kernel))
theorem mc_J6_265 : Cond.constant RJ6 265 (1431655765) ∈ mm_tb := (mm_in6 77 (by decide +kernel) (by decide +kernel))
theorem mc_J6_266 : Cond.constant RJ6 266 (858993459) ∈ mm_tb := (mm_in6 78 (by decide +kernel) (by decide +kernel))
theorem mc_J6_267 : Cond.constant RJ6 267 (252645135) ∈ mm_tb := (mm_in6 79 (by decide +kernel) (by decide +kernel))
theorem mc_J8_200 : Cond.constant RJ8 200 (2147483639) ∈ mm_tb := (mm_in2 234 (by decide +kernel) (by decide +kernel))
theorem mc_X8_74 : Cond.constantLong RX8 74 (2000000000) ∈ mm_tb := (mm_in5 174 (by decide +kernel) (by decide +kernel))
theorem mc_X9_51 : Cond.constantLong RX9 51 (-1) ∈ mm_tb := (mm_in6 14 (by decide +kernel) (by decide +kernel))
theorem mc_X11_380 : Cond.constantLong RX11 380 (-1) ∈ mm_tb := (mm_in5 220 (by decide +kernel) (by decide +kernel))
theorem mc_X12_542 : Cond.constantLong RX12 542 (2000000000) ∈ mm_tb := (mm_in9 128 (by decide +kernel) (by decide +kernel))
theorem mc_X12_545 : Cond.constantLong RX12 545 (15) ∈ mm_tb := (mm_in9 134 (by decide +kernel) (by decide +kernel))
theorem mc_X12_553 : Cond.constantLong RX12 553 (-1) ∈ mm_tb := (mm_in9 149 (by decide +kernel) (by decide +kernel))
theorem mc_X12_585 : Cond.constantLong RX12 585 (10000000000) ∈ mm_tb := (mm_in9 205 (by decide +kernel) (by decide +kernel))
theorem mc_X12_587 : Cond.constantLong RX12 587 (100000) ∈ mm_tb := (mm_in9 206 (by decide +kernel) (by decide +kernel))
theorem mw_X5_67 : mm_cw RX5 67 := ⟨(mm_in4 72 (by decide +kernel) (by decide +kernel)), (mm_in3 30 (by decide +kernel) (by decide +kernel)), (mm_in3 29 (by decide +kernel) (by decide +kernel)), (mm_in1 17 (by decide +kernel) (by decide +kernel))⟩
theorem mw_X9_74 : mm_cw RX9 74 := ⟨(mm_in6 26 (by decide +kernel) (by decide +kernel)), (mm_in3 30 (by decide +kernel) (by decide +kernel)), (mm_in3 29 (by decide +kernel) (by decide +kernel)), (mm_in1 17 (by decide +kernel) (by decide +kernel))⟩
theorem mw_J7_150 : mm_cw RJ7 150 := ⟨(mm_in3 28 (by decide +kernel) (by decide +kernel)), (mm_in3 30 (by decide +kernel) (by decide +kernel)), (mm_in3 29 (by decide +kernel) (by decide +kernel)), (mm_in1 17 (by decide +kernel) (by decide +kernel))⟩
theorem mf_X0_15 : mm_fl RX0 15 1 1 := ⟨RX0, TX0, 13, "MerchantYard$Bargain", rfl, mi1, by decide, rfl, by decide, (mm_in4 225 (by decide +kernel) (by decide +kernel)), Or.inl rfl⟩
theorem mf_X0_18 : mm_fl RX0 18 1 2 := ⟨RX0, TX0, 13, "MerchantYard$Bargain", rfl, mi1, by decide, rfl, by decide, (mm_in4 227 (by decide +kernel) (by decide +kernel)), Or.inl rfl⟩
theorem mf_X0_21 : mm_fl RX0 21 1 3 := ⟨RX0, TX0, 13, "MerchantYard$Bargain", rfl, mi1, by decide, rfl, by decide, (mm_in4 229 (by decide +kernel) (by decide +kernel)), Or.inl rfl⟩
theorem mf_X0_24 : mm_fl RX0 24 1 4 := ⟨RX0, TX0, 13, "MerchantYard$Bargain", rfl, mi1, by decide, rfl, by decide, (mm_in4 231 (by decide +kernel) (by decide +kernel)), Or.inl rfl⟩
theorem mf_X0_27 : mm_fl RX0 27 1 5 := ⟨RX0, TX0, 13, "MerchantYard$Bargain", rfl, mi1, by decide, rfl, by decide, (mm_in4 233 (by decide +kernel) (by decide +kernel)), Or.inl rfl⟩
theorem mf_X0_30 : mm_fl RX0 30 1 6 := ⟨RX0, TX0, 13, "MerchantYard$Bargain", rfl, mi1, by decide, rfl, by decide, (mm_in4 235 (by decide +kernel) (by decide +kernel)), Or.inl rfl⟩
theorem mf_X0_33 : mm_fl RX0 33 1 8 := ⟨RX0, TX0, 13, "MerchantYard$Bargain", rfl, mi1, by decide, rfl, by decide, (mm_in4 238 (by decide +kernel) (by decide +kernel)), Or.inl rfl⟩
theorem mf_X0_36 : mm_fl RX0 36 1 10 := ⟨RX0, TX0, 13, "MerchantYard$Bargain", rfl, mi1, by decide, rfl, by decide, (mm_in5 2 (by decide +kernel) (by decide +kernel)), Or.inl rfl⟩
theorem mf_X0_40 : mm_fl RX0 40 1 11 := ⟨RX0, TX0, 13, "MerchantYard$Bargain", rfl, mi1, by decide, rfl, by decide, (mm_in5 4 (by decide +kernel) (by decide +kernel)), Or.inl rfl⟩
theorem mf_X0_43 : mm_fl RX0 43 1 12 := ⟨RX0, TX0, 13, "MerchantYard$Bargain", rfl, mi1, by decide, rfl, by decide, (mm_in5 6 (by decide +kernel) (by decide +kernel)), Or.inl rfl⟩
theorem mf_X0_46 : mm_fl RX0 46 1 9 := ⟨RX0, TX0, 13, "MerchantYard$Bargain", rfl, mi1, by decide, rfl, by decide, (mm_in5 0 (by decide +kernel) (by decide +kernel)), Or.inl rfl⟩
theorem mf_X0_9 : mm_fl RX0 9 1 0 := ⟨RX0, TX0, 13, "MerchantYard$Bargain", rfl, mi1, by decide, rfl, by decide, (mm_in4 223 (by decide +kernel) (by decide +kernel)), Or.inl rfl⟩
theorem mf_X1_11 : mm_fl RX1 11 2 0 := ⟨RX1, TX1, 10, "MerchantYard$Books", rfl, mi2, by decide, rfl, by decide, (mm_in2 81 (by decide +kernel) (by decide +kernel)), Or.inl rfl⟩
theorem mf_X1_17 : mm_fl RX1 17 2 1 := ⟨RX1, TX1, 10, "MerchantYard$Books", rfl, mi2, by decide, rfl, by decide, (mm_in2 83 (by decide +kernel) (by decide +kernel)), Or.inl rfl⟩
theorem mf_X1_20 : mm_fl RX1 20 2 2 := ⟨RX1, TX1, 10, "MerchantYard$Books", rfl, mi2, by decide, rfl, by decide, (mm_in2 84 (by decide +kernel) (by decide +kernel)), Or.inl rfl⟩
theorem mf_X1_23 : mm_fl RX1 23 2 3 := ⟨RX1, TX1, 10, "MerchantYard$Books", rfl, mi2, by decide, rfl, by decide, (mm_in2 85 (by decide +kernel) (by decide +kernel)), Or.inl rfl⟩
theorem mf_X1_26 : mm_fl RX1 26 2 4 := ⟨RX1, TX1, 10, "MerchantYard$Books", rfl, mi2, by decide, rfl, by decide, (mm_in2 86 (by decide +kernel) (by decide +kernel)), Or.inl rfl⟩
theorem mf_X1_29 : mm_fl RX1 29 2 8 := ⟨RX1, TX1, 10, "MerchantYard$Books", rfl, mi2, by decide, rfl, by decide, (mm_in2 94 (by decide +kernel) (by decide +kernel)), Or.inl rfl⟩
theorem mf_X1_32 : mm_fl RX1 32 2 7 := ⟨RX1, TX1, 10, "MerchantYard$Books", rfl, mi2, by decide, rfl, by decide, (mm_in2 92 (by decide +kernel) (by decide +kernel)), Or.inl rfl⟩
theorem mf_X1_36 : mm_fl RX1 36 2 9 := ⟨RX1, TX1, 10, "MerchantYard$Books", rfl, mi2, by decide, rfl, by decide, (mm_in2 95 (by decide +kernel) (by decide +kernel)), Or.inl rfl⟩
theorem mf_X1_71 : mm_fl RX1 71 2 5 := ⟨RX1, TX1, 10, "MerchantYard$Books", rfl, mi2, by decide, rfl, by decide, (mm_in2 88 (by decide +kernel) (by decide +kernel)), Or.inl rfl⟩
theorem mf_X1_75 : mm_fl RX1 75 2 6 := ⟨RX1, TX1, 10, "MerchantYard$Books", rfl, mi2, by decide, rfl, by decide, (mm_in2 90 (by decide +kernel) (by decide +kernel)), Or.inl rfl⟩
theorem mf_X2_12 : mm_fl RX2 12 3 0 := ⟨RX2, TX2, 5, "MerchantYard$Court", rfl, mi3, by decide, rfl, by decide, (mm_in1 121 (by decide +kernel) (by decide +kernel)), Or.inl rfl⟩
theorem mf_X2_18 : mm_fl RX2 18 3 1 := ⟨RX2, TX2, 5, "MerchantYard$Court", rfl, mi3, by decide, rfl, by decide, (mm_in1 123 (by decide +kernel) (by decide +kernel)), Or.inl rfl⟩
theorem mf_X2_24 : mm_fl RX2 24 3 2 := ⟨RX2, TX2, 5, "MerchantYard$Court", rfl, mi3, by decide, rfl, by decide, (mm_in1 125 (by decide +kernel) (by decide +kernel)), Or.inl rfl⟩
theorem mf_X2_27 : mm_fl RX2 27 3 3 := ⟨RX2, TX2, 5, "MerchantYard$Court", rfl, mi3, by decide, rfl, by decide, (mm_in1 126 (by decide +kernel) (by decide +kernel)), Or.inl rfl⟩
theorem mf_X2_31 : mm_fl RX2 31 3 4 := ⟨RX2, TX2, 5, "MerchantYard$Court", rfl, mi3, by decide, rfl, by decide, (mm_in1 128 (by decide +kernel) (by decide +kernel)), Or.inl rfl⟩
theorem mf_X2_44 : mm_fl RX2 44 5 2 := ⟨RX4, TX4, 6, "MerchantYard$Law", rfl, mi5, by decide, rfl, by decide, (mm_in4 85 (by decide +kernel) (by decide +kernel)), Or.inl rfl⟩
theorem mf_X2_47 : mm_fl RX2 47 5 0 := ⟨RX4, TX4, 6, "MerchantYard$Law", rfl, mi5, by decide, rfl, by decide, (mm_in4 80 (by decide +kernel) (by decide +kernel)), Or.inl rfl⟩
theorem mf_X2_62 : mm_fl RX2 62 5 3 := ⟨RX4, TX4, 6, "MerchantYard$Law", rfl, mi5, by decide, rfl, by decide, (mm_in4 88 (by decide +kernel) (by decide +kernel)), Or.inl rfl⟩
theorem mf_X3_13 : mm_fl RX3 13 4 1 := ⟨RX3, TX3, 6, "MerchantYard$Crowd", rfl, mi4, by decide, rfl, by decide, (mm_in2 52 (by decide +kernel) (by decide +kernel)), Or.inl rfl⟩
theorem mf_X3_16 : mm_fl RX3 16 4 2 := ⟨RX3, TX3, 6, "MerchantYard$Crowd", rfl, mi4, by decide, rfl, by decide, (mm_in2 53 (by decide +kernel) (by decide +kernel)), Or.inl rfl⟩
theorem mf_X3_19 : mm_fl RX3 19 4 4 := ⟨RX3, TX3, 6, "MerchantYard$Crowd", rfl, mi4, by decide, rfl, by decide, (mm_in2 56 (by decide +kernel) (by decide +kernel)), Or.inl rfl⟩
theorem mf_X3_22 : mm_fl RX3 22 4 3 := ⟨RX3, TX3, 6, "MerchantYard$Crowd", rfl, mi4, by decide, rfl, by decide, (mm_in2 54 (by decide +kernel) (by decide +kernel)), Or.inl rfl⟩
theorem mf_X3_35 : mm_fl RX3 35 4 5 := ⟨RX3, TX3, 6, "MerchantYard$Crowd", rfl, mi4, by decide, rfl, by decide, (mm_in2 58 (by decide +kernel) (by decide +kernel)), Or.inl rfl⟩
theorem mf_X3_9 : mm_fl RX3 9 4 0 := ⟨RX3, TX3, 6, "MerchantYard$Crowd", rfl, mi4, by decide, rfl, by decide, (mm_in2 51 (by decide +kernel) (by decide +kernel)), Or.inl rfl⟩
theorem mf_X4_15 : mm_fl RX4 15 5 2 := ⟨RX4, TX4, 6, "MerchantYard$Law", rfl, mi5, by decide, rfl, by decide, (mm_in4 84 (by decide +kernel) (by decide +kernel)), Or.inl rfl⟩
theorem mf_X4_18 : mm_fl RX4 18 5 1 := ⟨RX4, TX4, 6, "MerchantYard$Law", rfl, mi5, by decide, rfl, by decide, (mm_in4 82 (by decide +kernel) (by decide +kernel)), Or.inl rfl⟩
theorem mf_X4_21 : mm_fl RX4 21 5 3 := ⟨RX4, TX4, 6, "MerchantYard$Law", rfl, mi5, by decide, rfl, by decide, (mm_in4 87 (by decide +kernel) (by decide +kernel)), Or.inl rfl⟩
theorem mf_X4_25 : mm_fl RX4 25 5 4 := ⟨RX4, TX4, 6, "MerchantYard$Law", rfl, mi5, by decide, rfl, by decide, (mm_in4 90 (by decide +kernel) (by decide +kernel)), Or.inl rfl⟩
theorem mf_X4_28 : mm_fl RX4 28 5 5 := ⟨RX4, TX4, 6, "MerchantYard$Law", rfl, mi5, by decide, rfl, by decide, (mm_in4 91 (by decide +kernel) (by decide +kernel)), Or.inl rfl⟩
theorem mf_X4_9 : mm_fl RX4 9 5 0 := ⟨RX4, TX4, 6, "MerchantYard$Law", rfl, mi5, by decide, rfl, by decide, (mm_in4 79 (by decide +kernel) (by decide +kernel)), Or.inl rfl⟩
theorem mf_X5_11 : mm_fl RX5 11 6 0 := ⟨RX5, TX5, 14, "MerchantYard$LawReader", rfl, mi6, by decide, rfl, by decide, (mm_in1 67 (by decide +kernel) (by decide +kernel)), Or.inl rfl⟩
theorem mf_X5_15 : mm_fl RX5 15 6 2 := ⟨RX5, TX5, 14, "MerchantYard$LawReader", rfl, mi6, by decide, rfl, by decide, (mm_in1 70 (by decide +kernel) (by decide +kernel)), Or.inl rfl⟩
theorem mf_X5_19 : mm_fl RX5 19 6 3 := ⟨RX5, TX5, 14, "MerchantYard$LawReader", rfl, mi6, by decide, rfl, by decide, (mm_in1 71 (by decide +kernel) (by decide +kernel)), Or.inl rfl⟩
theorem mf_X5_22 : mm_fl RX5 22 6 4 := ⟨RX5, TX5, 14, "MerchantYard$LawReader", rfl, mi6, by decide, rfl, by decide, (mm_in1 72 (by decide +kernel) (by decide +kernel)), Or.inl rfl⟩
theorem mf_X5_25 : mm_fl RX5 25 6 9 := ⟨RX5, TX5, 14, "MerchantYard$LawReader", rfl, mi6, by decide, rfl, by decide, (mm_in1 77 (by decide +kernel) (by decide +kernel)), Or.inl rfl⟩
theorem mf_X5_28 : mm_fl RX5 28 6 11 := ⟨RX5, TX5, 14, "MerchantYard$LawReader", rfl, mi6, by decide, rfl, by decide, (mm_in1 79 (by decide +kernel) (by decide +kernel)), Or.inl rfl⟩
theorem mf_X5_31 : mm_fl RX5 31 6 12 := ⟨RX5, TX5, 14, "MerchantYard$LawReader", rfl, mi6, by decide, rfl, by decide, (mm_in1 80 (by decide +kernel) (by decide +kernel)), Or.inl rfl⟩
theorem mf_X5_34 : mm_fl RX5 34 6 1 := ⟨RX5, TX5, 14, "MerchantYard$LawReader", rfl, mi6, by decide, rfl, by decide, (mm_in1 68 (by decide +kernel) (by decide +kernel)), Or.inl rfl⟩
theorem mf_X5_45 : mm_fl RX5 45 6 6 := ⟨RX5, TX5, 14, "MerchantYard$LawReader", rfl, mi6, by decide, rfl, by decide, (mm_in1 74 (by decide +kernel) (by decide +kernel)), Or.inl rfl⟩
theorem mf_X5_48 : mm_fl RX5 48 6 7 := ⟨RX5, TX5, 14, "MerchantYard$LawReader", rfl, mi6, by decide, rfl, by decide, (mm_in1 75 (by decide +kernel) (by decide +kernel)), Or.inl rfl⟩
theorem mf_X5_51 : mm_fl RX5 51 6 8 := ⟨RX5, TX5, 14, "MerchantYard$LawReader", rfl, mi6, by decide, rfl, by decide, (mm_in1 76 (by decide +kernel) (by decide +kernel)), Or.inl rfl⟩
theorem mf_X5_54 : mm_fl RX5 54 6 10 := ⟨RX5, TX5, 14, "MerchantYard$LawReader", rfl, mi6, by decide, rfl, by decide, (mm_in1 78 (by decide +kernel) (by decide +kernel)), Or.inl rfl⟩
theorem mf_X5_57 : mm_fl RX5 57 6 13 := ⟨RX5, TX5, 14, "MerchantYard$LawReader", rfl, mi6, by decide, rfl, by decide, (mm_in1 81 (by decide +kernel) (by decide +kernel)), Or.inl rfl⟩
theorem mf_X5_78 : mm_fl RX5 78 6 5 := ⟨RX5, TX5, 14, "MerchantYard$LawReader", rfl, mi6, by decide, rfl, by decide, (mm_in1 73 (by decide +kernel) (by decide +kernel)), Or.inl rfl⟩
theorem mf_X6_13 : mm_fl RX6 13 7 1 := ⟨RX6, TX6, 5, "MerchantYard$Lot", rfl, mi7, by decide, rfl, by decide, (mm_in3 132 (by decide +kernel) (by decide +kernel)), Or.inl rfl⟩
theorem mf_X6_16 : mm_fl RX6 16 7 2 := ⟨RX6, TX6, 5, "MerchantYard$Lot", rfl, mi7, by decide, rfl, by decide, (mm_in3 134 (by decide +kernel) (by decide +kernel)), Or.inl rfl⟩
theorem mf_X6_19 : mm_fl RX6 19 7 3 := ⟨RX6, TX6, 5, "MerchantYard$Lot", rfl, mi7, by decide, rfl, by decide, (mm_in3 136 (by decide +kernel) (by decide +kernel)), Or.inl rfl⟩
theorem mf_X6_22 : mm_fl RX6 22 7 4 := ⟨RX6, TX6, 5, "MerchantYard$Lot", rfl, mi7, by decide, rfl, by decide, (mm_in3 138 (by decide +kernel) (by decide +kernel)), Or.inl rfl⟩
theorem mf_X6_7 : mm_fl RX6 7 7 0 := ⟨RX6, TX6, 5, "MerchantYard$Lot", rfl, mi7, by decide, rfl, by decide, (mm_in3 130 (by decide +kernel) (by decide +kernel)), Or.inl rfl⟩
theorem mf_X7_15 : mm_fl RX7 15 8 1 := ⟨RX7, TX7, 7, "MerchantYard$Man", rfl, mi8, by decide, rfl, by decide, (mm_in2 187 (by decide +kernel) (by decide +kernel)), Or.inl rfl⟩
theorem mf_X7_19 : mm_fl RX7 19 8 2 := ⟨RX7, TX7, 7, "MerchantYard$Man", rfl, mi8, by decide, rfl, by decide, (mm_in2 189 (by decide +kernel) (by decide +kernel)), Or.inl rfl⟩
theorem mf_X7_22 : mm_fl RX7 22 8 3 := ⟨RX7, TX7, 7, "MerchantYard$Man", rfl, mi8, by decide, rfl, by decide, (mm_in2 191 (by decide +kernel) (by decide +kernel)), Or.inl rfl⟩
theorem mf_X7_25 : mm_fl RX7 25 8 4 := ⟨RX7, TX7, 7, "MerchantYard$Man", rfl, mi8, by decide, rfl, by decide, (mm_in2 193 (by decide +kernel) (by decide +kernel)), Or.inl rfl⟩
theorem mf_X7_9 : mm_fl RX7 9 8 0 := ⟨RX7, TX7, 7, "MerchantYard$Man", rfl, mi8, by decide, rfl, by decide, (mm_in2 185 (by decide +kernel) (by decide +kernel)), Or.inl rfl⟩
theorem mf_X8_11 : mm_fl RX8 11 9 0 := ⟨RX8, TX8, 6, "MerchantYard$Measures", rfl, mi9, by decide, rfl, by decide, (mm_in1 148 (by decide +kernel) (by decide +kernel)), Or.inl rfl⟩
theorem mf_X8_15 : mm_fl RX8 15 9 1 := ⟨RX8, TX8, 6, "MerchantYard$Measures", rfl, mi9, by decide, rfl, by decide, (mm_in1 149 (by decide +kernel) (by decide +kernel)), Or.inl rfl⟩
theorem mf_X8_18 : mm_fl RX8 18 9 2 := ⟨RX8, TX8, 6, "MerchantYard$Measures", rfl, mi9, by decide, rfl, by decide, (mm_in1 150 (by decide +kernel) (by decide +kernel)), Or.inl rfl⟩
theorem mf_X8_21 : mm_fl RX8 21 9 3 := ⟨RX8, TX8, 6, "MerchantYard$Measures", rfl, mi9, by decide, rfl, by decide, (mm_in1 151 (by decide +kernel) (by decide +kernel)), Or.inl rfl⟩
theorem mf_X8_24 : mm_fl RX8 24 9 4 := ⟨RX8, TX8, 6, "MerchantYard$Measures", rfl, mi9, by decide, rfl, by decide, (mm_in1 152 (by decide +kernel) (by decide +kernel)), Or.inl rfl⟩
theorem mf_X8_27 : mm_fl RX8 27 9 5 := ⟨RX8, TX8, 6, "MerchantYard$Measures", rfl, mi9, by decide, rfl, by decide, (mm_in1 153 (by decide +kernel) (by decide +kernel)), Or.inl rfl⟩
theorem mf_X9_11 : mm_fl RX9 11 10 0 := ⟨RX9, TX9, 14, "MerchantYard$Planner", rfl, mi10, by decide, rfl, by decide, (mm_in1 235 (by decide +kernel) (by decide +kernel)), Or.inl rfl⟩
theorem mf_X9_15 : mm_fl RX9 15 10 1 := ⟨RX9, TX9, 14, "MerchantYard$Planner", rfl, mi10, by decide, rfl, by decide, (mm_in1 237 (by decide +kernel) (by decide +kernel)), Or.inl rfl⟩
theorem mf_X9_18 : mm_fl RX9 18 10 3 := ⟨RX9, TX9, 14, "MerchantYard$Planner", rfl, mi10, by decide, rfl, by decide, (mm_in2 0 (by decide +kernel) (by decide +kernel)), Or.inl rfl⟩
theorem mf_X9_21 : mm_fl RX9 21 10 4 := ⟨RX9, TX9, 14, "MerchantYard$Planner", rfl, mi10, by decide, rfl, by decide, (mm_in2 2 (by decide +kernel) (by decide +kernel)), Or.inl rfl⟩
theorem mf_X9_24 : mm_fl RX9 24 10 6 := ⟨RX9, TX9, 14, "MerchantYard$Planner", rfl, mi10, by decide, rfl, by decide, (mm_in2 5 (by decide +kernel) (by decide +kernel)), Or.inl rfl⟩
theorem mf_X9_28 : mm_fl RX9 28 10 7 := ⟨RX9, TX9, 14, "MerchantYard$Planner", rfl, mi10, by decide, rfl, by decide, (mm_in2 6 (by decide +kernel) (by decide +kernel)), Or.inl rfl⟩
theorem mf_X9_31 : mm_fl RX9 31 10 8 := ⟨RX9, TX9, 14, "MerchantYard$Planner", rfl, mi10, by decide, rfl, by decide, (mm_in2 7 (by decide +kernel) (by decide +kernel)), Or.inl rfl⟩
theorem mf_X9_34 : mm_fl RX9 34 10 9 := ⟨RX9, TX9, 14, "MerchantYard$Planner", rfl, mi10, by decide, rfl, by decide, (mm_in2 8 (by decide +kernel) (by decide +kernel)), Or.inl rfl⟩
theorem mf_X9_37 : mm_fl RX9 37 10 10 := ⟨RX9, TX9, 14, "MerchantYard$Planner", rfl, mi10, by decide, rfl, by decide, (mm_in2 9 (by decide +kernel) (by decide +kernel)), Or.inl rfl⟩
theorem mf_X9_40 : mm_fl RX9 40 10 2 := ⟨RX9, TX9, 14, "MerchantYard$Planner", rfl, mi10, by decide, rfl, by decide, (mm_in1 238 (by decide +kernel) (by decide +kernel)), Or.inl rfl⟩
theorem mf_X9_44 : mm_fl RX9 44 10 5 := ⟨RX9, TX9, 14, "MerchantYard$Planner", rfl, mi10, by decide, rfl, by decide, (mm_in2 3 (by decide +kernel) (by decide +kernel)), Or.inl rfl⟩
theorem mf_X9_47 : mm_fl RX9 47 10 13 := ⟨RX9, TX9, 14, "MerchantYard$Planner", rfl, mi10, by decide, rfl, by decide, (mm_in2 14 (by decide +kernel) (by decide +kernel)), Or.inl rfl⟩
theorem mf_X9_53 : mm_fl RX9 53 10 11 := ⟨RX9, TX9, 14, "MerchantYard$Planner", rfl, mi10, by decide, rfl, by decide, (mm_in2 10 (by decide +kernel) (by decide +kernel)), Or.inl rfl⟩
theorem mf_X9_57 : mm_fl RX9 57 10 12 := ⟨RX9, TX9, 14, "MerchantYard$Planner", rfl, mi10, by decide, rfl, by decide, (mm_in2 12 (by decide +kernel) (by decide +kernel)), Or.inl rfl⟩
theorem mf_X10_11 : mm_fl RX10 11 11 0 := ⟨RX10, TX10, 16, "MerchantYard$Sea", rfl, mi11, by decide, rfl, by decide, (mm_in1 174 (by decide +kernel) (by decide +kernel)), Or.inl rfl⟩
theorem mf_X10_15 : mm_fl RX10 15 11 1 := ⟨RX10, TX10, 16, "MerchantYard$Sea", rfl, mi11, by decide, rfl, by decide, (mm_in1 176 (by decide +kernel) (by decide +kernel)), Or.inl rfl⟩
theorem mf_X10_18 : mm_fl RX10 18 11 2 := ⟨RX10, TX10, 16, "MerchantYard$Sea", rfl, mi11, by decide, rfl, by decide, (mm_in1 178 (by decide +kernel) (by decide +kernel)), Or.inl rfl⟩
theorem mf_X10_21 : mm_fl RX10 21 11 3 := ⟨RX10, TX10, 16, "MerchantYard$Sea", rfl, mi11, by decide, rfl, by decide, (mm_in1 179 (by decide +kernel) (by decide +kernel)), Or.inl rfl⟩
theorem mf_X10_24 : mm_fl RX10 24 11 5 := ⟨RX10, TX10, 16, "MerchantYard$Sea", rfl, mi11, by decide, rfl, by decide, (mm_in1 183 (by decide +kernel) (by decide +kernel)), Or.inl rfl⟩
theorem mf_X10_27 : mm_fl RX10 27 11 6 := ⟨RX10, TX10, 16, "MerchantYard$Sea", rfl, mi11, by decide, rfl, by decide, (mm_in1 184 (by decide +kernel) (by decide +kernel)), Or.inl rfl⟩
theorem mf_X10_30 : mm_fl RX10 30 11 7 := ⟨RX10, TX10, 16, "MerchantYard$Sea", rfl, mi11, by decide, rfl, by decide, (mm_in1 185 (by decide +kernel) (by decide +kernel)), Or.inl rfl⟩
theorem mf_X10_33 : mm_fl RX10 33 11 8 := ⟨RX10, TX10, 16, "MerchantYard$Sea", rfl, mi11, by decide, rfl, by decide, (mm_in1 186 (by decide +kernel) (by decide +kernel)), Or.inl rfl⟩
theorem mf_X10_36 : mm_fl RX10 36 11 9 := ⟨RX10, TX10, 16, "MerchantYard$Sea", rfl, mi11, by decide, rfl, by decide, (mm_in1 187 (by decide +kernel) (by decide +kernel)), Or.inl rfl⟩
theorem mf_X10_39 : mm_fl RX10 39 11 11 := ⟨RX10, TX10, 16, "MerchantYard$Sea", rfl, mi11, by decide, rfl, by decide, (mm_in1 190 (by decide +kernel) (by decide +kernel)), Or.inl rfl⟩
theorem mf_X10_42 : mm_fl RX10 42 11 12 := ⟨RX10, TX10, 16, "MerchantYard$Sea", rfl, mi11, by decide, rfl, by decide, (mm_in1 191 (by decide +kernel) (by decide +kernel)), Or.inl rfl⟩
theorem mf_X10_45 : mm_fl RX10 45 11 13 := ⟨RX10, TX10, 16, "MerchantYard$Sea", rfl, mi11, by decide, rfl, by decide, (mm_in1 192 (by decide +kernel) (by decide +kernel)), Or.inl rfl⟩
theorem mf_X10_48 : mm_fl RX10 48 11 14 := ⟨RX10, TX10, 16, "MerchantYard$Sea", rfl, mi11, by decide, rfl, by decide, (mm_in1 193 (by decide +kernel) (by decide +kernel)), Or.inl rfl⟩
theorem mf_X10_51 : mm_fl RX10 51 11 4 := ⟨RX10, TX10, 16, "MerchantYard$Sea", rfl, mi11, by decide, rfl, by decide, (mm_in1 181 (by decide +kernel) (by decide +kernel)), Or.inl rfl⟩
theorem mf_X10_63 : mm_fl RX10 63 11 10 := ⟨RX10, TX10, 16, "MerchantYard$Sea", rfl, mi11, by decide, rfl, by decide, (mm_in1 188 (by decide +kernel) (by decide +kernel)), Or.inl rfl⟩
theorem mf_X10_70 : mm_fl RX10 70 11 15 := ⟨RX10, TX10, 16, "MerchantYard$Sea", rfl, mi11, by decide, rfl, by decide, (mm_in1 194 (by decide +kernel) (by decide +kernel)), Or.inl rfl⟩
theorem mf_X11_10 : mm_fl RX11 10 12 0 := ⟨RX11, TX11, 15, "MerchantYard", rfl, mi12, by decide, rfl, by decide, (mm_in2 117 (by decide +kernel) (by decide +kernel)), Or.inl rfl⟩
theorem mf_X11_111 : mm_fl RX11 111 8 4 := ⟨RX7, TX7, 7, "MerchantYard$Man", rfl, mi8, by decide, rfl, by decide, (mm_in2 194 (by decide +kernel) (by decide +kernel)), Or.inl rfl⟩
theorem mf_X11_121 : mm_fl RX11 121 8 0 := ⟨RX7, TX7, 7, "MerchantYard$Man", rfl, mi8, by decide, rfl, by decide, (mm_in2 186 (by decide +kernel) (by decide +kernel)), Or.inl rfl⟩
theorem mf_X11_128 : mm_fl RX11 128 8 3 := ⟨RX7, TX7, 7, "MerchantYard$Man", rfl, mi8, by decide, rfl, by decide, (mm_in2 192 (by decide +kernel) (by decide +kernel)), Or.inl rfl⟩
theorem mf_X11_155 : mm_fl RX11 155 7 0 := ⟨RX6, TX6, 5, "MerchantYard$Lot", rfl, mi7, by decide, rfl, by decide, (mm_in3 131 (by decide +kernel) (by decide +kernel)), Or.inl rfl⟩
theorem mf_X11_158 : mm_fl RX11 158 7 3 := ⟨RX6, TX6, 5, "MerchantYard$Lot", rfl, mi7, by decide, rfl, by decide, (mm_in3 137 (by decide +kernel) (by decide +kernel)), Or.inl rfl⟩
theorem mf_X11_16 : mm_fl RX11 16 12 1 := ⟨RX11, TX11, 15, "MerchantYard", rfl, mi12, by decide, rfl, by decide, (mm_in2 118 (by decide +kernel) (by decide +kernel)), Or.inl rfl⟩
theorem mf_X11_161 : mm_fl RX11 161 7 4 := ⟨RX6, TX6, 5, "MerchantYard$Lot", rfl, mi7, by decide, rfl, by decide, (mm_in3 139 (by decide +kernel) (by decide +kernel)), Or.inl rfl⟩
theorem mf_X11_164 : mm_fl RX11 164 7 1 := ⟨RX6, TX6, 5, "MerchantYard$Lot", rfl, mi7, by decide, rfl, by decide, (mm_in3 133 (by decide +kernel) (by decide +kernel)), Or.inl rfl⟩
theorem mf_X11_167 : mm_fl RX11 167 7 2 := ⟨RX6, TX6, 5, "MerchantYard$Lot", rfl, mi7, by decide, rfl, by decide, (mm_in3 135 (by decide +kernel) (by decide +kernel)), Or.inl rfl⟩
theorem mf_X11_174 : mm_fl RX11 174 8 1 := ⟨RX7, TX7, 7, "MerchantYard$Man", rfl, mi8, by decide, rfl, by decide, (mm_in2 188 (by decide +kernel) (by decide +kernel)), Or.inl rfl⟩
theorem mf_X11_178 : mm_fl RX11 178 8 2 := ⟨RX7, TX7, 7, "MerchantYard$Man", rfl, mi8, by decide, rfl, by decide, (mm_in2 190 (by decide +kernel) (by decide +kernel)), Or.inl rfl⟩
theorem mf_X11_188 : mm_fl RX11 188 6 1 := ⟨RX5, TX5, 14, "MerchantYard$LawReader", rfl, mi6, by decide, rfl, by decide, (mm_in1 69 (by decide +kernel) (by decide +kernel)), Or.inl rfl⟩
theorem mf_X11_19 : mm_fl RX11 19 12 2 := ⟨RX11, TX11, 15, "MerchantYard", rfl, mi12, by decide, rfl, by decide, (mm_in2 119 (by decide +kernel) (by decide +kernel)), Or.inl rfl⟩
theorem mf_X11_191 : mm_fl RX11 191 3 0 := ⟨RX2, TX2, 5, "MerchantYard$Court", rfl, mi3, by decide, rfl, by decide, (mm_in1 122 (by decide +kernel) (by decide +kernel)), Or.inl rfl⟩
theorem mf_X11_205 : mm_fl RX11 205 5 0 := ⟨RX4, TX4, 6, "MerchantYard$Law", rfl, mi5, by decide, rfl, by decide, (mm_in4 81 (by decide +kernel) (by decide +kernel)), Or.inl rfl⟩
theorem mf_X11_210 : mm_fl RX11 210 5 2 := ⟨RX4, TX4, 6, "MerchantYard$Law", rfl, mi5, by decide, rfl, by decide, (mm_in4 86 (by decide +kernel) (by decide +kernel)), Or.inl rfl⟩
theorem mf_X11_213 : mm_fl RX11 213 5 3 := ⟨RX4, TX4, 6, "MerchantYard$Law", rfl, mi5, by decide, rfl, by decide, (mm_in4 89 (by decide +kernel) (by decide +kernel)), Or.inl rfl⟩
theorem mf_X11_216 : mm_fl RX11 216 5 1 := ⟨RX4, TX4, 6, "MerchantYard$Law", rfl, mi5, by decide, rfl, by decide, (mm_in4 83 (by decide +kernel) (by decide +kernel)), Or.inl rfl⟩
theorem mf_X11_22 : mm_fl RX11 22 12 3 := ⟨RX11, TX11, 15, "MerchantYard", rfl, mi12, by decide, rfl, by decide, (mm_in2 120 (by decide +kernel) (by decide +kernel)), Or.inl rfl⟩
theorem mf_X11_233 : mm_fl RX11 233 3 3 := ⟨RX2, TX2, 5, "MerchantYard$Court", rfl, mi3, by decide, rfl, by decide, (mm_in1 127 (by decide +kernel) (by decide +kernel)), Or.inl rfl⟩
theorem mf_X11_236 : mm_fl RX11 236 3 4 := ⟨RX2, TX2, 5, "MerchantYard$Court", rfl, mi3, by decide, rfl, by decide, (mm_in1 129 (by decide +kernel) (by decide +kernel)), Or.inl rfl⟩
theorem mf_X11_269 : mm_fl RX11 269 1 7 := ⟨RX0, TX0, 13, "MerchantYard$Bargain", rfl, mi1, by decide, rfl, by decide, (mm_in4 237 (by decide +kernel) (by decide +kernel)), Or.inl rfl⟩
theorem mf_X11_276 : mm_fl RX11 276 1 0 := ⟨RX0, TX0, 13, "MerchantYard$Bargain", rfl, mi1, by decide, rfl, by decide, (mm_in4 224 (by decide +kernel) (by decide +kernel)), Or.inl rfl⟩
theorem mf_X11_279 : mm_fl RX11 279 1 1 := ⟨RX0, TX0, 13, "MerchantYard$Bargain", rfl, mi1, by decide, rfl, by decide, (mm_in4 226 (by decide +kernel) (by decide +kernel)), Or.inl rfl⟩
theorem mf_X11_282 : mm_fl RX11 282 1 2 := ⟨RX0, TX0, 13, "MerchantYard$Bargain", rfl, mi1, by decide, rfl, by decide, (mm_in4 228 (by decide +kernel) (by decide +kernel)), Or.inl rfl⟩
theorem mf_X11_285 : mm_fl RX11 285 1 3 := ⟨RX0, TX0, 13, "MerchantYard$Bargain", rfl, mi1, by decide, rfl, by decide, (mm_in4 230 (by decide +kernel) (by decide +kernel)), Or.inl rfl⟩
theorem mf_X11_288 : mm_fl RX11 288 1 6 := ⟨RX0, TX0, 13, "MerchantYard$Bargain", rfl, mi1, by decide, rfl, by decide, (mm_in4 236 (by decide +kernel) (by decide +kernel)), Or.inl rfl⟩
theorem mf_X11_29 : mm_fl RX11 29 12 4 := ⟨RX11, TX11, 15, "MerchantYard", rfl, mi12, by decide, rfl, by decide, (mm_in2 121 (by decide +kernel) (by decide +kernel)), Or.inl rfl⟩
theorem mf_X11_291 : mm_fl RX11 291 1 4 := ⟨RX0, TX0, 13, "MerchantYard$Bargain", rfl, mi1, by decide, rfl, by decide, (mm_in4 232 (by decide +kernel) (by decide +kernel)), Or.inl rfl⟩
theorem mf_X11_294 : mm_fl RX11 294 1 9 := ⟨RX0, TX0, 13, "MerchantYard$Bargain", rfl, mi1, by decide, rfl, by decide, (mm_in5 1 (by decide +kernel) (by decide +kernel)), Or.inl rfl⟩
theorem mf_X11_297 : mm_fl RX11 297 1 5 := ⟨RX0, TX0, 13, "MerchantYard$Bargain", rfl, mi1, by decide, rfl, by decide, (mm_in4 234 (by decide +kernel) (by decide +kernel)), Or.inl rfl⟩
theorem mf_X11_300 : mm_fl RX11 300 1 8 := ⟨RX0, TX0, 13, "MerchantYard$Bargain", rfl, mi1, by decide, rfl, by decide, (mm_in4 239 (by decide +kernel) (by decide +kernel)), Or.inl rfl⟩
theorem mf_X11_309 : mm_fl RX11 309 1 10 := ⟨RX0, TX0, 13, "MerchantYard$Bargain", rfl, mi1, by decide, rfl, by decide, (mm_in5 3 (by decide +kernel) (by decide +kernel)), Or.inl rfl⟩
theorem mf_X11_312 : mm_fl RX11 312 1 11 := ⟨RX0, TX0, 13, "MerchantYard$Bargain", rfl, mi1, by decide, rfl, by decide, (mm_in5 5 (by decide +kernel) (by decide +kernel)), Or.inl rfl⟩
theorem mf_X11_315 : mm_fl RX11 315 1 12 := ⟨RX0, TX0, 13, "MerchantYard$Bargain", rfl, mi1, by decide, rfl, by decide, (mm_in5 7 (by decide +kernel) (by decide +kernel)), Or.inl rfl⟩
theorem mf_X11_36 : mm_fl RX11 36 12 5 := ⟨RX11, TX11, 15, "MerchantYard", rfl, mi12, by decide, rfl, by decide, (mm_in2 122 (by decide +kernel) (by decide +kernel)), Or.inl rfl⟩
theorem mf_X11_391 : mm_fl RX11 391 11 3 := ⟨RX10, TX10, 16, "MerchantYard$Sea", rfl, mi11, by decide, rfl, by decide, (mm_in1 180 (by decide +kernel) (by decide +kernel)), Or.inl rfl⟩
theorem mf_X11_402 : mm_fl RX11 402 10 11 := ⟨RX9, TX9, 14, "MerchantYard$Planner", rfl, mi10, by decide, rfl, by decide, (mm_in2 11 (by decide +kernel) (by decide +kernel)), Or.inl rfl⟩
theorem mf_X11_405 : mm_fl RX11 405 10 13 := ⟨RX9, TX9, 14, "MerchantYard$Planner", rfl, mi10, by decide, rfl, by decide, (mm_in2 15 (by decide +kernel) (by decide +kernel)), Or.inl rfl⟩
theorem mf_X11_408 : mm_fl RX11 408 10 2 := ⟨RX9, TX9, 14, "MerchantYard$Planner", rfl, mi10, by decide, rfl, by decide, (mm_in1 239 (by decide +kernel) (by decide +kernel)), Or.inl rfl⟩
theorem mf_X11_411 : mm_fl RX11 411 10 5 := ⟨RX9, TX9, 14, "MerchantYard$Planner", rfl, mi10, by decide, rfl, by decide, (mm_in2 4 (by decide +kernel) (by decide +kernel)), Or.inl rfl⟩
theorem mf_X11_414 : mm_fl RX11 414 10 0 := ⟨RX9, TX9, 14, "MerchantYard$Planner", rfl, mi10, by decide, rfl, by decide, (mm_in1 236 (by decide +kernel) (by decide +kernel)), Or.inl rfl⟩
theorem mf_X11_420 : mm_fl RX11 420 10 12 := ⟨RX9, TX9, 14, "MerchantYard$Planner", rfl, mi10, by decide, rfl, by decide, (mm_in2 13 (by decide +kernel) (by decide +kernel)), Or.inl rfl⟩
theorem mf_X11_423 : mm_fl RX11 423 11 4 := ⟨RX10, TX10, 16, "MerchantYard$Sea", rfl, mi11, by decide, rfl, by decide, (mm_in1 182 (by decide +kernel) (by decide +kernel)), Or.inl rfl⟩
theorem mf_X11_424 : mm_fl RX11 424 8 6 := ⟨RX7, TX7, 7, "MerchantYard$Man", rfl, mi8, by decide, rfl, by decide, (mm_in2 196 (by decide +kernel) (by decide +kernel)), Or.inl rfl⟩
theorem mf_X11_427 : mm_fl RX11 427 11 1 := ⟨RX10, TX10, 16, "MerchantYard$Sea", rfl, mi11, by decide, rfl, by decide, (mm_in1 177 (by decide +kernel) (by decide +kernel)), Or.inl rfl⟩
theorem mf_X11_43 : mm_fl RX11 43 12 6 := ⟨RX11, TX11, 15, "MerchantYard", rfl, mi12, by decide, rfl, by decide, (mm_in2 123 (by decide +kernel) (by decide +kernel)), Or.inl rfl⟩
theorem mf_X11_430 : mm_fl RX11 430 11 0 := ⟨RX10, TX10, 16, "MerchantYard$Sea", rfl, mi11, by decide, rfl, by decide, (mm_in1 175 (by decide +kernel) (by decide +kernel)), Or.inl rfl⟩
theorem mf_X11_436 : mm_fl RX11 436 8 5 := ⟨RX7, TX7, 7, "MerchantYard$Man", rfl, mi8, by decide, rfl, by decide, (mm_in2 195 (by decide +kernel) (by decide +kernel)), Or.inl rfl⟩
theorem mf_X11_446 : mm_fl RX11 446 4 3 := ⟨RX3, TX3, 6, "MerchantYard$Crowd", rfl, mi4, by decide, rfl, by decide, (mm_in2 55 (by decide +kernel) (by decide +kernel)), Or.inl rfl⟩
theorem mf_X11_452 : mm_fl RX11 452 4 5 := ⟨RX3, TX3, 6, "MerchantYard$Crowd", rfl, mi4, by decide, rfl, by decide, (mm_in2 59 (by decide +kernel) (by decide +kernel)), Or.inl rfl⟩
theorem mf_X11_455 : mm_fl RX11 455 4 4 := ⟨RX3, TX3, 6, "MerchantYard$Crowd", rfl, mi4, by decide, rfl, by decide, (mm_in2 57 (by decide +kernel) (by decide +kernel)), Or.inl rfl⟩
theorem mf_X11_465 : mm_fl RX11 465 2 7 := ⟨RX1, TX1, 10, "MerchantYard$Books", rfl, mi2, by decide, rfl, by decide, (mm_in2 93 (by decide +kernel) (by decide +kernel)), Or.inl rfl⟩
theorem mf_X11_468 : mm_fl RX11 468 2 0 := ⟨RX1, TX1, 10, "MerchantYard$Books", rfl, mi2, by decide, rfl, by decide, (mm_in2 82 (by decide +kernel) (by decide +kernel)), Or.inl rfl⟩
theorem mf_X11_471 : mm_fl RX11 471 2 5 := ⟨RX1, TX1, 10, "MerchantYard$Books", rfl, mi2, by decide, rfl, by decide, (mm_in2 89 (by decide +kernel) (by decide +kernel)), Or.inl rfl⟩
theorem mf_X11_474 : mm_fl RX11 474 2 6 := ⟨RX1, TX1, 10, "MerchantYard$Books", rfl, mi2, by decide, rfl, by decide, (mm_in2 91 (by decide +kernel) (by decide +kernel)), Or.inl rfl⟩
theorem mf_X11_477 : mm_fl RX11 477 2 4 := ⟨RX1, TX1, 10, "MerchantYard$Books", rfl, mi2, by decide, rfl, by decide, (mm_in2 87 (by decide +kernel) (by decide +kernel)), Or.inl rfl⟩
theorem mf_X11_480 : mm_fl RX11 480 9 5 := ⟨RX8, TX8, 6, "MerchantYard$Measures", rfl, mi9, by decide, rfl, by decide, (mm_in1 154 (by decide +kernel) (by decide +kernel)), Or.inl rfl⟩
theorem mf_X11_483 : mm_fl RX11 483 11 10 := ⟨RX10, TX10, 16, "MerchantYard$Sea", rfl, mi11, by decide, rfl, by decide, (mm_in1 189 (by decide +kernel) (by decide +kernel)), Or.inl rfl⟩
theorem mf_X11_486 : mm_fl RX11 486 11 15 := ⟨RX10, TX10, 16, "MerchantYard$Sea", rfl, mi11, by decide, rfl, by decide, (mm_in1 195 (by decide +kernel) (by decide +kernel)), Or.inl rfl⟩
theorem mf_X11_50 : mm_fl RX11 50 12 7 := ⟨RX11, TX11, 15, "MerchantYard", rfl, mi12, by decide, rfl, by decide, (mm_in2 124 (by decide +kernel) (by decide +kernel)), Or.inl rfl⟩
theorem mf_X11_504 : mm_fl RX11 504 3 1 := ⟨RX2, TX2, 5, "MerchantYard$Court", rfl, mi3, by decide, rfl, by decide, (mm_in1 124 (by decide +kernel) (by decide +kernel)), Or.inl rfl⟩
theorem mf_X11_523 : mm_fl RX11 523 10 3 := ⟨RX9, TX9, 14, "MerchantYard$Planner", rfl, mi10, by decide, rfl, by decide, (mm_in2 1 (by decide +kernel) (by decide +kernel)), Or.inl rfl⟩
theorem mf_X11_57 : mm_fl RX11 57 12 8 := ⟨RX11, TX11, 15, "MerchantYard", rfl, mi12, by decide, rfl, by decide, (mm_in2 125 (by decide +kernel) (by decide +kernel)), Or.inl rfl⟩
theorem mf_X11_64 : mm_fl RX11 64 12 9 := ⟨RX11, TX11, 15, "MerchantYard", rfl, mi12, by decide, rfl, by decide, (mm_in2 126 (by decide +kernel) (by decide +kernel)), Or.inl rfl⟩
theorem mf_X11_71 : mm_fl RX11 71 12 10 := ⟨RX11, TX11, 15, "MerchantYard", rfl, mi12, by decide, rfl, by decide, (mm_in2 127 (by decide +kernel) (by decide +kernel)), Or.inl rfl⟩
theorem mf_X11_75 : mm_fl RX11 75 12 11 := ⟨RX11, TX11, 15, "MerchantYard", rfl, mi12, by decide, rfl, by decide, (mm_in2 128 (by decide +kernel) (by decide +kernel)), Or.inl rfl⟩
theorem mf_X11_79 : mm_fl RX11 79 12 12 := ⟨RX11, TX11, 15, "MerchantYard", rfl, mi12, by decide, rfl, by decide, (mm_in2 129 (by decide +kernel) (by decide +kernel)), Or.inl rfl⟩
theorem mf_X11_83 : mm_fl RX11 83 12 13 := ⟨RX11, TX11, 15, "MerchantYard", rfl, mi12, by decide, rfl, by decide, (mm_in2 130 (by decide +kernel) (by decide +kernel)), Or.inl rfl⟩
theorem mf_X11_86 : mm_fl RX11 86 12 14 := ⟨RX11, TX11, 15, "MerchantYard", rfl, mi12, by decide, rfl, by decide, (mm_in2 131 (by decide +kernel) (by decide +kernel)), Or.inl rfl⟩
theorem mf_X12_100 : mm_fl RX12 100 13 44 := ⟨RX12, TX12, 117, "MerchantYardModel", rfl, mi13, by decide, rfl, by decide, (mm_in6 202 (by decide +kernel) (by decide +kernel)), Or.inl rfl⟩
theorem mf_X12_103 : mm_fl RX12 103 13 45 := ⟨RX12, TX12, 117, "MerchantYardModel", rfl, mi13, by decide, rfl, by decide, (mm_in6 203 (by decide +kernel) (by decide +kernel)), Or.inl rfl⟩
theorem mf_X12_106 : mm_fl RX12 106 13 46 := ⟨RX12, TX12, 117, "MerchantYardModel", rfl, mi13, by decide, rfl, by decide, (mm_in6 204 (by decide +kernel) (by decide +kernel)), Or.inl rfl⟩
theorem mf_X12_109 : mm_fl RX12 109 13 47 := ⟨RX12, TX12, 117, "MerchantYardModel", rfl, mi13, by decide, rfl, by decide, (mm_in6 205 (by decide +kernel) (by decide +kernel)), Or.inl rfl⟩
theorem mf_X12_112 : mm_fl RX12 112 13 48 := ⟨RX12, TX12, 117, "MerchantYardModel", rfl, mi13, by decide, rfl, by decide, (mm_in6 206 (by decide +kernel) (by decide +kernel)), Or.inl rfl⟩
theorem mf_X12_115 : mm_fl RX12 115 13 49 := ⟨RX12, TX12, 117, "MerchantYardModel", rfl, mi13, by decide, rfl, by decide, (mm_in6 207 (by decide +kernel) (by decide +kernel)), Or.inl rfl⟩
theorem mf_X12_118 : mm_fl RX12 118 13 50 := ⟨RX12, TX12, 117, "MerchantYardModel", rfl, mi13, by decide, rfl, by decide, (mm_in6 208 (by decide +kernel) (by decide +kernel)), Or.inl rfl⟩
theorem mf_X12_121 : mm_fl RX12 121 13 51 := ⟨RX12, TX12, 117, "MerchantYardModel", rfl, mi13, by decide, rfl, by decide, (mm_in6 209 (by decide +kernel) (by decide +kernel)), Or.inl rfl⟩
theorem mf_X12_124 : mm_fl RX12 124 13 52 := ⟨RX12, TX12, 117, "MerchantYardModel", rfl, mi13, by decide, rfl, by decide, (mm_in6 210 (by decide +kernel) (by decide +kernel)), Or.inl rfl⟩
theorem mf_X12_127 : mm_fl RX12 127 13 53 := ⟨RX12, TX12, 117, "MerchantYardModel", rfl, mi13, by decide, rfl, by decide, (mm_in6 211 (by decide +kernel) (by decide +kernel)), Or.inl rfl⟩
theorem mf_X12_13 : mm_fl RX12 13 13 4 := ⟨RX12, TX12, 117, "MerchantYardModel", rfl, mi13, by decide, rfl, by decide, (mm_in6 162 (by decide +kernel) (by decide +kernel)), Or.inl rfl⟩
theorem mf_X12_130 : mm_fl RX12 130 13 54 := ⟨RX12, TX12, 117, "MerchantYardModel", rfl, mi13, by decide, rfl, by decide, (mm_in6 212 (by decide +kernel) (by decide +kernel)), Or.inl rfl⟩
theorem mf_X12_133 : mm_fl RX12 133 13 55 := ⟨RX12, TX12, 117, "MerchantYardModel", rfl, mi13, by decide, rfl, by decide, (mm_in6 213 (by decide +kernel) (by decide +kernel)), Or.inl rfl⟩
theorem mf_X12_136 : mm_fl RX12 136 13 56 := ⟨RX12, TX12, 117, "MerchantYardModel", rfl, mi13, by decide, rfl, by decide, (mm_in6 214 (by decide +kernel) (by decide +kernel)), Or.inl rfl⟩
theorem mf_X12_139 : mm_fl RX12 139 13 57 := ⟨RX12, TX12, 117, "MerchantYardModel", rfl, mi13, by decide, rfl, by decide, (mm_in6 215 (by decide +kernel) (by decide +kernel)), Or.inl rfl⟩
theorem mf_X12_142 : mm_fl RX12 142 13 58 := ⟨RX12, TX12, 117, "MerchantYardModel", rfl, mi13, by decide, rfl, by decide, (mm_in6 216 (by decide +kernel) (by decide +kernel)), Or.inl rfl⟩
theorem mf_X12_145 : mm_fl RX12 145 13 59 := ⟨RX12, TX12, 117, "MerchantYardModel", rfl, mi13, by decide, rfl, by decide, (mm_in6 217 (by decide +kernel) (by decide +kernel)), Or.inl rfl⟩
theorem mf_X12_149 : mm_fl RX12 149 13 60 := ⟨RX12, TX12, 117, "MerchantYardModel", rfl, mi13, by decide, rfl, by decide, (mm_in6 218 (by decide +kernel) (by decide +kernel)), Or.inl rfl⟩
theorem mf_X12_152 : mm_fl RX12 152 13 62 := ⟨RX12, TX12, 117, "MerchantYardModel", rfl, mi13, by decide, rfl, by decide, (mm_in6 220 (by decide +kernel) (by decide +kernel)), Or.inl rfl⟩
theorem mf_X12_155 : mm_fl RX12 155 13 63 := ⟨RX12, TX12, 117, "MerchantYardModel", rfl, mi13, by decide, rfl, by decide, (mm_in6 221 (by decide +kernel) (by decide +kernel)), Or.inl rfl⟩
theorem mf_X12_158 : mm_fl RX12 158 13 64 := ⟨RX12, TX12, 117, "MerchantYardModel", rfl, mi13, by decide, rfl, by decide, (mm_in6 222 (by decide +kernel) (by decide +kernel)), Or.inl rfl⟩
theorem mf_X12_16 : mm_fl RX12 16 13 5 := ⟨RX12, TX12, 117, "MerchantYardModel", rfl, mi13, by decide, rfl, by decide, (mm_in6 163 (by decide +kernel) (by decide +kernel)), Or.inl rfl⟩
theorem mf_X12_161 : mm_fl RX12 161 13 65 := ⟨RX12, TX12, 117, "MerchantYardModel", rfl, mi13, by decide, rfl, by decide, (mm_in6 223 (by decide +kernel) (by decide +kernel)), Or.inl rfl⟩
theorem mf_X12_164 : mm_fl RX12 164 13 66 := ⟨RX12, TX12, 117, "MerchantYardModel", rfl, mi13, by decide, rfl, by decide, (mm_in6 224 (by decide +kernel) (by decide +kernel)), Or.inl rfl⟩
theorem mf_X12_167 : mm_fl RX12 167 13 73 := ⟨RX12, TX12, 117, "MerchantYardModel", rfl, mi13, by decide, rfl, by decide, (mm_in6 231 (by decide +kernel) (by decide +kernel)), Or.inl rfl⟩
theorem mf_X12_170 : mm_fl RX12 170 13 74 := ⟨RX12, TX12, 117, "MerchantYardModel", rfl, mi13, by decide, rfl, by decide, (mm_in6 232 (by decide +kernel) (by decide +kernel)), Or.inl rfl⟩
theorem mf_X12_173 : mm_fl RX12 173 13 75 := ⟨RX12, TX12, 117, "MerchantYardModel", rfl, mi13, by decide, rfl, by decide, (mm_in6 233 (by decide +kernel) (by decide +kernel)), Or.inl rfl⟩
theorem mf_X12_176 : mm_fl RX12 176 13 78 := ⟨RX12, TX12, 117, "MerchantYardModel", rfl, mi13, by decide, rfl, by decide, (mm_in6 236 (by decide +kernel) (by decide +kernel)), Or.inl rfl⟩
theorem mf_X12_179 : mm_fl RX12 179 13 79 := ⟨RX12, TX12, 117, "MerchantYardModel", rfl, mi13, by decide, rfl, by decide, (mm_in6 237 (by decide +kernel) (by decide +kernel)), Or.inl rfl⟩
theorem mf_X12_182 : mm_fl RX12 182 13 80 := ⟨RX12, TX12, 117, "MerchantYardModel", rfl, mi13, by decide, rfl, by decide, (mm_in6 238 (by decide +kernel) (by decide +kernel)), Or.inl rfl⟩
theorem mf_X12_185 : mm_fl RX12 185 13 81 := ⟨RX12, TX12, 117, "MerchantYardModel", rfl, mi13, by decide, rfl, by decide, (mm_in6 239 (by decide +kernel) (by decide +kernel)), Or.inl rfl⟩
theorem mf_X12_188 : mm_fl RX12 188 13 82 := ⟨RX12, TX12, 117, "MerchantYardModel", rfl, mi13, by decide, rfl, by decide, (mm_in7 0 (by decide +kernel) (by decide +kernel)), Or.inl rfl⟩
theorem mf_X12_19 : mm_fl RX12 19 13 6 := ⟨RX12, TX12, 117, "MerchantYardModel", rfl, mi13, by decide, rfl, by decide, (mm_in6 164 (by decide +kernel) (by decide +kernel)), Or.inl rfl⟩
