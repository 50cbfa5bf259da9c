theorem mi0 : ∀ w ∈ u_ws RJx4a65c TJx4a65c 3, w ∈ mm_tb := by
  intro w hw
  obtain ⟨k, hk, rfl⟩ := List.mem_map.mp hw
  have h := (show ∀ k, k < 3 → lw_tbl[([159, 155, 157] : List Nat).getD k 0]? = some (u_lay RJx4a65c TJx4a65c k) ∧ goodWord (u_lay RJx4a65c TJx4a65c k) = true by decide +kernel) k (List.mem_range.mp hk)
  exact mm_in _ h.1 h.2
theorem mi1 : ∀ w ∈ u_ws RX0 TX0 13, w ∈ mm_tb := by
  intro w hw
  obtain ⟨k, hk, rfl⟩ := List.mem_map.mp hw
  have h := (show ∀ k, k < 13 → lw_tbl[([1069, 1071, 1073, 1075, 1077, 1079, 1081, 1083, 1085, 1087, 1089, 1091, 1093] : List Nat).getD k 0]? = some (u_lay RX0 TX0 k) ∧ goodWord (u_lay RX0 TX0 k) = true by decide +kernel) k (List.mem_range.mp hk)
  exact mm_in _ h.1 h.2
theorem mi2 : ∀ w ∈ u_ws RX1 TX1 10, w ∈ mm_tb := by
  intro w hw
  obtain ⟨k, hk, rfl⟩ := List.mem_map.mp hw
  have h := (show ∀ k, k < 10 → lw_tbl[([437, 439, 441, 443, 445, 447, 449, 451, 453, 455] : List Nat).getD k 0]? = some (u_lay RX1 TX1 k) ∧ goodWord (u_lay RX1 TX1 k) = true by decide +kernel) k (List.mem_range.mp hk)
  exact mm_in _ h.1 h.2
theorem mi3 : ∀ w ∈ u_ws RX2 TX2 5, w ∈ mm_tb := by
  intro w hw
  obtain ⟨k, hk, rfl⟩ := List.mem_map.mp hw
  have h := (show ∀ k, k < 5 → lw_tbl[([231, 233, 235, 237, 239] : List Nat).getD k 0]? = some (u_lay RX2 TX2 k) ∧ goodWord (u_lay RX2 TX2 k) = true by decide +kernel) k (List.mem_range.mp hk)
  exact mm_in _ h.1 h.2
theorem mi4 : ∀ w ∈ u_ws RX3 TX3 6, w ∈ mm_tb := by
  intro w hw
  obtain ⟨k, hk, rfl⟩ := List.mem_map.mp hw
  have h := (show ∀ k, k < 6 → lw_tbl[([401, 403, 405, 407, 409, 411] : List Nat).getD k 0]? = some (u_lay RX3 TX3 k) ∧ goodWord (u_lay RX3 TX3 k) = true by decide +kernel) k (List.mem_range.mp hk)
  exact mm_in _ h.1 h.2
theorem mi5 : ∀ w ∈ u_ws RX4 TX4 6, w ∈ mm_tb := by
  intro w hw
  obtain ⟨k, hk, rfl⟩ := List.mem_map.mp hw
  have h := (show ∀ k, k < 6 → lw_tbl[([913, 915, 917, 919, 921, 923] : List Nat).getD k 0]? = some (u_lay RX4 TX4 k) ∧ goodWord (u_lay RX4 TX4 k) = true by decide +kernel) k (List.mem_range.mp hk)
  exact mm_in _ h.1 h.2
theorem mi6 : ∀ w ∈ u_ws RX5 TX5 14, w ∈ mm_tb := by
  intro w hw
  obtain ⟨k, hk, rfl⟩ := List.mem_map.mp hw
  have h := (show ∀ k, k < 14 → lw_tbl[([183, 185, 187, 189, 191, 193, 195, 197, 199, 201, 203, 205, 207, 209] : List Nat).getD k 0]? = some (u_lay RX5 TX5 k) ∧ goodWord (u_lay RX5 TX5 k) = true by decide +kernel) k (List.mem_range.mp hk)
  exact mm_in _ h.1 h.2
theorem mi7 : ∀ w ∈ u_ws RX6 TX6 5, w ∈ mm_tb := by
  intro w hw
  obtain ⟨k, hk, rfl⟩ := List.mem_map.mp hw
  have h := (show ∀ k, k < 5 → lw_tbl[([721, 723, 725, 727, 729] : List Nat).getD k 0]? = some (u_lay RX6 TX6 k) ∧ goodWord (u_lay RX6 TX6 k) = true by decide +kernel) k (List.mem_range.mp hk)
  exact mm_in _ h.1 h.2
theorem mi8 : ∀ w ∈ u_ws RX7 TX7 7, w ∈ mm_tb := by
  intro w hw
  obtain ⟨k, hk, rfl⟩ := List.mem_map.mp hw
  have h := (show ∀ k, k < 7 → lw_tbl[([538, 540, 542, 544, 546, 548, 550] : List Nat).getD k 0]? = some (u_lay RX7 TX7 k) ∧ goodWord (u_lay RX7 TX7 k) = true by decide +kernel) k (List.mem_range.mp hk)
  exact mm_in _ h.1 h.2
theorem mi9 : ∀ w ∈ u_ws RX8 TX8 6, w ∈ mm_tb := by
  intro w hw
  obtain ⟨k, hk, rfl⟩ := List.mem_map.mp hw
  have h := (show ∀ k, k < 6 → lw_tbl[([256, 258, 260, 262, 264, 266] : List Nat).getD k 0]? = some (u_lay RX8 TX8 k) ∧ goodWord (u_lay RX8 TX8 k) = true by decide +kernel) k (List.mem_range.mp hk)
  exact mm_in _ h.1 h.2
theorem mi10 : ∀ w ∈ u_ws RX9 TX9 14, w ∈ mm_tb := by
  intro w hw
  obtain ⟨k, hk, rfl⟩ := List.mem_map.mp hw
  have h := (show ∀ k, k < 14 → lw_tbl[([357, 359, 361, 363, 365, 367, 369, 371, 373, 375, 377, 379, 381, 383] : List Nat).getD k 0]? = some (u_lay RX9 TX9 k) ∧ goodWord (u_lay RX9 TX9 k) = true by decide +kernel) k (List.mem_range.mp hk)
  exact mm_in _ h.1 h.2
theorem mi11 : ∀ w ∈ u_ws RX10 TX10 16, w ∈ mm_tb := by
  intro w hw
  obtain ⟨k, hk, rfl⟩ := List.mem_map.mp hw
  have h := (show ∀ k, k < 16 → lw_tbl[([297, 299, 301, 303, 305, 307, 309, 311, 313, 315, 317, 319, 321, 323, 325, 327] : List Nat).getD k 0]? = some (u_lay RX10 TX10 k) ∧ goodWord (u_lay RX10 TX10 k) = true by decide +kernel) k (List.mem_range.mp hk)
  exact mm_in _ h.1 h.2
theorem mi12 : ∀ w ∈ u_ws RX11 TX11 15, w ∈ mm_tb := by
  intro w hw
  obtain ⟨k, hk, rfl⟩ := List.mem_map.mp hw
  have h := (show ∀ k, k < 15 → lw_tbl[([473, 475, 477, 479, 481, 483, 485, 487, 489, 491, 493, 495, 497, 499, 501] : List Nat).getD k 0]? = some (u_lay RX11 TX11 k) ∧ goodWord (u_lay RX11 TX11 k) = true by decide +kernel) k (List.mem_range.mp hk)
  exact mm_in _ h.1 h.2
theorem mi13 : ∀ w ∈ u_ws RX12 TX12 117, w ∈ mm_tb := by
  intro w hw
  obtain ⟨k, hk, rfl⟩ := List.mem_map.mp hw
  have h := (show ∀ k, k < 117 → lw_tbl[([1576, 1578, 1580, 1582, 1584, 1586, 1588, 1590, 1592, 1594, 1596, 1598, 1600, 1602, 1604, 1606, 1608, 1610, 1612, 1614, 1616, 1618, 1620, 1622, 1624, 1626, 1628, 1630, 1632, 1634, 1636, 1638, 1640, 1642, 1644, 1646, 1648, 1650, 1652, 1654, 1656, 1658, 1660, 1662, 1664, 1666, 1668, 1670, 1672, 1674, 1676, 1678, 1680, 1682, 1684, 1686, 1688, 1690, 1692, 1694, 1696, 1698, 1700, 1702, 1704, 1706, 1708, 1710, 1712, 1714, 1716, 1718, 1720, 1722, 1724, 1726, 1728, 1730, 1732, 1734, 1736, 1738, 1740, 1742, 1744, 1746, 1748, 1750, 1752, 1754, 1756, 1758, 1760, 1762, 1764, 1766, 1768, 1770, 1772, 1774, 1776, 1778, 1780, 1782, 1784, 1786, 1788, 1790, 1792, 1794, 1796, 1798, 1800, 1802, 1804, 1806, 1808] : List Nat).getD k 0]? = some (u_lay RX12 TX12 k) ∧ goodWord (u_lay RX12 TX12 k) = true by decide +kernel) k (List.mem_range.mp hk)
  exact mm_in _ h.1 h.2
theorem ma_boolean : Cond.arrayClass .boolean ∈ mm_tb := (mm_in 1811 (by decide +kernel) (by decide +kernel))
theorem ma_byte : Cond.arrayClass .byte ∈ mm_tb := (mm_in 213 (by decide +kernel) (by decide +kernel))
theorem ma_int : Cond.arrayClass .int ∈ mm_tb := (mm_in 212 (by decide +kernel) (by decide +kernel))
theorem ma_long : Cond.arrayClass .long ∈ mm_tb := (mm_in 242 (by decide +kernel) (by decide +kernel))
theorem mk_X2_42 : mm_ca RX2 42 5 := ⟨RX4, TX4, 6, rfl, by decide, (mm_in 936 (by decide +kernel) (by decide +kernel))⟩
theorem mk_X11_146 : mm_ca RX11 146 7 := ⟨RX6, TX6, 5, rfl, by decide, (mm_in 692 (by decide +kernel) (by decide +kernel))⟩
theorem mk_X11_256 : mm_ca RX11 256 1 := ⟨RX0, TX0, 13, rfl, by decide, (mm_in 648 (by decide +kernel) (by decide +kernel))⟩
theorem mk_X11_98 : mm_ca RX11 98 8 := ⟨RX7, TX7, 7, rfl, by decide, (mm_in 520 (by decide +kernel) (by decide +kernel))⟩
theorem mc_X7_34 : Cond.constant RX7 34 (2000000000) ∈ mm_tb := (mm_in 667 (by decide +kernel) (by decide +kernel))
theorem mc_X8_73 : Cond.constant RX8 73 (2000000000) ∈ mm_tb := (mm_in 1244 (by decide +kernel) (by decide +kernel))
theorem mc_X11_145 : Cond.constant RX11 145 (100000) ∈ mm_tb := (mm_in 705 (by decide +kernel) (by decide +kernel))
theorem mc_X11_97 : Cond.constant RX11 97 (1000000) ∈ mm_tb := (mm_in 519 (by decide +kernel) (by decide +kernel))
theorem mc_X12_279 : Cond.constant RX12 279 (1000000) ∈ mm_tb := (mm_in 1823 (by decide +kernel) (by decide +kernel))
theorem mc_X12_280 : Cond.constant RX12 280 (100000) ∈ mm_tb := (mm_in 1824 (by decide +kernel) (by decide +kernel))
theorem mc_X12_544 : Cond.constant RX12 544 (2000000000) ∈ mm_tb := (mm_in 2150 (by decide +kernel) (by decide +kernel))
theorem mc_J6_265 : Cond.constant RJ6 265 (1431655765) ∈ mm_tb := (mm_in 1378 (by decide +kernel) (by decide +kernel))
theorem mc_J6_266 : Cond.constant RJ6 266 (858993459) ∈ mm_tb := (mm_in 1379 (by decide +kernel) (by decide +kernel))
theorem mc_J6_267 : Cond.constant RJ6 267 (252645135) ∈ mm_tb := (mm_in 1380 (by decide +kernel) (by decide +kernel))
theorem mc_J8_200 : Cond.constant RJ8 200 (2147483639) ∈ mm_tb := (mm_in 575 (by decide +kernel) (by decide +kernel))
theorem mc_X8_74 : Cond.constantLong RX8 74 (2000000000) ∈ mm_tb := (mm_in 1235 (by decide +kernel) (by decide +kernel))
theorem mc_X9_51 : Cond.constantLong RX9 51 (-1) ∈ mm_tb := (mm_in 1315 (by decide +kernel) (by decide +kernel))
theorem mc_X11_380 : Cond.constantLong RX11 380 (-1) ∈ mm_tb := (mm_in 1281 (by decide +kernel) (by decide +kernel))
theorem mc_X12_542 : Cond.constantLong RX12 542 (2000000000) ∈ mm_tb := (mm_in 2149 (by decide +kernel) (by decide +kernel))
theorem mc_X12_545 : Cond.constantLong RX12 545 (15) ∈ mm_tb := (mm_in 2155 (by decide +kernel) (by decide +kernel))
theorem mc_X12_553 : Cond.constantLong RX12 553 (-1) ∈ mm_tb := (mm_in 2170 (by decide +kernel) (by decide +kernel))
theorem mc_X12_585 : Cond.constantLong RX12 585 (10000000000) ∈ mm_tb := (mm_in 2226 (by decide +kernel) (by decide +kernel))
theorem mc_X12_587 : Cond.constantLong RX12 587 (100000) ∈ mm_tb := (mm_in 2227 (by decide +kernel) (by decide +kernel))
theorem mw_X5_67 : mm_cw RX5 67 := ⟨(mm_in 893 (by decide +kernel) (by decide +kernel)), (mm_in 611 (by decide +kernel) (by decide +kernel)), (mm_in 610 (by decide +kernel) (by decide +kernel)), (mm_in 118 (by decide +kernel) (by decide +kernel))⟩
theorem mw_X9_74 : mm_cw RX9 74 := ⟨(mm_in 1327 (by decide +kernel) (by decide +kernel)), (mm_in 611 (by decide +kernel) (by decide +kernel)), (mm_in 610 (by decide +kernel) (by decide +kernel)), (mm_in 118 (by decide +kernel) (by decide +kernel))⟩
theorem mw_J7_150 : mm_cw RJ7 150 := ⟨(mm_in 609 (by decide +kernel) (by decide +kernel)), (mm_in 611 (by decide +kernel) (by decide +kernel)), (mm_in 610 (by decide +kernel) (by decide +kernel)), (mm_in 118 (by decide +kernel) (by decide +kernel))⟩
theorem mf_X0_15 : mm_fl RX0 15 1 1 := ⟨RX0, TX0, 13, "MerchantYard$Bargain", rfl, mi1, by decide, rfl, by decide, (mm_in 1046 (by decide +kernel) (by decide +kernel)), Or.inl rfl⟩
theorem mf_X0_18 : mm_fl RX0 18 1 2 := ⟨RX0, TX0, 13, "MerchantYard$Bargain", rfl, mi1, by decide, rfl, by decide, (mm_in 1048 (by decide +kernel) (by decide +kernel)), Or.inl rfl⟩
theorem mf_X0_21 : mm_fl RX0 21 1 3 := ⟨RX0, TX0, 13, "MerchantYard$Bargain", rfl, mi1, by decide, rfl, by decide, (mm_in 1050 (by decide +kernel) (by decide +kernel)), Or.inl rfl⟩
theorem mf_X0_24 : mm_fl RX0 24 1 4 := ⟨RX0, TX0, 13, "MerchantYard$Bargain", rfl, mi1, by decide, rfl, by decide, (mm_in 1052 (by decide +kernel) (by decide +kernel)), Or.inl rfl⟩
theorem mf_X0_27 : mm_fl RX0 27 1 5 := ⟨RX0, TX0, 13, "MerchantYard$Bargain", rfl, mi1, by decide, rfl, by decide, (mm_in 1054 (by decide +kernel) (by decide +kernel)), Or.inl rfl⟩
theorem mf_X0_30 : mm_fl RX0 30 1 6 := ⟨RX0, TX0, 13, "MerchantYard$Bargain", rfl, mi1, by decide, rfl, by decide, (mm_in 1056 (by decide +kernel) (by decide +kernel)), Or.inl rfl⟩
theorem mf_X0_33 : mm_fl RX0 33 1 8 := ⟨RX0, TX0, 13, "MerchantYard$Bargain", rfl, mi1, by decide, rfl, by decide, (mm_in 1059 (by decide +kernel) (by decide +kernel)), Or.inl rfl⟩
theorem mf_X0_36 : mm_fl RX0 36 1 10 := ⟨RX0, TX0, 13, "MerchantYard$Bargain", rfl, mi1, by decide, rfl, by decide, (mm_in 1063 (by decide +kernel) (by decide +kernel)), Or.inl rfl⟩
theorem mf_X0_40 : mm_fl RX0 40 1 11 := ⟨RX0, TX0, 13, "MerchantYard$Bargain", rfl, mi1, by decide, rfl, by decide, (mm_in 1065 (by decide +kernel) (by decide +kernel)), Or.inl rfl⟩
theorem mf_X0_43 : mm_fl RX0 43 1 12 := ⟨RX0, TX0, 13, "MerchantYard$Bargain", rfl, mi1, by decide, rfl, by decide, (mm_in 1067 (by decide +kernel) (by decide +kernel)), Or.inl rfl⟩
theorem mf_X0_46 : mm_fl RX0 46 1 9 := ⟨RX0, TX0, 13, "MerchantYard$Bargain", rfl, mi1, by decide, rfl, by decide, (mm_in 1061 (by decide +kernel) (by decide +kernel)), Or.inl rfl⟩
theorem mf_X0_9 : mm_fl RX0 9 1 0 := ⟨RX0, TX0, 13, "MerchantYard$Bargain", rfl, mi1, by decide, rfl, by decide, (mm_in 1044 (by decide +kernel) (by decide +kernel)), Or.inl rfl⟩
theorem mf_X1_11 : mm_fl RX1 11 2 0 := ⟨RX1, TX1, 10, "MerchantYard$Books", rfl, mi2, by decide, rfl, by decide, (mm_in 422 (by decide +kernel) (by decide +kernel)), Or.inl rfl⟩
theorem mf_X1_17 : mm_fl RX1 17 2 1 := ⟨RX1, TX1, 10, "MerchantYard$Books", rfl, mi2, by decide, rfl, by decide, (mm_in 424 (by decide +kernel) (by decide +kernel)), Or.inl rfl⟩
theorem mf_X1_20 : mm_fl RX1 20 2 2 := ⟨RX1, TX1, 10, "MerchantYard$Books", rfl, mi2, by decide, rfl, by decide, (mm_in 425 (by decide +kernel) (by decide +kernel)), Or.inl rfl⟩
theorem mf_X1_23 : mm_fl RX1 23 2 3 := ⟨RX1, TX1, 10, "MerchantYard$Books", rfl, mi2, by decide, rfl, by decide, (mm_in 426 (by decide +kernel) (by decide +kernel)), Or.inl rfl⟩
theorem mf_X1_26 : mm_fl RX1 26 2 4 := ⟨RX1, TX1, 10, "MerchantYard$Books", rfl, mi2, by decide, rfl, by decide, (mm_in 427 (by decide +kernel) (by decide +kernel)), Or.inl rfl⟩
theorem mf_X1_29 : mm_fl RX1 29 2 8 := ⟨RX1, TX1, 10, "MerchantYard$Books", rfl, mi2, by decide, rfl, by decide, (mm_in 435 (by decide +kernel) (by decide +kernel)), Or.inl rfl⟩
theorem mf_X1_32 : mm_fl RX1 32 2 7 := ⟨RX1, TX1, 10, "MerchantYard$Books", rfl, mi2, by decide, rfl, by decide, (mm_in 433 (by decide +kernel) (by decide +kernel)), Or.inl rfl⟩
theorem mf_X1_36 : mm_fl RX1 36 2 9 := ⟨RX1, TX1, 10, "MerchantYard$Books", rfl, mi2, by decide, rfl, by decide, (mm_in 436 (by decide +kernel) (by decide +kernel)), Or.inl rfl⟩
theorem mf_X1_71 : mm_fl RX1 71 2 5 := ⟨RX1, TX1, 10, "MerchantYard$Books", rfl, mi2, by decide, rfl, by decide, (mm_in 429 (by decide +kernel) (by decide +kernel)), Or.inl rfl⟩
theorem mf_X1_75 : mm_fl RX1 75 2 6 := ⟨RX1, TX1, 10, "MerchantYard$Books", rfl, mi2, by decide, rfl, by decide, (mm_in 431 (by decide +kernel) (by decide +kernel)), Or.inl rfl⟩
theorem mf_X2_12 : mm_fl RX2 12 3 0 := ⟨RX2, TX2, 5, "MerchantYard$Court", rfl, mi3, by decide, rfl, by decide, (mm_in 222 (by decide +kernel) (by decide +kernel)), Or.inl rfl⟩
theorem mf_X2_18 : mm_fl RX2 18 3 1 := ⟨RX2, TX2, 5, "MerchantYard$Court", rfl, mi3, by decide, rfl, by decide, (mm_in 224 (by decide +kernel) (by decide +kernel)), Or.inl rfl⟩
theorem mf_X2_24 : mm_fl RX2 24 3 2 := ⟨RX2, TX2, 5, "MerchantYard$Court", rfl, mi3, by decide, rfl, by decide, (mm_in 226 (by decide +kernel) (by decide +kernel)), Or.inl rfl⟩
theorem mf_X2_27 : mm_fl RX2 27 3 3 := ⟨RX2, TX2, 5, "MerchantYard$Court", rfl, mi3, by decide, rfl, by decide, (mm_in 227 (by decide +kernel) (by decide +kernel)), Or.inl rfl⟩
theorem mf_X2_31 : mm_fl RX2 31 3 4 := ⟨RX2, TX2, 5, "MerchantYard$Court", rfl, mi3, by decide, rfl, by decide, (mm_in 229 (by decide +kernel) (by decide +kernel)), Or.inl rfl⟩
theorem mf_X2_44 : mm_fl RX2 44 5 2 := ⟨RX4, TX4, 6, "MerchantYard$Law", rfl, mi5, by decide, rfl, by decide, (mm_in 906 (by decide +kernel) (by decide +kernel)), Or.inl rfl⟩
theorem mf_X2_47 : mm_fl RX2 47 5 0 := ⟨RX4, TX4, 6, "MerchantYard$Law", rfl, mi5, by decide, rfl, by decide, (mm_in 901 (by decide +kernel) (by decide +kernel)), Or.inl rfl⟩
theorem mf_X2_62 : mm_fl RX2 62 5 3 := ⟨RX4, TX4, 6, "MerchantYard$Law", rfl, mi5, by decide, rfl, by decide, (mm_in 909 (by decide +kernel) (by decide +kernel)), Or.inl rfl⟩
theorem mf_X3_13 : mm_fl RX3 13 4 1 := ⟨RX3, TX3, 6, "MerchantYard$Crowd", rfl, mi4, by decide, rfl, by decide, (mm_in 393 (by decide +kernel) (by decide +kernel)), Or.inl rfl⟩
theorem mf_X3_16 : mm_fl RX3 16 4 2 := ⟨RX3, TX3, 6, "MerchantYard$Crowd", rfl, mi4, by decide, rfl, by decide, (mm_in 394 (by decide +kernel) (by decide +kernel)), Or.inl rfl⟩
theorem mf_X3_19 : mm_fl RX3 19 4 4 := ⟨RX3, TX3, 6, "MerchantYard$Crowd", rfl, mi4, by decide, rfl, by decide, (mm_in 397 (by decide +kernel) (by decide +kernel)), Or.inl rfl⟩
theorem mf_X3_22 : mm_fl RX3 22 4 3 := ⟨RX3, TX3, 6, "MerchantYard$Crowd", rfl, mi4, by decide, rfl, by decide, (mm_in 395 (by decide +kernel) (by decide +kernel)), Or.inl rfl⟩
theorem mf_X3_35 : mm_fl RX3 35 4 5 := ⟨RX3, TX3, 6, "MerchantYard$Crowd", rfl, mi4, by decide, rfl, by decide, (mm_in 399 (by decide +kernel) (by decide +kernel)), Or.inl rfl⟩
theorem mf_X3_9 : mm_fl RX3 9 4 0 := ⟨RX3, TX3, 6, "MerchantYard$Crowd", rfl, mi4, by decide, rfl, by decide, (mm_in 392 (by decide +kernel) (by decide +kernel)), Or.inl rfl⟩
theorem mf_X4_15 : mm_fl RX4 15 5 2 := ⟨RX4, TX4, 6, "MerchantYard$Law", rfl, mi5, by decide, rfl, by decide, (mm_in 905 (by decide +kernel) (by decide +kernel)), Or.inl rfl⟩
theorem mf_X4_18 : mm_fl RX4 18 5 1 := ⟨RX4, TX4, 6, "MerchantYard$Law", rfl, mi5, by decide, rfl, by decide, (mm_in 903 (by decide +kernel) (by decide +kernel)), Or.inl rfl⟩
theorem mf_X4_21 : mm_fl RX4 21 5 3 := ⟨RX4, TX4, 6, "MerchantYard$Law", rfl, mi5, by decide, rfl, by decide, (mm_in 908 (by decide +kernel) (by decide +kernel)), Or.inl rfl⟩
theorem mf_X4_25 : mm_fl RX4 25 5 4 := ⟨RX4, TX4, 6, "MerchantYard$Law", rfl, mi5, by decide, rfl, by decide, (mm_in 911 (by decide +kernel) (by decide +kernel)), Or.inl rfl⟩
theorem mf_X4_28 : mm_fl RX4 28 5 5 := ⟨RX4, TX4, 6, "MerchantYard$Law", rfl, mi5, by decide, rfl, by decide, (mm_in 912 (by decide +kernel) (by decide +kernel)), Or.inl rfl⟩
theorem mf_X4_9 : mm_fl RX4 9 5 0 := ⟨RX4, TX4, 6, "MerchantYard$Law", rfl, mi5, by decide, rfl, by decide, (mm_in 900 (by decide +kernel) (by decide +kernel)), Or.inl rfl⟩
theorem mf_X5_11 : mm_fl RX5 11 6 0 := ⟨RX5, TX5, 14, "MerchantYard$LawReader", rfl, mi6, by decide, rfl, by decide, (mm_in 168 (by decide +kernel) (by decide +kernel)), Or.inl rfl⟩
theorem mf_X5_15 : mm_fl RX5 15 6 2 := ⟨RX5, TX5, 14, "MerchantYard$LawReader", rfl, mi6, by decide, rfl, by decide, (mm_in 171 (by decide +kernel) (by decide +kernel)), Or.inl rfl⟩
theorem mf_X5_19 : mm_fl RX5 19 6 3 := ⟨RX5, TX5, 14, "MerchantYard$LawReader", rfl, mi6, by decide, rfl, by decide, (mm_in 172 (by decide +kernel) (by decide +kernel)), Or.inl rfl⟩
theorem mf_X5_22 : mm_fl RX5 22 6 4 := ⟨RX5, TX5, 14, "MerchantYard$LawReader", rfl, mi6, by decide, rfl, by decide, (mm_in 173 (by decide +kernel) (by decide +kernel)), Or.inl rfl⟩
theorem mf_X5_25 : mm_fl RX5 25 6 9 := ⟨RX5, TX5, 14, "MerchantYard$LawReader", rfl, mi6, by decide, rfl, by decide, (mm_in 178 (by decide +kernel) (by decide +kernel)), Or.inl rfl⟩
theorem mf_X5_28 : mm_fl RX5 28 6 11 := ⟨RX5, TX5, 14, "MerchantYard$LawReader", rfl, mi6, by decide, rfl, by decide, (mm_in 180 (by decide +kernel) (by decide +kernel)), Or.inl rfl⟩
theorem mf_X5_31 : mm_fl RX5 31 6 12 := ⟨RX5, TX5, 14, "MerchantYard$LawReader", rfl, mi6, by decide, rfl, by decide, (mm_in 181 (by decide +kernel) (by decide +kernel)), Or.inl rfl⟩
theorem mf_X5_34 : mm_fl RX5 34 6 1 := ⟨RX5, TX5, 14, "MerchantYard$LawReader", rfl, mi6, by decide, rfl, by decide, (mm_in 169 (by decide +kernel) (by decide +kernel)), Or.inl rfl⟩
theorem mf_X5_45 : mm_fl RX5 45 6 6 := ⟨RX5, TX5, 14, "MerchantYard$LawReader", rfl, mi6, by decide, rfl, by decide, (mm_in 175 (by decide +kernel) (by decide +kernel)), Or.inl rfl⟩
theorem mf_X5_48 : mm_fl RX5 48 6 7 := ⟨RX5, TX5, 14, "MerchantYard$LawReader", rfl, mi6, by decide, rfl, by decide, (mm_in 176 (by decide +kernel) (by decide +kernel)), Or.inl rfl⟩
theorem mf_X5_51 : mm_fl RX5 51 6 8 := ⟨RX5, TX5, 14, "MerchantYard$LawReader", rfl, mi6, by decide, rfl, by decide, (mm_in 177 (by decide +kernel) (by decide +kernel)), Or.inl rfl⟩
theorem mf_X5_54 : mm_fl RX5 54 6 10 := ⟨RX5, TX5, 14, "MerchantYard$LawReader", rfl, mi6, by decide, rfl, by decide, (mm_in 179 (by decide +kernel) (by decide +kernel)), Or.inl rfl⟩
theorem mf_X5_57 : mm_fl RX5 57 6 13 := ⟨RX5, TX5, 14, "MerchantYard$LawReader", rfl, mi6, by decide, rfl, by decide, (mm_in 182 (by decide +kernel) (by decide +kernel)), Or.inl rfl⟩
theorem mf_X5_78 : mm_fl RX5 78 6 5 := ⟨RX5, TX5, 14, "MerchantYard$LawReader", rfl, mi6, by decide, rfl, by decide, (mm_in 174 (by decide +kernel) (by decide +kernel)), Or.inl rfl⟩
theorem mf_X6_13 : mm_fl RX6 13 7 1 := ⟨RX6, TX6, 5, "MerchantYard$Lot", rfl, mi7, by decide, rfl, by decide, (mm_in 713 (by decide +kernel) (by decide +kernel)), Or.inl rfl⟩
theorem mf_X6_16 : mm_fl RX6 16 7 2 := ⟨RX6, TX6, 5, "MerchantYard$Lot", rfl, mi7, by decide, rfl, by decide, (mm_in 715 (by decide +kernel) (by decide +kernel)), Or.inl rfl⟩
theorem mf_X6_19 : mm_fl RX6 19 7 3 := ⟨RX6, TX6, 5, "MerchantYard$Lot", rfl, mi7, by decide, rfl, by decide, (mm_in 717 (by decide +kernel) (by decide +kernel)), Or.inl rfl⟩
theorem mf_X6_22 : mm_fl RX6 22 7 4 := ⟨RX6, TX6, 5, "MerchantYard$Lot", rfl, mi7, by decide, rfl, by decide, (mm_in 719 (by decide +kernel) (by decide +kernel)), Or.inl rfl⟩
theorem mf_X6_7 : mm_fl RX6 7 7 0 := ⟨RX6, TX6, 5, "MerchantYard$Lot", rfl, mi7, by decide, rfl, by decide, (mm_in 711 (by decide +kernel) (by decide +kernel)), Or.inl rfl⟩
theorem mf_X7_15 : mm_fl RX7 15 8 1 := ⟨RX7, TX7, 7, "MerchantYard$Man", rfl, mi8, by decide, rfl, by decide, (mm_in 528 (by decide +kernel) (by decide +kernel)), Or.inl rfl⟩
theorem mf_X7_19 : mm_fl RX7 19 8 2 := ⟨RX7, TX7, 7, "MerchantYard$Man", rfl, mi8, by decide, rfl, by decide, (mm_in 530 (by decide +kernel) (by decide +kernel)), Or.inl rfl⟩
theorem mf_X7_22 : mm_fl RX7 22 8 3 := ⟨RX7, TX7, 7, "MerchantYard$Man", rfl, mi8, by decide, rfl, by decide, (mm_in 532 (by decide +kernel) (by decide +kernel)), Or.inl rfl⟩
theorem mf_X7_25 : mm_fl RX7 25 8 4 := ⟨RX7, TX7, 7, "MerchantYard$Man", rfl, mi8, by decide, rfl, by decide, (mm_in 534 (by decide +kernel) (by decide +kernel)), Or.inl rfl⟩
theorem mf_X7_9 : mm_fl RX7 9 8 0 := ⟨RX7, TX7, 7, "MerchantYard$Man", rfl, mi8, by decide, rfl, by decide, (mm_in 526 (by decide +kernel) (by decide +kernel)), Or.inl rfl⟩
theorem mf_X8_11 : mm_fl RX8 11 9 0 := ⟨RX8, TX8, 6, "MerchantYard$Measures", rfl, mi9, by decide, rfl, by decide, (mm_in 249 (by decide +kernel) (by decide +kernel)), Or.inl rfl⟩
theorem mf_X8_15 : mm_fl RX8 15 9 1 := ⟨RX8, TX8, 6, "MerchantYard$Measures", rfl, mi9, by decide, rfl, by decide, (mm_in 250 (by decide +kernel) (by decide +kernel)), Or.inl rfl⟩
theorem mf_X8_18 : mm_fl RX8 18 9 2 := ⟨RX8, TX8, 6, "MerchantYard$Measures", rfl, mi9, by decide, rfl, by decide, (mm_in 251 (by decide +kernel) (by decide +kernel)), Or.inl rfl⟩
theorem mf_X8_21 : mm_fl RX8 21 9 3 := ⟨RX8, TX8, 6, "MerchantYard$Measures", rfl, mi9, by decide, rfl, by decide, (mm_in 252 (by decide +kernel) (by decide +kernel)), Or.inl rfl⟩
theorem mf_X8_24 : mm_fl RX8 24 9 4 := ⟨RX8, TX8, 6, "MerchantYard$Measures", rfl, mi9, by decide, rfl, by decide, (mm_in 253 (by decide +kernel) (by decide +kernel)), Or.inl rfl⟩
theorem mf_X8_27 : mm_fl RX8 27 9 5 := ⟨RX8, TX8, 6, "MerchantYard$Measures", rfl, mi9, by decide, rfl, by decide, (mm_in 254 (by decide +kernel) (by decide +kernel)), Or.inl rfl⟩
theorem mf_X9_11 : mm_fl RX9 11 10 0 := ⟨RX9, TX9, 14, "MerchantYard$Planner", rfl, mi10, by decide, rfl, by decide, (mm_in 336 (by decide +kernel) (by decide +kernel)), Or.inl rfl⟩
theorem mf_X9_15 : mm_fl RX9 15 10 1 := ⟨RX9, TX9, 14, "MerchantYard$Planner", rfl, mi10, by decide, rfl, by decide, (mm_in 338 (by decide +kernel) (by decide +kernel)), Or.inl rfl⟩
theorem mf_X9_18 : mm_fl RX9 18 10 3 := ⟨RX9, TX9, 14, "MerchantYard$Planner", rfl, mi10, by decide, rfl, by decide, (mm_in 341 (by decide +kernel) (by decide +kernel)), Or.inl rfl⟩
theorem mf_X9_21 : mm_fl RX9 21 10 4 := ⟨RX9, TX9, 14, "MerchantYard$Planner", rfl, mi10, by decide, rfl, by decide, (mm_in 343 (by decide +kernel) (by decide +kernel)), Or.inl rfl⟩
theorem mf_X9_24 : mm_fl RX9 24 10 6 := ⟨RX9, TX9, 14, "MerchantYard$Planner", rfl, mi10, by decide, rfl, by decide, (mm_in 346 (by decide +kernel) (by decide +kernel)), Or.inl rfl⟩
theorem mf_X9_28 : mm_fl RX9 28 10 7 := ⟨RX9, TX9, 14, "MerchantYard$Planner", rfl, mi10, by decide, rfl, by decide, (mm_in 347 (by decide +kernel) (by decide +kernel)), Or.inl rfl⟩
theorem mf_X9_31 : mm_fl RX9 31 10 8 := ⟨RX9, TX9, 14, "MerchantYard$Planner", rfl, mi10, by decide, rfl, by decide, (mm_in 348 (by decide +kernel) (by decide +kernel)), Or.inl rfl⟩
theorem mf_X9_34 : mm_fl RX9 34 10 9 := ⟨RX9, TX9, 14, "MerchantYard$Planner", rfl, mi10, by decide, rfl, by decide, (mm_in 349 (by decide +kernel) (by decide +kernel)), Or.inl rfl⟩
theorem mf_X9_37 : mm_fl RX9 37 10 10 := ⟨RX9, TX9, 14, "MerchantYard$Planner", rfl, mi10, by decide, rfl, by decide, (mm_in 350 (by decide +kernel) (by decide +kernel)), Or.inl rfl⟩
theorem mf_X9_40 : mm_fl RX9 40 10 2 := ⟨RX9, TX9, 14, "MerchantYard$Planner", rfl, mi10, by decide, rfl, by decide, (mm_in 339 (by decide +kernel) (by decide +kernel)), Or.inl rfl⟩
theorem mf_X9_44 : mm_fl RX9 44 10 5 := ⟨RX9, TX9, 14, "MerchantYard$Planner", rfl, mi10, by decide, rfl, by decide, (mm_in 344 (by decide +kernel) (by decide +kernel)), Or.inl rfl⟩
theorem mf_X9_47 : mm_fl RX9 47 10 13 := ⟨RX9, TX9, 14, "MerchantYard$Planner", rfl, mi10, by decide, rfl, by decide, (mm_in 355 (by decide +kernel) (by decide +kernel)), Or.inl rfl⟩
theorem mf_X9_53 : mm_fl RX9 53 10 11 := ⟨RX9, TX9, 14, "MerchantYard$Planner", rfl, mi10, by decide, rfl, by decide, (mm_in 351 (by decide +kernel) (by decide +kernel)), Or.inl rfl⟩
theorem mf_X9_57 : mm_fl RX9 57 10 12 := ⟨RX9, TX9, 14, "MerchantYard$Planner", rfl, mi10, by decide, rfl, by decide, (mm_in 353 (by decide +kernel) (by decide +kernel)), Or.inl rfl⟩
theorem mf_X10_11 : mm_fl RX10 11 11 0 := ⟨RX10, TX10, 16, "MerchantYard$Sea", rfl, mi11, by decide, rfl, by decide, (mm_in 275 (by decide +kernel) (by decide +kernel)), Or.inl rfl⟩
theorem mf_X10_15 : mm_fl RX10 15 11 1 := ⟨RX10, TX10, 16, "MerchantYard$Sea", rfl, mi11, by decide, rfl, by decide, (mm_in 277 (by decide +kernel) (by decide +kernel)), Or.inl rfl⟩
theorem mf_X10_18 : mm_fl RX10 18 11 2 := ⟨RX10, TX10, 16, "MerchantYard$Sea", rfl, mi11, by decide, rfl, by decide, (mm_in 279 (by decide +kernel) (by decide +kernel)), Or.inl rfl⟩
theorem mf_X10_21 : mm_fl RX10 21 11 3 := ⟨RX10, TX10, 16, "MerchantYard$Sea", rfl, mi11, by decide, rfl, by decide, (mm_in 280 (by decide +kernel) (by decide +kernel)), Or.inl rfl⟩
theorem mf_X10_24 : mm_fl RX10 24 11 5 := ⟨RX10, TX10, 16, "MerchantYard$Sea", rfl, mi11, by decide, rfl, by decide, (mm_in 284 (by decide +kernel) (by decide +kernel)), Or.inl rfl⟩
theorem mf_X10_27 : mm_fl RX10 27 11 6 := ⟨RX10, TX10, 16, "MerchantYard$Sea", rfl, mi11, by decide, rfl, by decide, (mm_in 285 (by decide +kernel) (by decide +kernel)), Or.inl rfl⟩
theorem mf_X10_30 : mm_fl RX10 30 11 7 := ⟨RX10, TX10, 16, "MerchantYard$Sea", rfl, mi11, by decide, rfl, by decide, (mm_in 286 (by decide +kernel) (by decide +kernel)), Or.inl rfl⟩
theorem mf_X10_33 : mm_fl RX10 33 11 8 := ⟨RX10, TX10, 16, "MerchantYard$Sea", rfl, mi11, by decide, rfl, by decide, (mm_in 287 (by decide +kernel) (by decide +kernel)), Or.inl rfl⟩
theorem mf_X10_36 : mm_fl RX10 36 11 9 := ⟨RX10, TX10, 16, "MerchantYard$Sea", rfl, mi11, by decide, rfl, by decide, (mm_in 288 (by decide +kernel) (by decide +kernel)), Or.inl rfl⟩
theorem mf_X10_39 : mm_fl RX10 39 11 11 := ⟨RX10, TX10, 16, "MerchantYard$Sea", rfl, mi11, by decide, rfl, by decide, (mm_in 291 (by decide +kernel) (by decide +kernel)), Or.inl rfl⟩
theorem mf_X10_42 : mm_fl RX10 42 11 12 := ⟨RX10, TX10, 16, "MerchantYard$Sea", rfl, mi11, by decide, rfl, by decide, (mm_in 292 (by decide +kernel) (by decide +kernel)), Or.inl rfl⟩
theorem mf_X10_45 : mm_fl RX10 45 11 13 := ⟨RX10, TX10, 16, "MerchantYard$Sea", rfl, mi11, by decide, rfl, by decide, (mm_in 293 (by decide +kernel) (by decide +kernel)), Or.inl rfl⟩
theorem mf_X10_48 : mm_fl RX10 48 11 14 := ⟨RX10, TX10, 16, "MerchantYard$Sea", rfl, mi11, by decide, rfl, by decide, (mm_in 294 (by decide +kernel) (by decide +kernel)), Or.inl rfl⟩
theorem mf_X10_51 : mm_fl RX10 51 11 4 := ⟨RX10, TX10, 16, "MerchantYard$Sea", rfl, mi11, by decide, rfl, by decide, (mm_in 282 (by decide +kernel) (by decide +kernel)), Or.inl rfl⟩
theorem mf_X10_63 : mm_fl RX10 63 11 10 := ⟨RX10, TX10, 16, "MerchantYard$Sea", rfl, mi11, by decide, rfl, by decide, (mm_in 289 (by decide +kernel) (by decide +kernel)), Or.inl rfl⟩
theorem mf_X10_70 : mm_fl RX10 70 11 15 := ⟨RX10, TX10, 16, "MerchantYard$Sea", rfl, mi11, by decide, rfl, by decide, (mm_in 295 (by decide +kernel) (by decide +kernel)), Or.inl rfl⟩
theorem mf_X11_10 : mm_fl RX11 10 12 0 := ⟨RX11, TX11, 15, "MerchantYard", rfl, mi12, by decide, rfl, by decide, (mm_in 458 (by decide +kernel) (by decide +kernel)), Or.inl rfl⟩
theorem mf_X11_111 : mm_fl RX11 111 8 4 := ⟨RX7, TX7, 7, "MerchantYard$Man", rfl, mi8, by decide, rfl, by decide, (mm_in 535 (by decide +kernel) (by decide +kernel)), Or.inl rfl⟩
theorem mf_X11_121 : mm_fl RX11 121 8 0 := ⟨RX7, TX7, 7, "MerchantYard$Man", rfl, mi8, by decide, rfl, by decide, (mm_in 527 (by decide +kernel) (by decide +kernel)), Or.inl rfl⟩
theorem mf_X11_128 : mm_fl RX11 128 8 3 := ⟨RX7, TX7, 7, "MerchantYard$Man", rfl, mi8, by decide, rfl, by decide, (mm_in 533 (by decide +kernel) (by decide +kernel)), Or.inl rfl⟩
theorem mf_X11_155 : mm_fl RX11 155 7 0 := ⟨RX6, TX6, 5, "MerchantYard$Lot", rfl, mi7, by decide, rfl, by decide, (mm_in 712 (by decide +kernel) (by decide +kernel)), Or.inl rfl⟩
theorem mf_X11_158 : mm_fl RX11 158 7 3 := ⟨RX6, TX6, 5, "MerchantYard$Lot", rfl, mi7, by decide, rfl, by decide, (mm_in 718 (by decide +kernel) (by decide +kernel)), Or.inl rfl⟩
theorem mf_X11_16 : mm_fl RX11 16 12 1 := ⟨RX11, TX11, 15, "MerchantYard", rfl, mi12, by decide, rfl, by decide, (mm_in 459 (by decide +kernel) (by decide +kernel)), Or.inl rfl⟩
theorem mf_X11_161 : mm_fl RX11 161 7 4 := ⟨RX6, TX6, 5, "MerchantYard$Lot", rfl, mi7, by decide, rfl, by decide, (mm_in 720 (by decide +kernel) (by decide +kernel)), Or.inl rfl⟩
theorem mf_X11_164 : mm_fl RX11 164 7 1 := ⟨RX6, TX6, 5, "MerchantYard$Lot", rfl, mi7, by decide, rfl, by decide, (mm_in 714 (by decide +kernel) (by decide +kernel)), Or.inl rfl⟩
theorem mf_X11_167 : mm_fl RX11 167 7 2 := ⟨RX6, TX6, 5, "MerchantYard$Lot", rfl, mi7, by decide, rfl, by decide, (mm_in 716 (by decide +kernel) (by decide +kernel)), Or.inl rfl⟩
theorem mf_X11_174 : mm_fl RX11 174 8 1 := ⟨RX7, TX7, 7, "MerchantYard$Man", rfl, mi8, by decide, rfl, by decide, (mm_in 529 (by decide +kernel) (by decide +kernel)), Or.inl rfl⟩
theorem mf_X11_178 : mm_fl RX11 178 8 2 := ⟨RX7, TX7, 7, "MerchantYard$Man", rfl, mi8, by decide, rfl, by decide, (mm_in 531 (by decide +kernel) (by decide +kernel)), Or.inl rfl⟩
theorem mf_X11_188 : mm_fl RX11 188 6 1 := ⟨RX5, TX5, 14, "MerchantYard$LawReader", rfl, mi6, by decide, rfl, by decide, (mm_in 170 (by decide +kernel) (by decide +kernel)), Or.inl rfl⟩
theorem mf_X11_19 : mm_fl RX11 19 12 2 := ⟨RX11, TX11, 15, "MerchantYard", rfl, mi12, by decide, rfl, by decide, (mm_in 460 (by decide +kernel) (by decide +kernel)), Or.inl rfl⟩
theorem mf_X11_191 : mm_fl RX11 191 3 0 := ⟨RX2, TX2, 5, "MerchantYard$Court", rfl, mi3, by decide, rfl, by decide, (mm_in 223 (by decide +kernel) (by decide +kernel)), Or.inl rfl⟩
theorem mf_X11_205 : mm_fl RX11 205 5 0 := ⟨RX4, TX4, 6, "MerchantYard$Law", rfl, mi5, by decide, rfl, by decide, (mm_in 902 (by decide +kernel) (by decide +kernel)), Or.inl rfl⟩
theorem mf_X11_210 : mm_fl RX11 210 5 2 := ⟨RX4, TX4, 6, "MerchantYard$Law", rfl, mi5, by decide, rfl, by decide, (mm_in 907 (by decide +kernel) (by decide +kernel)), Or.inl rfl⟩
theorem mf_X11_213 : mm_fl RX11 213 5 3 := ⟨RX4, TX4, 6, "MerchantYard$Law", rfl, mi5, by decide, rfl, by decide, (mm_in 910 (by decide +kernel) (by decide +kernel)), Or.inl rfl⟩
theorem mf_X11_216 : mm_fl RX11 216 5 1 := ⟨RX4, TX4, 6, "MerchantYard$Law", rfl, mi5, by decide, rfl, by decide, (mm_in 904 (by decide +kernel) (by decide +kernel)), Or.inl rfl⟩
theorem mf_X11_22 : mm_fl RX11 22 12 3 := ⟨RX11, TX11, 15, "MerchantYard", rfl, mi12, by decide, rfl, by decide, (mm_in 461 (by decide +kernel) (by decide +kernel)), Or.inl rfl⟩
theorem mf_X11_233 : mm_fl RX11 233 3 3 := ⟨RX2, TX2, 5, "MerchantYard$Court", rfl, mi3, by decide, rfl, by decide, (mm_in 228 (by decide +kernel) (by decide +kernel)), Or.inl rfl⟩
theorem mf_X11_236 : mm_fl RX11 236 3 4 := ⟨RX2, TX2, 5, "MerchantYard$Court", rfl, mi3, by decide, rfl, by decide, (mm_in 230 (by decide +kernel) (by decide +kernel)), Or.inl rfl⟩
theorem mf_X11_269 : mm_fl RX11 269 1 7 := ⟨RX0, TX0, 13, "MerchantYard$Bargain", rfl, mi1, by decide, rfl, by decide, (mm_in 1058 (by decide +kernel) (by decide +kernel)), Or.inl rfl⟩
theorem mf_X11_276 : mm_fl RX11 276 1 0 := ⟨RX0, TX0, 13, "MerchantYard$Bargain", rfl, mi1, by decide, rfl, by decide, (mm_in 1045 (by decide +kernel) (by decide +kernel)), Or.inl rfl⟩
theorem mf_X11_279 : mm_fl RX11 279 1 1 := ⟨RX0, TX0, 13, "MerchantYard$Bargain", rfl, mi1, by decide, rfl, by decide, (mm_in 1047 (by decide +kernel) (by decide +kernel)), Or.inl rfl⟩
theorem mf_X11_282 : mm_fl RX11 282 1 2 := ⟨RX0, TX0, 13, "MerchantYard$Bargain", rfl, mi1, by decide, rfl, by decide, (mm_in 1049 (by decide +kernel) (by decide +kernel)), Or.inl rfl⟩
theorem mf_X11_285 : mm_fl RX11 285 1 3 := ⟨RX0, TX0, 13, "MerchantYard$Bargain", rfl, mi1, by decide, rfl, by decide, (mm_in 1051 (by decide +kernel) (by decide +kernel)), Or.inl rfl⟩
theorem mf_X11_288 : mm_fl RX11 288 1 6 := ⟨RX0, TX0, 13, "MerchantYard$Bargain", rfl, mi1, by decide, rfl, by decide, (mm_in 1057 (by decide +kernel) (by decide +kernel)), Or.inl rfl⟩
theorem mf_X11_29 : mm_fl RX11 29 12 4 := ⟨RX11, TX11, 15, "MerchantYard", rfl, mi12, by decide, rfl, by decide, (mm_in 462 (by decide +kernel) (by decide +kernel)), Or.inl rfl⟩
theorem mf_X11_291 : mm_fl RX11 291 1 4 := ⟨RX0, TX0, 13, "MerchantYard$Bargain", rfl, mi1, by decide, rfl, by decide, (mm_in 1053 (by decide +kernel) (by decide +kernel)), Or.inl rfl⟩
theorem mf_X11_294 : mm_fl RX11 294 1 9 := ⟨RX0, TX0, 13, "MerchantYard$Bargain", rfl, mi1, by decide, rfl, by decide, (mm_in 1062 (by decide +kernel) (by decide +kernel)), Or.inl rfl⟩
theorem mf_X11_297 : mm_fl RX11 297 1 5 := ⟨RX0, TX0, 13, "MerchantYard$Bargain", rfl, mi1, by decide, rfl, by decide, (mm_in 1055 (by decide +kernel) (by decide +kernel)), Or.inl rfl⟩
theorem mf_X11_300 : mm_fl RX11 300 1 8 := ⟨RX0, TX0, 13, "MerchantYard$Bargain", rfl, mi1, by decide, rfl, by decide, (mm_in 1060 (by decide +kernel) (by decide +kernel)), Or.inl rfl⟩
theorem mf_X11_309 : mm_fl RX11 309 1 10 := ⟨RX0, TX0, 13, "MerchantYard$Bargain", rfl, mi1, by decide, rfl, by decide, (mm_in 1064 (by decide +kernel) (by decide +kernel)), Or.inl rfl⟩
theorem mf_X11_312 : mm_fl RX11 312 1 11 := ⟨RX0, TX0, 13, "MerchantYard$Bargain", rfl, mi1, by decide, rfl, by decide, (mm_in 1066 (by decide +kernel) (by decide +kernel)), Or.inl rfl⟩
theorem mf_X11_315 : mm_fl RX11 315 1 12 := ⟨RX0, TX0, 13, "MerchantYard$Bargain", rfl, mi1, by decide, rfl, by decide, (mm_in 1068 (by decide +kernel) (by decide +kernel)), Or.inl rfl⟩
theorem mf_X11_36 : mm_fl RX11 36 12 5 := ⟨RX11, TX11, 15, "MerchantYard", rfl, mi12, by decide, rfl, by decide, (mm_in 463 (by decide +kernel) (by decide +kernel)), Or.inl rfl⟩
theorem mf_X11_391 : mm_fl RX11 391 11 3 := ⟨RX10, TX10, 16, "MerchantYard$Sea", rfl, mi11, by decide, rfl, by decide, (mm_in 281 (by decide +kernel) (by decide +kernel)), Or.inl rfl⟩
theorem mf_X11_402 : mm_fl RX11 402 10 11 := ⟨RX9, TX9, 14, "MerchantYard$Planner", rfl, mi10, by decide, rfl, by decide, (mm_in 352 (by decide +kernel) (by decide +kernel)), Or.inl rfl⟩
theorem mf_X11_405 : mm_fl RX11 405 10 13 := ⟨RX9, TX9, 14, "MerchantYard$Planner", rfl, mi10, by decide, rfl, by decide, (mm_in 356 (by decide +kernel) (by decide +kernel)), Or.inl rfl⟩
theorem mf_X11_408 : mm_fl RX11 408 10 2 := ⟨RX9, TX9, 14, "MerchantYard$Planner", rfl, mi10, by decide, rfl, by decide, (mm_in 340 (by decide +kernel) (by decide +kernel)), Or.inl rfl⟩
theorem mf_X11_411 : mm_fl RX11 411 10 5 := ⟨RX9, TX9, 14, "MerchantYard$Planner", rfl, mi10, by decide, rfl, by decide, (mm_in 345 (by decide +kernel) (by decide +kernel)), Or.inl rfl⟩
theorem mf_X11_414 : mm_fl RX11 414 10 0 := ⟨RX9, TX9, 14, "MerchantYard$Planner", rfl, mi10, by decide, rfl, by decide, (mm_in 337 (by decide +kernel) (by decide +kernel)), Or.inl rfl⟩
theorem mf_X11_420 : mm_fl RX11 420 10 12 := ⟨RX9, TX9, 14, "MerchantYard$Planner", rfl, mi10, by decide, rfl, by decide, (mm_in 354 (by decide +kernel) (by decide +kernel)), Or.inl rfl⟩
theorem mf_X11_423 : mm_fl RX11 423 11 4 := ⟨RX10, TX10, 16, "MerchantYard$Sea", rfl, mi11, by decide, rfl, by decide, (mm_in 283 (by decide +kernel) (by decide +kernel)), Or.inl rfl⟩
theorem mf_X11_424 : mm_fl RX11 424 8 6 := ⟨RX7, TX7, 7, "MerchantYard$Man", rfl, mi8, by decide, rfl, by decide, (mm_in 537 (by decide +kernel) (by decide +kernel)), Or.inl rfl⟩
theorem mf_X11_427 : mm_fl RX11 427 11 1 := ⟨RX10, TX10, 16, "MerchantYard$Sea", rfl, mi11, by decide, rfl, by decide, (mm_in 278 (by decide +kernel) (by decide +kernel)), Or.inl rfl⟩
theorem mf_X11_43 : mm_fl RX11 43 12 6 := ⟨RX11, TX11, 15, "MerchantYard", rfl, mi12, by decide, rfl, by decide, (mm_in 464 (by decide +kernel) (by decide +kernel)), Or.inl rfl⟩
theorem mf_X11_430 : mm_fl RX11 430 11 0 := ⟨RX10, TX10, 16, "MerchantYard$Sea", rfl, mi11, by decide, rfl, by decide, (mm_in 276 (by decide +kernel) (by decide +kernel)), Or.inl rfl⟩
theorem mf_X11_436 : mm_fl RX11 436 8 5 := ⟨RX7, TX7, 7, "MerchantYard$Man", rfl, mi8, by decide, rfl, by decide, (mm_in 536 (by decide +kernel) (by decide +kernel)), Or.inl rfl⟩
theorem mf_X11_446 : mm_fl RX11 446 4 3 := ⟨RX3, TX3, 6, "MerchantYard$Crowd", rfl, mi4, by decide, rfl, by decide, (mm_in 396 (by decide +kernel) (by decide +kernel)), Or.inl rfl⟩
theorem mf_X11_452 : mm_fl RX11 452 4 5 := ⟨RX3, TX3, 6, "MerchantYard$Crowd", rfl, mi4, by decide, rfl, by decide, (mm_in 400 (by decide +kernel) (by decide +kernel)), Or.inl rfl⟩
theorem mf_X11_455 : mm_fl RX11 455 4 4 := ⟨RX3, TX3, 6, "MerchantYard$Crowd", rfl, mi4, by decide, rfl, by decide, (mm_in 398 (by decide +kernel) (by decide +kernel)), Or.inl rfl⟩
theorem mf_X11_465 : mm_fl RX11 465 2 7 := ⟨RX1, TX1, 10, "MerchantYard$Books", rfl, mi2, by decide, rfl, by decide, (mm_in 434 (by decide +kernel) (by decide +kernel)), Or.inl rfl⟩
theorem mf_X11_468 : mm_fl RX11 468 2 0 := ⟨RX1, TX1, 10, "MerchantYard$Books", rfl, mi2, by decide, rfl, by decide, (mm_in 423 (by decide +kernel) (by decide +kernel)), Or.inl rfl⟩
theorem mf_X11_471 : mm_fl RX11 471 2 5 := ⟨RX1, TX1, 10, "MerchantYard$Books", rfl, mi2, by decide, rfl, by decide, (mm_in 430 (by decide +kernel) (by decide +kernel)), Or.inl rfl⟩
theorem mf_X11_474 : mm_fl RX11 474 2 6 := ⟨RX1, TX1, 10, "MerchantYard$Books", rfl, mi2, by decide, rfl, by decide, (mm_in 432 (by decide +kernel) (by decide +kernel)), Or.inl rfl⟩
theorem mf_X11_477 : mm_fl RX11 477 2 4 := ⟨RX1, TX1, 10, "MerchantYard$Books", rfl, mi2, by decide, rfl, by decide, (mm_in 428 (by decide +kernel) (by decide +kernel)), Or.inl rfl⟩
theorem mf_X11_480 : mm_fl RX11 480 9 5 := ⟨RX8, TX8, 6, "MerchantYard$Measures", rfl, mi9, by decide, rfl, by decide, (mm_in 255 (by decide +kernel) (by decide +kernel)), Or.inl rfl⟩
theorem mf_X11_483 : mm_fl RX11 483 11 10 := ⟨RX10, TX10, 16, "MerchantYard$Sea", rfl, mi11, by decide, rfl, by decide, (mm_in 290 (by decide +kernel) (by decide +kernel)), Or.inl rfl⟩
theorem mf_X11_486 : mm_fl RX11 486 11 15 := ⟨RX10, TX10, 16, "MerchantYard$Sea", rfl, mi11, by decide, rfl, by decide, (mm_in 296 (by decide +kernel) (by decide +kernel)), Or.inl rfl⟩
theorem mf_X11_50 : mm_fl RX11 50 12 7 := ⟨RX11, TX11, 15, "MerchantYard", rfl, mi12, by decide, rfl, by decide, (mm_in 465 (by decide +kernel) (by decide +kernel)), Or.inl rfl⟩
theorem mf_X11_504 : mm_fl RX11 504 3 1 := ⟨RX2, TX2, 5, "MerchantYard$Court", rfl, mi3, by decide, rfl, by decide, (mm_in 225 (by decide +kernel) (by decide +kernel)), Or.inl rfl⟩
theorem mf_X11_523 : mm_fl RX11 523 10 3 := ⟨RX9, TX9, 14, "MerchantYard$Planner", rfl, mi10, by decide, rfl, by decide, (mm_in 342 (by decide +kernel) (by decide +kernel)), Or.inl rfl⟩
theorem mf_X11_57 : mm_fl RX11 57 12 8 := ⟨RX11, TX11, 15, "MerchantYard", rfl, mi12, by decide, rfl, by decide, (mm_in 466 (by decide +kernel) (by decide +kernel)), Or.inl rfl⟩
theorem mf_X11_64 : mm_fl RX11 64 12 9 := ⟨RX11, TX11, 15, "MerchantYard", rfl, mi12, by decide, rfl, by decide, (mm_in 467 (by decide +kernel) (by decide +kernel)), Or.inl rfl⟩
theorem mf_X11_71 : mm_fl RX11 71 12 10 := ⟨RX11, TX11, 15, "MerchantYard", rfl, mi12, by decide, rfl, by decide, (mm_in 468 (by decide +kernel) (by decide +kernel)), Or.inl rfl⟩
theorem mf_X11_75 : mm_fl RX11 75 12 11 := ⟨RX11, TX11, 15, "MerchantYard", rfl, mi12, by decide, rfl, by decide, (mm_in 469 (by decide +kernel) (by decide +kernel)), Or.inl rfl⟩
theorem mf_X11_79 : mm_fl RX11 79 12 12 := ⟨RX11, TX11, 15, "MerchantYard", rfl, mi12, by decide, rfl, by decide, (mm_in 470 (by decide +kernel) (by decide +kernel)), Or.inl rfl⟩
theorem mf_X11_83 : mm_fl RX11 83 12 13 := ⟨RX11, TX11, 15, "MerchantYard", rfl, mi12, by decide, rfl, by decide, (mm_in 471 (by decide +kernel) (by decide +kernel)), Or.inl rfl⟩
theorem mf_X11_86 : mm_fl RX11 86 12 14 := ⟨RX11, TX11, 15, "MerchantYard", rfl, mi12, by decide, rfl, by decide, (mm_in 472 (by decide +kernel) (by decide +kernel)), Or.inl rfl⟩
theorem mf_X12_100 : mm_fl RX12 100 13 44 := ⟨RX12, TX12, 117, "MerchantYardModel", rfl, mi13, by decide, rfl, by decide, (mm_in 1503 (by decide +kernel) (by decide +kernel)), Or.inl rfl⟩
theorem mf_X12_103 : mm_fl RX12 103 13 45 := ⟨RX12, TX12, 117, "MerchantYardModel", rfl, mi13, by decide, rfl, by decide, (mm_in 1504 (by decide +kernel) (by decide +kernel)), Or.inl rfl⟩
theorem mf_X12_106 : mm_fl RX12 106 13 46 := ⟨RX12, TX12, 117, "MerchantYardModel", rfl, mi13, by decide, rfl, by decide, (mm_in 1505 (by decide +kernel) (by decide +kernel)), Or.inl rfl⟩
theorem mf_X12_109 : mm_fl RX12 109 13 47 := ⟨RX12, TX12, 117, "MerchantYardModel", rfl, mi13, by decide, rfl, by decide, (mm_in 1506 (by decide +kernel) (by decide +kernel)), Or.inl rfl⟩
theorem mf_X12_112 : mm_fl RX12 112 13 48 := ⟨RX12, TX12, 117, "MerchantYardModel", rfl, mi13, by decide, rfl, by decide, (mm_in 1507 (by decide +kernel) (by decide +kernel)), Or.inl rfl⟩
theorem mf_X12_115 : mm_fl RX12 115 13 49 := ⟨RX12, TX12, 117, "MerchantYardModel", rfl, mi13, by decide, rfl, by decide, (mm_in 1508 (by decide +kernel) (by decide +kernel)), Or.inl rfl⟩
theorem mf_X12_118 : mm_fl RX12 118 13 50 := ⟨RX12, TX12, 117, "MerchantYardModel", rfl, mi13, by decide, rfl, by decide, (mm_in 1509 (by decide +kernel) (by decide +kernel)), Or.inl rfl⟩
theorem mf_X12_121 : mm_fl RX12 121 13 51 := ⟨RX12, TX12, 117, "MerchantYardModel", rfl, mi13, by decide, rfl, by decide, (mm_in 1510 (by decide +kernel) (by decide +kernel)), Or.inl rfl⟩
theorem mf_X12_124 : mm_fl RX12 124 13 52 := ⟨RX12, TX12, 117, "MerchantYardModel", rfl, mi13, by decide, rfl, by decide, (mm_in 1511 (by decide +kernel) (by decide +kernel)), Or.inl rfl⟩
theorem mf_X12_127 : mm_fl RX12 127 13 53 := ⟨RX12, TX12, 117, "MerchantYardModel", rfl, mi13, by decide, rfl, by decide, (mm_in 1512 (by decide +kernel) (by decide +kernel)), Or.inl rfl⟩
theorem mf_X12_13 : mm_fl RX12 13 13 4 := ⟨RX12, TX12, 117, "MerchantYardModel", rfl, mi13, by decide, rfl, by decide, (mm_in 1463 (by decide +kernel) (by decide +kernel)), Or.inl rfl⟩
theorem mf_X12_130 : mm_fl RX12 130 13 54 := ⟨RX12, TX12, 117, "MerchantYardModel", rfl, mi13, by decide, rfl, by decide, (mm_in 1513 (by decide +kernel) (by decide +kernel)), Or.inl rfl⟩
theorem mf_X12_133 : mm_fl RX12 133 13 55 := ⟨RX12, TX12, 117, "MerchantYardModel", rfl, mi13, by decide, rfl, by decide, (mm_in 1514 (by decide +kernel) (by decide +kernel)), Or.inl rfl⟩
theorem mf_X12_136 : mm_fl RX12 136 13 56 := ⟨RX12, TX12, 117, "MerchantYardModel", rfl, mi13, by decide, rfl, by decide, (mm_in 1515 (by decide +kernel) (by decide +kernel)), Or.inl rfl⟩
theorem mf_X12_139 : mm_fl RX12 139 13 57 := ⟨RX12, TX12, 117, "MerchantYardModel", rfl, mi13, by decide, rfl, by decide, (mm_in 1516 (by decide +kernel) (by decide +kernel)), Or.inl rfl⟩
theorem mf_X12_142 : mm_fl RX12 142 13 58 := ⟨RX12, TX12, 117, "MerchantYardModel", rfl, mi13, by decide, rfl, by decide, (mm_in 1517 (by decide +kernel) (by decide +kernel)), Or.inl rfl⟩
theorem mf_X12_145 : mm_fl RX12 145 13 59 := ⟨RX12, TX12, 117, "MerchantYardModel", rfl, mi13, by decide, rfl, by decide, (mm_in 1518 (by decide +kernel) (by decide +kernel)), Or.inl rfl⟩
theorem mf_X12_149 : mm_fl RX12 149 13 60 := ⟨RX12, TX12, 117, "MerchantYardModel", rfl, mi13, by decide, rfl, by decide, (mm_in 1519 (by decide +kernel) (by decide +kernel)), Or.inl rfl⟩
theorem mf_X12_152 : mm_fl RX12 152 13 62 := ⟨RX12, TX12, 117, "MerchantYardModel", rfl, mi13, by decide, rfl, by decide, (mm_in 1521 (by decide +kernel) (by decide +kernel)), Or.inl rfl⟩
theorem mf_X12_155 : mm_fl RX12 155 13 63 := ⟨RX12, TX12, 117, "MerchantYardModel", rfl, mi13, by decide, rfl, by decide, (mm_in 1522 (by decide +kernel) (by decide +kernel)), Or.inl rfl⟩
theorem mf_X12_158 : mm_fl RX12 158 13 64 := ⟨RX12, TX12, 117, "MerchantYardModel", rfl, mi13, by decide, rfl, by decide, (mm_in 1523 (by decide +kernel) (by decide +kernel)), Or.inl rfl⟩
theorem mf_X12_16 : mm_fl RX12 16 13 5 := ⟨RX12, TX12, 117, "MerchantYardModel", rfl, mi13, by decide, rfl, by decide, (mm_in 1464 (by decide +kernel) (by decide +kernel)), Or.inl rfl⟩
theorem mf_X12_161 : mm_fl RX12 161 13 65 := ⟨RX12, TX12, 117, "MerchantYardModel", rfl, mi13, by decide, rfl, by decide, (mm_in 1524 (by decide +kernel) (by decide +kernel)), Or.inl rfl⟩
theorem mf_X12_164 : mm_fl RX12 164 13 66 := ⟨RX12, TX12, 117, "MerchantYardModel", rfl, mi13, by decide, rfl, by decide, (mm_in 1525 (by decide +kernel) (by decide +kernel)), Or.inl rfl⟩
theorem mf_X12_167 : mm_fl RX12 167 13 73 := ⟨RX12, TX12, 117, "MerchantYardModel", rfl, mi13, by decide, rfl, by decide, (mm_in 1532 (by decide +kernel) (by decide +kernel)), Or.inl rfl⟩
theorem mf_X12_170 : mm_fl RX12 170 13 74 := ⟨RX12, TX12, 117, "MerchantYardModel", rfl, mi13, by decide, rfl, by decide, (mm_in 1533 (by decide +kernel) (by decide +kernel)), Or.inl rfl⟩
theorem mf_X12_173 : mm_fl RX12 173 13 75 := ⟨RX12, TX12, 117, "MerchantYardModel", rfl, mi13, by decide, rfl, by decide, (mm_in 1534 (by decide +kernel) (by decide +kernel)), Or.inl rfl⟩
theorem mf_X12_176 : mm_fl RX12 176 13 78 := ⟨RX12, TX12, 117, "MerchantYardModel", rfl, mi13, by decide, rfl, by decide, (mm_in 1537 (by decide +kernel) (by decide +kernel)), Or.inl rfl⟩
theorem mf_X12_179 : mm_fl RX12 179 13 79 := ⟨RX12, TX12, 117, "MerchantYardModel", rfl, mi13, by decide, rfl, by decide, (mm_in 1538 (by decide +kernel) (by decide +kernel)), Or.inl rfl⟩
theorem mf_X12_182 : mm_fl RX12 182 13 80 := ⟨RX12, TX12, 117, "MerchantYardModel", rfl, mi13, by decide, rfl, by decide, (mm_in 1539 (by decide +kernel) (by decide +kernel)), Or.inl rfl⟩
theorem mf_X12_185 : mm_fl RX12 185 13 81 := ⟨RX12, TX12, 117, "MerchantYardModel", rfl, mi13, by decide, rfl, by decide, (mm_in 1540 (by decide +kernel) (by decide +kernel)), Or.inl rfl⟩
theorem mf_X12_188 : mm_fl RX12 188 13 82 := ⟨RX12, TX12, 117, "MerchantYardModel", rfl, mi13, by decide, rfl, by decide, (mm_in 1541 (by decide +kernel) (by decide +kernel)), Or.inl rfl⟩
theorem mf_X12_19 : mm_fl RX12 19 13 6 := ⟨RX12, TX12, 117, "MerchantYardModel", rfl, mi13, by decide, rfl, by decide, (mm_in 1465 (by decide +kernel) (by decide +kernel)), Or.inl rfl⟩
