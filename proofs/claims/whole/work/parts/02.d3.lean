theorem dX11_payClaimsOf_18 : decode cX11_payClaimsOf 18 = .ok (.invokevirtual 151, 3) := by decide +kernel
theorem dX11_payClaimsOf_21 : decode cX11_payClaimsOf 21 = .ok (.checkcast 256, 3) := by decide +kernel
theorem dX11_payClaimsOf_24 : decode cX11_payClaimsOf 24 = .ok (.astore_n 3, 1) := by decide +kernel
theorem dX11_payClaimsOf_25 : decode cX11_payClaimsOf 25 = .ok (.iconst 0, 1) := by decide +kernel
theorem dX11_payClaimsOf_26 : decode cX11_payClaimsOf 26 = .ok (.istore 4, 2) := by decide +kernel
theorem dX11_payClaimsOf_28 : decode cX11_payClaimsOf 28 = .ok (.iload 4, 2) := by decide +kernel
theorem dX11_payClaimsOf_30 : decode cX11_payClaimsOf 30 = .ok (.aload_n 3, 1) := by decide +kernel
theorem dX11_payClaimsOf_31 : decode cX11_payClaimsOf 31 = .ok (.getfield 294, 3) := by decide +kernel
theorem dX11_payClaimsOf_34 : decode cX11_payClaimsOf 34 = .ok (.if_icmp .ge 32, 3) := by decide +kernel
theorem dX11_payClaimsOf_37 : decode cX11_payClaimsOf 37 = .ok (.aload_n 3, 1) := by decide +kernel
theorem dX11_payClaimsOf_38 : decode cX11_payClaimsOf 38 = .ok (.getfield 279, 3) := by decide +kernel
theorem dX11_payClaimsOf_41 : decode cX11_payClaimsOf 41 = .ok (.iload_n 1, 1) := by decide +kernel
theorem dX11_payClaimsOf_42 : decode cX11_payClaimsOf 42 = .ok (.if_icmp .ne 24, 3) := by decide +kernel
theorem dX11_payClaimsOf_45 : decode cX11_payClaimsOf 45 = .ok (.aload_n 0, 1) := by decide +kernel
theorem dX11_payClaimsOf_46 : decode cX11_payClaimsOf 46 = .ok (.aload_n 3, 1) := by decide +kernel
theorem dX11_payClaimsOf_47 : decode cX11_payClaimsOf 47 = .ok (.iload 4, 2) := by decide +kernel
theorem dX11_payClaimsOf_49 : decode cX11_payClaimsOf 49 = .ok (.aload_n 3, 1) := by decide +kernel
theorem dX11_payClaimsOf_50 : decode cX11_payClaimsOf 50 = .ok (.getfield 312, 3) := by decide +kernel
theorem dX11_payClaimsOf_53 : decode cX11_payClaimsOf 53 = .ok (.iload 4, 2) := by decide +kernel
theorem dX11_payClaimsOf_55 : decode cX11_payClaimsOf 55 = .ok (.iaload, 1) := by decide +kernel
theorem dX11_payClaimsOf_56 : decode cX11_payClaimsOf 56 = .ok (.invokevirtual 321, 3) := by decide +kernel
theorem dX11_payClaimsOf_59 : decode cX11_payClaimsOf 59 = .ok (.pop, 1) := by decide +kernel
theorem dX11_payClaimsOf_60 : decode cX11_payClaimsOf 60 = .ok (.iinc 4 1, 3) := by decide +kernel
theorem dX11_payClaimsOf_63 : decode cX11_payClaimsOf 63 = .ok (.goto (-35), 3) := by decide +kernel
theorem dX11_payClaimsOf_66 : decode cX11_payClaimsOf 66 = .ok (.iinc 2 1, 3) := by decide +kernel
theorem dX11_payClaimsOf_69 : decode cX11_payClaimsOf 69 = .ok (.goto (-67), 3) := by decide +kernel
theorem dX11_payClaimsOf_72 : decode cX11_payClaimsOf 72 = .ok (.return_, 1) := by decide +kernel
theorem dX11_leaveLots_0 : decode cX11_leaveLots 0 = .ok (.iconst 0, 1) := by decide +kernel
theorem dX11_leaveLots_1 : decode cX11_leaveLots 1 = .ok (.istore_n 3, 1) := by decide +kernel
theorem dX11_leaveLots_2 : decode cX11_leaveLots 2 = .ok (.iload_n 3, 1) := by decide +kernel
theorem dX11_leaveLots_3 : decode cX11_leaveLots 3 = .ok (.aload_n 0, 1) := by decide +kernel
theorem dX11_leaveLots_4 : decode cX11_leaveLots 4 = .ok (.getfield 16, 3) := by decide +kernel
theorem dX11_leaveLots_7 : decode cX11_leaveLots 7 = .ok (.invokevirtual 89, 3) := by decide +kernel
theorem dX11_leaveLots_10 : decode cX11_leaveLots 10 = .ok (.if_icmp .ge 60, 3) := by decide +kernel
theorem dX11_leaveLots_13 : decode cX11_leaveLots 13 = .ok (.aload_n 0, 1) := by decide +kernel
theorem dX11_leaveLots_14 : decode cX11_leaveLots 14 = .ok (.getfield 16, 3) := by decide +kernel
theorem dX11_leaveLots_17 : decode cX11_leaveLots 17 = .ok (.iload_n 3, 1) := by decide +kernel
theorem dX11_leaveLots_18 : decode cX11_leaveLots 18 = .ok (.invokevirtual 151, 3) := by decide +kernel
theorem dX11_leaveLots_21 : decode cX11_leaveLots 21 = .ok (.checkcast 146, 3) := by decide +kernel
theorem dX11_leaveLots_24 : decode cX11_leaveLots 24 = .ok (.astore 4, 2) := by decide +kernel
theorem dX11_leaveLots_26 : decode cX11_leaveLots 26 = .ok (.aload 4, 2) := by decide +kernel
theorem dX11_leaveLots_28 : decode cX11_leaveLots 28 = .ok (.getfield 161, 3) := by decide +kernel
theorem dX11_leaveLots_31 : decode cX11_leaveLots 31 = .ok (.iload_n 1, 1) := by decide +kernel
theorem dX11_leaveLots_32 : decode cX11_leaveLots 32 = .ok (.if_icmp .ne 17, 3) := by decide +kernel
theorem dX11_leaveLots_35 : decode cX11_leaveLots 35 = .ok (.iload_n 2, 1) := by decide +kernel
theorem dX11_leaveLots_36 : decode cX11_leaveLots 36 = .ok (.iconst (-1), 1) := by decide +kernel
theorem dX11_leaveLots_37 : decode cX11_leaveLots 37 = .ok (.if_icmp .ne 12, 3) := by decide +kernel
theorem dX11_leaveLots_40 : decode cX11_leaveLots 40 = .ok (.aload 4, 2) := by decide +kernel
theorem dX11_leaveLots_42 : decode cX11_leaveLots 42 = .ok (.iconst 0, 1) := by decide +kernel
theorem dX11_leaveLots_43 : decode cX11_leaveLots 43 = .ok (.putfield 158, 3) := by decide +kernel
theorem dX11_leaveLots_46 : decode cX11_leaveLots 46 = .ok (.goto 18, 3) := by decide +kernel
theorem dX11_leaveLots_49 : decode cX11_leaveLots 49 = .ok (.aload 4, 2) := by decide +kernel
theorem dX11_leaveLots_51 : decode cX11_leaveLots 51 = .ok (.getfield 161, 3) := by decide +kernel
theorem dX11_leaveLots_54 : decode cX11_leaveLots 54 = .ok (.iload_n 1, 1) := by decide +kernel
theorem dX11_leaveLots_55 : decode cX11_leaveLots 55 = .ok (.if_icmp .ne 9, 3) := by decide +kernel
theorem dX11_leaveLots_58 : decode cX11_leaveLots 58 = .ok (.aload 4, 2) := by decide +kernel
theorem dX11_leaveLots_60 : decode cX11_leaveLots 60 = .ok (.iload_n 2, 1) := by decide +kernel
theorem dX11_leaveLots_61 : decode cX11_leaveLots 61 = .ok (.putfield 161, 3) := by decide +kernel
theorem dX11_leaveLots_64 : decode cX11_leaveLots 64 = .ok (.iinc 3 1, 3) := by decide +kernel
theorem dX11_leaveLots_67 : decode cX11_leaveLots 67 = .ok (.goto (-65), 3) := by decide +kernel
theorem dX11_leaveLots_70 : decode cX11_leaveLots 70 = .ok (.return_, 1) := by decide +kernel
theorem dX11_leaveDues_0 : decode cX11_leaveDues 0 = .ok (.iconst 0, 1) := by decide +kernel
theorem dX11_leaveDues_1 : decode cX11_leaveDues 1 = .ok (.istore_n 3, 1) := by decide +kernel
theorem dX11_leaveDues_2 : decode cX11_leaveDues 2 = .ok (.iload_n 3, 1) := by decide +kernel
theorem dX11_leaveDues_3 : decode cX11_leaveDues 3 = .ok (.aload_n 0, 1) := by decide +kernel
theorem dX11_leaveDues_4 : decode cX11_leaveDues 4 = .ok (.getfield 19, 3) := by decide +kernel
theorem dX11_leaveDues_7 : decode cX11_leaveDues 7 = .ok (.invokevirtual 89, 3) := by decide +kernel
theorem dX11_leaveDues_10 : decode cX11_leaveDues 10 = .ok (.if_icmp .ge 25, 3) := by decide +kernel
theorem dX11_leaveDues_13 : decode cX11_leaveDues 13 = .ok (.aload_n 0, 1) := by decide +kernel
theorem dX11_leaveDues_14 : decode cX11_leaveDues 14 = .ok (.getfield 19, 3) := by decide +kernel
theorem dX11_leaveDues_17 : decode cX11_leaveDues 17 = .ok (.iload_n 3, 1) := by decide +kernel
theorem dX11_leaveDues_18 : decode cX11_leaveDues 18 = .ok (.invokevirtual 151, 3) := by decide +kernel
theorem dX11_leaveDues_21 : decode cX11_leaveDues 21 = .ok (.checkcast 256, 3) := by decide +kernel
theorem dX11_leaveDues_24 : decode cX11_leaveDues 24 = .ok (.iload_n 1, 1) := by decide +kernel
theorem dX11_leaveDues_25 : decode cX11_leaveDues 25 = .ok (.iload_n 2, 1) := by decide +kernel
theorem dX11_leaveDues_26 : decode cX11_leaveDues 26 = .ok (.invokevirtual 520, 3) := by decide +kernel
theorem dX11_leaveDues_29 : decode cX11_leaveDues 29 = .ok (.iinc 3 1, 3) := by decide +kernel
theorem dX11_leaveDues_32 : decode cX11_leaveDues 32 = .ok (.goto (-30), 3) := by decide +kernel
theorem dX11_leaveDues_35 : decode cX11_leaveDues 35 = .ok (.return_, 1) := by decide +kernel
theorem dX11_tellPlannerPrices_0 : decode cX11_tellPlannerPrices 0 = .ok (.iconst 0, 1) := by decide +kernel
theorem dX11_tellPlannerPrices_1 : decode cX11_tellPlannerPrices 1 = .ok (.istore_n 1, 1) := by decide +kernel
theorem dX11_tellPlannerPrices_2 : decode cX11_tellPlannerPrices 2 = .ok (.iload_n 1, 1) := by decide +kernel
theorem dX11_tellPlannerPrices_3 : decode cX11_tellPlannerPrices 3 = .ok (.aload_n 0, 1) := by decide +kernel
theorem dX11_tellPlannerPrices_4 : decode cX11_tellPlannerPrices 4 = .ok (.getfield 57, 3) := by decide +kernel
theorem dX11_tellPlannerPrices_7 : decode cX11_tellPlannerPrices 7 = .ok (.getfield 408, 3) := by decide +kernel
theorem dX11_tellPlannerPrices_10 : decode cX11_tellPlannerPrices 10 = .ok (.if_icmp .ge 146, 3) := by decide +kernel
theorem dX11_tellPlannerPrices_13 : decode cX11_tellPlannerPrices 13 = .ok (.aload_n 0, 1) := by decide +kernel
theorem dX11_tellPlannerPrices_14 : decode cX11_tellPlannerPrices 14 = .ok (.getfield 16, 3) := by decide +kernel
theorem dX11_tellPlannerPrices_17 : decode cX11_tellPlannerPrices 17 = .ok (.aload_n 0, 1) := by decide +kernel
theorem dX11_tellPlannerPrices_18 : decode cX11_tellPlannerPrices 18 = .ok (.getfield 57, 3) := by decide +kernel
theorem dX11_tellPlannerPrices_21 : decode cX11_tellPlannerPrices 21 = .ok (.getfield 414, 3) := by decide +kernel
theorem dX11_tellPlannerPrices_24 : decode cX11_tellPlannerPrices 24 = .ok (.iload_n 1, 1) := by decide +kernel
theorem dX11_tellPlannerPrices_25 : decode cX11_tellPlannerPrices 25 = .ok (.iaload, 1) := by decide +kernel
theorem dX11_tellPlannerPrices_26 : decode cX11_tellPlannerPrices 26 = .ok (.invokevirtual 151, 3) := by decide +kernel
theorem dX11_tellPlannerPrices_29 : decode cX11_tellPlannerPrices 29 = .ok (.checkcast 146, 3) := by decide +kernel
theorem dX11_tellPlannerPrices_32 : decode cX11_tellPlannerPrices 32 = .ok (.getfield 155, 3) := by decide +kernel
theorem dX11_tellPlannerPrices_35 : decode cX11_tellPlannerPrices 35 = .ok (.istore_n 2, 1) := by decide +kernel
theorem dX11_tellPlannerPrices_36 : decode cX11_tellPlannerPrices 36 = .ok (.iconst 0, 1) := by decide +kernel
theorem dX11_tellPlannerPrices_37 : decode cX11_tellPlannerPrices 37 = .ok (.istore_n 3, 1) := by decide +kernel
theorem dX11_tellPlannerPrices_38 : decode cX11_tellPlannerPrices 38 = .ok (.iload_n 3, 1) := by decide +kernel
theorem dX11_tellPlannerPrices_39 : decode cX11_tellPlannerPrices 39 = .ok (.aload_n 0, 1) := by decide +kernel
theorem dX11_tellPlannerPrices_40 : decode cX11_tellPlannerPrices 40 = .ok (.getfield 57, 3) := by decide +kernel
theorem dX11_tellPlannerPrices_43 : decode cX11_tellPlannerPrices 43 = .ok (.getfield 411, 3) := by decide +kernel
theorem dX11_tellPlannerPrices_46 : decode cX11_tellPlannerPrices 46 = .ok (.if_icmp .ge 65, 3) := by decide +kernel
theorem dX11_tellPlannerPrices_49 : decode cX11_tellPlannerPrices 49 = .ok (.aload_n 0, 1) := by decide +kernel
theorem dX11_tellPlannerPrices_50 : decode cX11_tellPlannerPrices 50 = .ok (.getfield 50, 3) := by decide +kernel
theorem dX11_tellPlannerPrices_53 : decode cX11_tellPlannerPrices 53 = .ok (.getfield 430, 3) := by decide +kernel
theorem dX11_tellPlannerPrices_56 : decode cX11_tellPlannerPrices 56 = .ok (.aload_n 0, 1) := by decide +kernel
theorem dX11_tellPlannerPrices_57 : decode cX11_tellPlannerPrices 57 = .ok (.getfield 57, 3) := by decide +kernel
theorem dX11_tellPlannerPrices_60 : decode cX11_tellPlannerPrices 60 = .ok (.getfield 523, 3) := by decide +kernel
theorem dX11_tellPlannerPrices_63 : decode cX11_tellPlannerPrices 63 = .ok (.iload_n 3, 1) := by decide +kernel
theorem dX11_tellPlannerPrices_64 : decode cX11_tellPlannerPrices 64 = .ok (.iaload, 1) := by decide +kernel
theorem dX11_tellPlannerPrices_65 : decode cX11_tellPlannerPrices 65 = .ok (.iaload, 1) := by decide +kernel
theorem dX11_tellPlannerPrices_66 : decode cX11_tellPlannerPrices 66 = .ok (.istore 4, 2) := by decide +kernel
theorem dX11_tellPlannerPrices_68 : decode cX11_tellPlannerPrices 68 = .ok (.aload_n 0, 1) := by decide +kernel
theorem dX11_tellPlannerPrices_69 : decode cX11_tellPlannerPrices 69 = .ok (.getfield 57, 3) := by decide +kernel
theorem dX11_tellPlannerPrices_72 : decode cX11_tellPlannerPrices 72 = .ok (.iload_n 1, 1) := by decide +kernel
theorem dX11_tellPlannerPrices_73 : decode cX11_tellPlannerPrices 73 = .ok (.iload_n 3, 1) := by decide +kernel
theorem dX11_tellPlannerPrices_74 : decode cX11_tellPlannerPrices 74 = .ok (.aload_n 0, 1) := by decide +kernel
theorem dX11_tellPlannerPrices_75 : decode cX11_tellPlannerPrices 75 = .ok (.getfield 50, 3) := by decide +kernel
theorem dX11_tellPlannerPrices_78 : decode cX11_tellPlannerPrices 78 = .ok (.iload 4, 2) := by decide +kernel
theorem dX11_tellPlannerPrices_80 : decode cX11_tellPlannerPrices 80 = .ok (.iload_n 2, 1) := by decide +kernel
theorem dX11_tellPlannerPrices_81 : decode cX11_tellPlannerPrices 81 = .ok (.aload_n 0, 1) := by decide +kernel
theorem dX11_tellPlannerPrices_82 : decode cX11_tellPlannerPrices 82 = .ok (.getfield 75, 3) := by decide +kernel
theorem dX11_tellPlannerPrices_85 : decode cX11_tellPlannerPrices 85 = .ok (.invokevirtual 374, 3) := by decide +kernel
theorem dX11_tellPlannerPrices_88 : decode cX11_tellPlannerPrices 88 = .ok (.aload_n 0, 1) := by decide +kernel
theorem dX11_tellPlannerPrices_89 : decode cX11_tellPlannerPrices 89 = .ok (.getfield 50, 3) := by decide +kernel
theorem dX11_tellPlannerPrices_92 : decode cX11_tellPlannerPrices 92 = .ok (.iload 4, 2) := by decide +kernel
theorem dX11_tellPlannerPrices_94 : decode cX11_tellPlannerPrices 94 = .ok (.iload_n 2, 1) := by decide +kernel
theorem dX11_tellPlannerPrices_95 : decode cX11_tellPlannerPrices 95 = .ok (.aload_n 0, 1) := by decide +kernel
theorem dX11_tellPlannerPrices_96 : decode cX11_tellPlannerPrices 96 = .ok (.getfield 75, 3) := by decide +kernel
theorem dX11_tellPlannerPrices_99 : decode cX11_tellPlannerPrices 99 = .ok (.invokevirtual 377, 3) := by decide +kernel
theorem dX11_tellPlannerPrices_102 : decode cX11_tellPlannerPrices 102 = .ok (.invokevirtual 526, 3) := by decide +kernel
theorem dX11_tellPlannerPrices_105 : decode cX11_tellPlannerPrices 105 = .ok (.iinc 3 1, 3) := by decide +kernel
theorem dX11_tellPlannerPrices_108 : decode cX11_tellPlannerPrices 108 = .ok (.goto (-70), 3) := by decide +kernel
theorem dX11_tellPlannerPrices_111 : decode cX11_tellPlannerPrices 111 = .ok (.aload_n 0, 1) := by decide +kernel
theorem dX11_tellPlannerPrices_112 : decode cX11_tellPlannerPrices 112 = .ok (.getfield 50, 3) := by decide +kernel
theorem dX11_tellPlannerPrices_115 : decode cX11_tellPlannerPrices 115 = .ok (.bipush 8, 2) := by decide +kernel
theorem dX11_tellPlannerPrices_117 : decode cX11_tellPlannerPrices 117 = .ok (.iload_n 2, 1) := by decide +kernel
theorem dX11_tellPlannerPrices_118 : decode cX11_tellPlannerPrices 118 = .ok (.aload_n 0, 1) := by decide +kernel
theorem dX11_tellPlannerPrices_119 : decode cX11_tellPlannerPrices 119 = .ok (.getfield 75, 3) := by decide +kernel
theorem dX11_tellPlannerPrices_122 : decode cX11_tellPlannerPrices 122 = .ok (.invokevirtual 374, 3) := by decide +kernel
theorem dX11_tellPlannerPrices_125 : decode cX11_tellPlannerPrices 125 = .ok (.istore_n 3, 1) := by decide +kernel
theorem dX11_tellPlannerPrices_126 : decode cX11_tellPlannerPrices 126 = .ok (.aload_n 0, 1) := by decide +kernel
theorem dX11_tellPlannerPrices_127 : decode cX11_tellPlannerPrices 127 = .ok (.getfield 57, 3) := by decide +kernel
theorem dX11_tellPlannerPrices_130 : decode cX11_tellPlannerPrices 130 = .ok (.iload_n 1, 1) := by decide +kernel
theorem dX11_tellPlannerPrices_131 : decode cX11_tellPlannerPrices 131 = .ok (.iconst 4, 1) := by decide +kernel
theorem dX11_tellPlannerPrices_132 : decode cX11_tellPlannerPrices 132 = .ok (.iload_n 3, 1) := by decide +kernel
theorem dX11_tellPlannerPrices_133 : decode cX11_tellPlannerPrices 133 = .ok (.aload_n 0, 1) := by decide +kernel
theorem dX11_tellPlannerPrices_134 : decode cX11_tellPlannerPrices 134 = .ok (.getfield 50, 3) := by decide +kernel
theorem dX11_tellPlannerPrices_137 : decode cX11_tellPlannerPrices 137 = .ok (.bipush 8, 2) := by decide +kernel
theorem dX11_tellPlannerPrices_139 : decode cX11_tellPlannerPrices 139 = .ok (.iload_n 2, 1) := by decide +kernel
theorem dX11_tellPlannerPrices_140 : decode cX11_tellPlannerPrices 140 = .ok (.aload_n 0, 1) := by decide +kernel
theorem dX11_tellPlannerPrices_141 : decode cX11_tellPlannerPrices 141 = .ok (.getfield 75, 3) := by decide +kernel
theorem dX11_tellPlannerPrices_144 : decode cX11_tellPlannerPrices 144 = .ok (.invokevirtual 377, 3) := by decide +kernel
theorem dX11_tellPlannerPrices_147 : decode cX11_tellPlannerPrices 147 = .ok (.invokevirtual 526, 3) := by decide +kernel
theorem dX11_tellPlannerPrices_150 : decode cX11_tellPlannerPrices 150 = .ok (.iinc 1 1, 3) := by decide +kernel
theorem dX11_tellPlannerPrices_153 : decode cX11_tellPlannerPrices 153 = .ok (.goto (-151), 3) := by decide +kernel
theorem dX11_tellPlannerPrices_156 : decode cX11_tellPlannerPrices 156 = .ok (.return_, 1) := by decide +kernel
theorem dX12_init_0 : decode cX12_init 0 = .ok (.aload_n 0, 1) := by decide +kernel
theorem dX12_init_1 : decode cX12_init 1 = .ok (.invokespecial 1, 3) := by decide +kernel
theorem dX12_init_4 : decode cX12_init 4 = .ok (.aload_n 0, 1) := by decide +kernel
theorem dX12_init_5 : decode cX12_init 5 = .ok (.bipush 40, 2) := by decide +kernel
theorem dX12_init_7 : decode cX12_init 7 = .ok (.newarray .int, 2) := by decide +kernel
theorem dX12_init_9 : decode cX12_init 9 = .ok (.putfield 9, 3) := by decide +kernel
theorem dX12_init_12 : decode cX12_init 12 = .ok (.aload_n 0, 1) := by decide +kernel
theorem dX12_init_13 : decode cX12_init 13 = .ok (.bipush 40, 2) := by decide +kernel
theorem dX12_init_15 : decode cX12_init 15 = .ok (.newarray .int, 2) := by decide +kernel
theorem dX12_init_17 : decode cX12_init 17 = .ok (.putfield 13, 3) := by decide +kernel
theorem dX12_init_20 : decode cX12_init 20 = .ok (.aload_n 0, 1) := by decide +kernel
theorem dX12_init_21 : decode cX12_init 21 = .ok (.bipush 40, 2) := by decide +kernel
theorem dX12_init_23 : decode cX12_init 23 = .ok (.newarray .int, 2) := by decide +kernel
theorem dX12_init_25 : decode cX12_init 25 = .ok (.putfield 16, 3) := by decide +kernel
theorem dX12_init_28 : decode cX12_init 28 = .ok (.aload_n 0, 1) := by decide +kernel
theorem dX12_init_29 : decode cX12_init 29 = .ok (.bipush 40, 2) := by decide +kernel
theorem dX12_init_31 : decode cX12_init 31 = .ok (.newarray .int, 2) := by decide +kernel
theorem dX12_init_33 : decode cX12_init 33 = .ok (.putfield 19, 3) := by decide +kernel
theorem dX12_init_36 : decode cX12_init 36 = .ok (.aload_n 0, 1) := by decide +kernel
theorem dX12_init_37 : decode cX12_init 37 = .ok (.bipush 40, 2) := by decide +kernel
theorem dX12_init_39 : decode cX12_init 39 = .ok (.newarray .int, 2) := by decide +kernel
theorem dX12_init_41 : decode cX12_init 41 = .ok (.putfield 22, 3) := by decide +kernel
theorem dX12_init_44 : decode cX12_init 44 = .ok (.aload_n 0, 1) := by decide +kernel
theorem dX12_init_45 : decode cX12_init 45 = .ok (.bipush 10, 2) := by decide +kernel
theorem dX12_init_47 : decode cX12_init 47 = .ok (.newarray .int, 2) := by decide +kernel
theorem dX12_init_49 : decode cX12_init 49 = .ok (.putfield 25, 3) := by decide +kernel
theorem dX12_init_52 : decode cX12_init 52 = .ok (.aload_n 0, 1) := by decide +kernel
theorem dX12_init_53 : decode cX12_init 53 = .ok (.bipush 40, 2) := by decide +kernel
theorem dX12_init_55 : decode cX12_init 55 = .ok (.newarray .boolean, 2) := by decide +kernel
theorem dX12_init_57 : decode cX12_init 57 = .ok (.putfield 28, 3) := by decide +kernel
theorem dX12_init_60 : decode cX12_init 60 = .ok (.aload_n 0, 1) := by decide +kernel
theorem dX12_init_61 : decode cX12_init 61 = .ok (.sipush 200, 3) := by decide +kernel
theorem dX12_init_64 : decode cX12_init 64 = .ok (.newarray .int, 2) := by decide +kernel
theorem dX12_init_66 : decode cX12_init 66 = .ok (.putfield 32, 3) := by decide +kernel
theorem dX12_init_69 : decode cX12_init 69 = .ok (.aload_n 0, 1) := by decide +kernel
theorem dX12_init_70 : decode cX12_init 70 = .ok (.sipush 200, 3) := by decide +kernel
theorem dX12_init_73 : decode cX12_init 73 = .ok (.newarray .int, 2) := by decide +kernel
theorem dX12_init_75 : decode cX12_init 75 = .ok (.putfield 35, 3) := by decide +kernel
theorem dX12_init_78 : decode cX12_init 78 = .ok (.aload_n 0, 1) := by decide +kernel
theorem dX12_init_79 : decode cX12_init 79 = .ok (.sipush 200, 3) := by decide +kernel
theorem dX12_init_82 : decode cX12_init 82 = .ok (.newarray .int, 2) := by decide +kernel
theorem dX12_init_84 : decode cX12_init 84 = .ok (.putfield 38, 3) := by decide +kernel
theorem dX12_init_87 : decode cX12_init 87 = .ok (.aload_n 0, 1) := by decide +kernel
theorem dX12_init_88 : decode cX12_init 88 = .ok (.sipush 200, 3) := by decide +kernel
theorem dX12_init_91 : decode cX12_init 91 = .ok (.newarray .int, 2) := by decide +kernel
theorem dX12_init_93 : decode cX12_init 93 = .ok (.putfield 41, 3) := by decide +kernel
theorem dX12_init_96 : decode cX12_init 96 = .ok (.aload_n 0, 1) := by decide +kernel
theorem dX12_init_97 : decode cX12_init 97 = .ok (.sipush 200, 3) := by decide +kernel
theorem dX12_init_100 : decode cX12_init 100 = .ok (.newarray .int, 2) := by decide +kernel
theorem dX12_init_102 : decode cX12_init 102 = .ok (.putfield 44, 3) := by decide +kernel
theorem dX12_init_105 : decode cX12_init 105 = .ok (.aload_n 0, 1) := by decide +kernel
theorem dX12_init_106 : decode cX12_init 106 = .ok (.sipush 400, 3) := by decide +kernel
theorem dX12_init_109 : decode cX12_init 109 = .ok (.newarray .byte, 2) := by decide +kernel
theorem dX12_init_111 : decode cX12_init 111 = .ok (.putfield 47, 3) := by decide +kernel
theorem dX12_init_114 : decode cX12_init 114 = .ok (.aload_n 0, 1) := by decide +kernel
theorem dX12_init_115 : decode cX12_init 115 = .ok (.bipush 30, 2) := by decide +kernel
theorem dX12_init_117 : decode cX12_init 117 = .ok (.newarray .int, 2) := by decide +kernel
theorem dX12_init_119 : decode cX12_init 119 = .ok (.putfield 51, 3) := by decide +kernel
theorem dX12_init_122 : decode cX12_init 122 = .ok (.aload_n 0, 1) := by decide +kernel
theorem dX12_init_123 : decode cX12_init 123 = .ok (.bipush 30, 2) := by decide +kernel
theorem dX12_init_125 : decode cX12_init 125 = .ok (.newarray .int, 2) := by decide +kernel
theorem dX12_init_127 : decode cX12_init 127 = .ok (.putfield 54, 3) := by decide +kernel
theorem dX12_init_130 : decode cX12_init 130 = .ok (.aload_n 0, 1) := by decide +kernel
theorem dX12_init_131 : decode cX12_init 131 = .ok (.bipush 30, 2) := by decide +kernel
theorem dX12_init_133 : decode cX12_init 133 = .ok (.newarray .int, 2) := by decide +kernel
theorem dX12_init_135 : decode cX12_init 135 = .ok (.putfield 57, 3) := by decide +kernel
theorem dX12_init_138 : decode cX12_init 138 = .ok (.aload_n 0, 1) := by decide +kernel
theorem dX12_init_139 : decode cX12_init 139 = .ok (.bipush 30, 2) := by decide +kernel
theorem dX12_init_141 : decode cX12_init 141 = .ok (.newarray .int, 2) := by decide +kernel
theorem dX12_init_143 : decode cX12_init 143 = .ok (.putfield 60, 3) := by decide +kernel
theorem dX12_init_146 : decode cX12_init 146 = .ok (.aload_n 0, 1) := by decide +kernel
theorem dX12_init_147 : decode cX12_init 147 = .ok (.sipush 300, 3) := by decide +kernel
theorem dX12_init_150 : decode cX12_init 150 = .ok (.newarray .int, 2) := by decide +kernel
theorem dX12_init_152 : decode cX12_init 152 = .ok (.putfield 63, 3) := by decide +kernel
theorem dX12_init_155 : decode cX12_init 155 = .ok (.aload_n 0, 1) := by decide +kernel
theorem dX12_init_156 : decode cX12_init 156 = .ok (.sipush 300, 3) := by decide +kernel
theorem dX12_init_159 : decode cX12_init 159 = .ok (.newarray .int, 2) := by decide +kernel
theorem dX12_init_161 : decode cX12_init 161 = .ok (.putfield 66, 3) := by decide +kernel
theorem dX12_init_164 : decode cX12_init 164 = .ok (.aload_n 0, 1) := by decide +kernel
theorem dX12_init_165 : decode cX12_init 165 = .ok (.sipush 300, 3) := by decide +kernel
theorem dX12_init_168 : decode cX12_init 168 = .ok (.newarray .int, 2) := by decide +kernel
theorem dX12_init_170 : decode cX12_init 170 = .ok (.putfield 69, 3) := by decide +kernel
theorem dX12_init_173 : decode cX12_init 173 = .ok (.aload_n 0, 1) := by decide +kernel
theorem dX12_init_174 : decode cX12_init 174 = .ok (.sipush 12000, 3) := by decide +kernel
theorem dX12_init_177 : decode cX12_init 177 = .ok (.newarray .int, 2) := by decide +kernel
theorem dX12_init_179 : decode cX12_init 179 = .ok (.putfield 72, 3) := by decide +kernel
theorem dX12_init_182 : decode cX12_init 182 = .ok (.aload_n 0, 1) := by decide +kernel
theorem dX12_init_183 : decode cX12_init 183 = .ok (.sipush 12000, 3) := by decide +kernel
theorem dX12_init_186 : decode cX12_init 186 = .ok (.newarray .int, 2) := by decide +kernel
theorem dX12_init_188 : decode cX12_init 188 = .ok (.putfield 75, 3) := by decide +kernel
theorem dX12_init_191 : decode cX12_init 191 = .ok (.aload_n 0, 1) := by decide +kernel
theorem dX12_init_192 : decode cX12_init 192 = .ok (.sipush 400, 3) := by decide +kernel
theorem dX12_init_195 : decode cX12_init 195 = .ok (.newarray .int, 2) := by decide +kernel
theorem dX12_init_197 : decode cX12_init 197 = .ok (.putfield 78, 3) := by decide +kernel
theorem dX12_init_200 : decode cX12_init 200 = .ok (.aload_n 0, 1) := by decide +kernel
theorem dX12_init_201 : decode cX12_init 201 = .ok (.sipush 400, 3) := by decide +kernel
theorem dX12_init_204 : decode cX12_init 204 = .ok (.newarray .long, 2) := by decide +kernel
theorem dX12_init_206 : decode cX12_init 206 = .ok (.putfield 81, 3) := by decide +kernel
theorem dX12_init_209 : decode cX12_init 209 = .ok (.aload_n 0, 1) := by decide +kernel
theorem dX12_init_210 : decode cX12_init 210 = .ok (.bipush 14, 2) := by decide +kernel
theorem dX12_init_212 : decode cX12_init 212 = .ok (.newarray .long, 2) := by decide +kernel
theorem dX12_init_214 : decode cX12_init 214 = .ok (.putfield 85, 3) := by decide +kernel
theorem dX12_init_217 : decode cX12_init 217 = .ok (.aload_n 0, 1) := by decide +kernel
theorem dX12_init_218 : decode cX12_init 218 = .ok (.bipush 20, 2) := by decide +kernel
theorem dX12_init_220 : decode cX12_init 220 = .ok (.newarray .int, 2) := by decide +kernel
theorem dX12_init_222 : decode cX12_init 222 = .ok (.putfield 88, 3) := by decide +kernel
theorem dX12_init_225 : decode cX12_init 225 = .ok (.aload_n 0, 1) := by decide +kernel
theorem dX12_init_226 : decode cX12_init 226 = .ok (.bipush 20, 2) := by decide +kernel
theorem dX12_init_228 : decode cX12_init 228 = .ok (.newarray .int, 2) := by decide +kernel
theorem dX12_init_230 : decode cX12_init 230 = .ok (.putfield 91, 3) := by decide +kernel
theorem dX12_init_233 : decode cX12_init 233 = .ok (.aload_n 0, 1) := by decide +kernel
theorem dX12_init_234 : decode cX12_init 234 = .ok (.bipush 20, 2) := by decide +kernel
theorem dX12_init_236 : decode cX12_init 236 = .ok (.newarray .int, 2) := by decide +kernel
theorem dX12_init_238 : decode cX12_init 238 = .ok (.putfield 94, 3) := by decide +kernel
theorem dX12_init_241 : decode cX12_init 241 = .ok (.aload_n 0, 1) := by decide +kernel
theorem dX12_init_242 : decode cX12_init 242 = .ok (.bipush 20, 2) := by decide +kernel
theorem dX12_init_244 : decode cX12_init 244 = .ok (.newarray .int, 2) := by decide +kernel
theorem dX12_init_246 : decode cX12_init 246 = .ok (.putfield 97, 3) := by decide +kernel
theorem dX12_init_249 : decode cX12_init 249 = .ok (.aload_n 0, 1) := by decide +kernel
theorem dX12_init_250 : decode cX12_init 250 = .ok (.sipush 300, 3) := by decide +kernel
theorem dX12_init_253 : decode cX12_init 253 = .ok (.newarray .int, 2) := by decide +kernel
theorem dX12_init_255 : decode cX12_init 255 = .ok (.putfield 100, 3) := by decide +kernel
theorem dX12_init_258 : decode cX12_init 258 = .ok (.aload_n 0, 1) := by decide +kernel
theorem dX12_init_259 : decode cX12_init 259 = .ok (.sipush 300, 3) := by decide +kernel
theorem dX12_init_262 : decode cX12_init 262 = .ok (.newarray .int, 2) := by decide +kernel
theorem dX12_init_264 : decode cX12_init 264 = .ok (.putfield 103, 3) := by decide +kernel
theorem dX12_init_267 : decode cX12_init 267 = .ok (.aload_n 0, 1) := by decide +kernel
theorem dX12_init_268 : decode cX12_init 268 = .ok (.sipush 300, 3) := by decide +kernel
theorem dX12_init_271 : decode cX12_init 271 = .ok (.newarray .int, 2) := by decide +kernel
theorem dX12_init_273 : decode cX12_init 273 = .ok (.putfield 106, 3) := by decide +kernel
theorem dX12_init_276 : decode cX12_init 276 = .ok (.aload_n 0, 1) := by decide +kernel
theorem dX12_init_277 : decode cX12_init 277 = .ok (.sipush 300, 3) := by decide +kernel
theorem dX12_init_280 : decode cX12_init 280 = .ok (.newarray .int, 2) := by decide +kernel
theorem dX12_init_282 : decode cX12_init 282 = .ok (.putfield 109, 3) := by decide +kernel
theorem dX12_init_285 : decode cX12_init 285 = .ok (.aload_n 0, 1) := by decide +kernel
theorem dX12_init_286 : decode cX12_init 286 = .ok (.sipush 300, 3) := by decide +kernel
theorem dX12_init_289 : decode cX12_init 289 = .ok (.newarray .int, 2) := by decide +kernel
theorem dX12_init_291 : decode cX12_init 291 = .ok (.putfield 112, 3) := by decide +kernel
theorem dX12_init_294 : decode cX12_init 294 = .ok (.aload_n 0, 1) := by decide +kernel
theorem dX12_init_295 : decode cX12_init 295 = .ok (.sipush 300, 3) := by decide +kernel
theorem dX12_init_298 : decode cX12_init 298 = .ok (.newarray .int, 2) := by decide +kernel
theorem dX12_init_300 : decode cX12_init 300 = .ok (.putfield 115, 3) := by decide +kernel
theorem dX12_init_303 : decode cX12_init 303 = .ok (.aload_n 0, 1) := by decide +kernel
theorem dX12_init_304 : decode cX12_init 304 = .ok (.sipush 300, 3) := by decide +kernel
theorem dX12_init_307 : decode cX12_init 307 = .ok (.newarray .int, 2) := by decide +kernel
theorem dX12_init_309 : decode cX12_init 309 = .ok (.putfield 118, 3) := by decide +kernel
theorem dX12_init_312 : decode cX12_init 312 = .ok (.aload_n 0, 1) := by decide +kernel
theorem dX12_init_313 : decode cX12_init 313 = .ok (.sipush 300, 3) := by decide +kernel
theorem dX12_init_316 : decode cX12_init 316 = .ok (.newarray .int, 2) := by decide +kernel
theorem dX12_init_318 : decode cX12_init 318 = .ok (.putfield 121, 3) := by decide +kernel
theorem dX12_init_321 : decode cX12_init 321 = .ok (.aload_n 0, 1) := by decide +kernel
theorem dX12_init_322 : decode cX12_init 322 = .ok (.sipush 300, 3) := by decide +kernel
theorem dX12_init_325 : decode cX12_init 325 = .ok (.newarray .int, 2) := by decide +kernel
theorem dX12_init_327 : decode cX12_init 327 = .ok (.putfield 124, 3) := by decide +kernel
theorem dX12_init_330 : decode cX12_init 330 = .ok (.aload_n 0, 1) := by decide +kernel
theorem dX12_init_331 : decode cX12_init 331 = .ok (.sipush 300, 3) := by decide +kernel
theorem dX12_init_334 : decode cX12_init 334 = .ok (.newarray .int, 2) := by decide +kernel
theorem dX12_init_336 : decode cX12_init 336 = .ok (.putfield 127, 3) := by decide +kernel
theorem dX12_init_339 : decode cX12_init 339 = .ok (.aload_n 0, 1) := by decide +kernel
theorem dX12_init_340 : decode cX12_init 340 = .ok (.sipush 300, 3) := by decide +kernel
theorem dX12_init_343 : decode cX12_init 343 = .ok (.newarray .int, 2) := by decide +kernel
theorem dX12_init_345 : decode cX12_init 345 = .ok (.putfield 130, 3) := by decide +kernel
theorem dX12_init_348 : decode cX12_init 348 = .ok (.aload_n 0, 1) := by decide +kernel
theorem dX12_init_349 : decode cX12_init 349 = .ok (.sipush 900, 3) := by decide +kernel
theorem dX12_init_352 : decode cX12_init 352 = .ok (.newarray .int, 2) := by decide +kernel
theorem dX12_init_354 : decode cX12_init 354 = .ok (.putfield 133, 3) := by decide +kernel
theorem dX12_init_357 : decode cX12_init 357 = .ok (.aload_n 0, 1) := by decide +kernel
theorem dX12_init_358 : decode cX12_init 358 = .ok (.sipush 900, 3) := by decide +kernel
theorem dX12_init_361 : decode cX12_init 361 = .ok (.newarray .int, 2) := by decide +kernel
theorem dX12_init_363 : decode cX12_init 363 = .ok (.putfield 136, 3) := by decide +kernel
theorem dX12_init_366 : decode cX12_init 366 = .ok (.aload_n 0, 1) := by decide +kernel
theorem dX12_init_367 : decode cX12_init 367 = .ok (.sipush 900, 3) := by decide +kernel
theorem dX12_init_370 : decode cX12_init 370 = .ok (.newarray .int, 2) := by decide +kernel
theorem dX12_init_372 : decode cX12_init 372 = .ok (.putfield 139, 3) := by decide +kernel
theorem dX12_init_375 : decode cX12_init 375 = .ok (.aload_n 0, 1) := by decide +kernel
theorem dX12_init_376 : decode cX12_init 376 = .ok (.sipush 900, 3) := by decide +kernel
theorem dX12_init_379 : decode cX12_init 379 = .ok (.newarray .int, 2) := by decide +kernel
theorem dX12_init_381 : decode cX12_init 381 = .ok (.putfield 142, 3) := by decide +kernel
theorem dX12_init_384 : decode cX12_init 384 = .ok (.aload_n 0, 1) := by decide +kernel
theorem dX12_init_385 : decode cX12_init 385 = .ok (.iconst (-1), 1) := by decide +kernel
theorem dX12_init_386 : decode cX12_init 386 = .ok (.putfield 145, 3) := by decide +kernel
theorem dX12_init_389 : decode cX12_init 389 = .ok (.aload_n 0, 1) := by decide +kernel
theorem dX12_init_390 : decode cX12_init 390 = .ok (.iconst (-1), 1) := by decide +kernel
theorem dX12_init_391 : decode cX12_init 391 = .ok (.putfield 149, 3) := by decide +kernel
theorem dX12_init_394 : decode cX12_init 394 = .ok (.aload_n 0, 1) := by decide +kernel
theorem dX12_init_395 : decode cX12_init 395 = .ok (.bipush 100, 2) := by decide +kernel
theorem dX12_init_397 : decode cX12_init 397 = .ok (.newarray .int, 2) := by decide +kernel
theorem dX12_init_399 : decode cX12_init 399 = .ok (.putfield 152, 3) := by decide +kernel
theorem dX12_init_402 : decode cX12_init 402 = .ok (.aload_n 0, 1) := by decide +kernel
theorem dX12_init_403 : decode cX12_init 403 = .ok (.bipush 100, 2) := by decide +kernel
theorem dX12_init_405 : decode cX12_init 405 = .ok (.newarray .int, 2) := by decide +kernel
theorem dX12_init_407 : decode cX12_init 407 = .ok (.putfield 155, 3) := by decide +kernel
theorem dX12_init_410 : decode cX12_init 410 = .ok (.aload_n 0, 1) := by decide +kernel
theorem dX12_init_411 : decode cX12_init 411 = .ok (.bipush 100, 2) := by decide +kernel
theorem dX12_init_413 : decode cX12_init 413 = .ok (.newarray .int, 2) := by decide +kernel
theorem dX12_init_415 : decode cX12_init 415 = .ok (.putfield 158, 3) := by decide +kernel
theorem dX12_init_418 : decode cX12_init 418 = .ok (.aload_n 0, 1) := by decide +kernel
theorem dX12_init_419 : decode cX12_init 419 = .ok (.bipush 100, 2) := by decide +kernel
theorem dX12_init_421 : decode cX12_init 421 = .ok (.newarray .int, 2) := by decide +kernel
theorem dX12_init_423 : decode cX12_init 423 = .ok (.putfield 161, 3) := by decide +kernel
theorem dX12_init_426 : decode cX12_init 426 = .ok (.aload_n 0, 1) := by decide +kernel
theorem dX12_init_427 : decode cX12_init 427 = .ok (.bipush 100, 2) := by decide +kernel
theorem dX12_init_429 : decode cX12_init 429 = .ok (.newarray .int, 2) := by decide +kernel
theorem dX12_init_431 : decode cX12_init 431 = .ok (.putfield 164, 3) := by decide +kernel
theorem dX12_init_434 : decode cX12_init 434 = .ok (.aload_n 0, 1) := by decide +kernel
theorem dX12_init_435 : decode cX12_init 435 = .ok (.iconst 1, 1) := by decide +kernel
theorem dX12_init_436 : decode cX12_init 436 = .ok (.putfield 167, 3) := by decide +kernel
theorem dX12_init_439 : decode cX12_init 439 = .ok (.aload_n 0, 1) := by decide +kernel
theorem dX12_init_440 : decode cX12_init 440 = .ok (.bipush 90, 2) := by decide +kernel
theorem dX12_init_442 : decode cX12_init 442 = .ok (.putfield 170, 3) := by decide +kernel
theorem dX12_init_445 : decode cX12_init 445 = .ok (.aload_n 0, 1) := by decide +kernel
theorem dX12_init_446 : decode cX12_init 446 = .ok (.bipush 8, 2) := by decide +kernel
theorem dX12_init_448 : decode cX12_init 448 = .ok (.newarray .int, 2) := by decide +kernel
theorem dX12_init_450 : decode cX12_init 450 = .ok (.putfield 173, 3) := by decide +kernel
theorem dX12_init_453 : decode cX12_init 453 = .ok (.aload_n 0, 1) := by decide +kernel
theorem dX12_init_454 : decode cX12_init 454 = .ok (.bipush 20, 2) := by decide +kernel
theorem dX12_init_456 : decode cX12_init 456 = .ok (.newarray .int, 2) := by decide +kernel
theorem dX12_init_458 : decode cX12_init 458 = .ok (.putfield 176, 3) := by decide +kernel
theorem dX12_init_461 : decode cX12_init 461 = .ok (.aload_n 0, 1) := by decide +kernel
theorem dX12_init_462 : decode cX12_init 462 = .ok (.bipush 20, 2) := by decide +kernel
theorem dX12_init_464 : decode cX12_init 464 = .ok (.newarray .int, 2) := by decide +kernel
theorem dX12_init_466 : decode cX12_init 466 = .ok (.putfield 179, 3) := by decide +kernel
theorem dX12_init_469 : decode cX12_init 469 = .ok (.aload_n 0, 1) := by decide +kernel
theorem dX12_init_470 : decode cX12_init 470 = .ok (.bipush 20, 2) := by decide +kernel
theorem dX12_init_472 : decode cX12_init 472 = .ok (.newarray .int, 2) := by decide +kernel
theorem dX12_init_474 : decode cX12_init 474 = .ok (.putfield 182, 3) := by decide +kernel
theorem dX12_init_477 : decode cX12_init 477 = .ok (.aload_n 0, 1) := by decide +kernel
theorem dX12_init_478 : decode cX12_init 478 = .ok (.bipush 20, 2) := by decide +kernel
theorem dX12_init_480 : decode cX12_init 480 = .ok (.newarray .int, 2) := by decide +kernel
theorem dX12_init_482 : decode cX12_init 482 = .ok (.putfield 185, 3) := by decide +kernel
theorem dX12_init_485 : decode cX12_init 485 = .ok (.aload_n 0, 1) := by decide +kernel
theorem dX12_init_486 : decode cX12_init 486 = .ok (.sipush 200, 3) := by decide +kernel
theorem dX12_init_489 : decode cX12_init 489 = .ok (.newarray .int, 2) := by decide +kernel
theorem dX12_init_491 : decode cX12_init 491 = .ok (.putfield 188, 3) := by decide +kernel
theorem dX12_init_494 : decode cX12_init 494 = .ok (.aload_n 0, 1) := by decide +kernel
theorem dX12_init_495 : decode cX12_init 495 = .ok (.sipush 200, 3) := by decide +kernel
theorem dX12_init_498 : decode cX12_init 498 = .ok (.newarray .int, 2) := by decide +kernel
theorem dX12_init_500 : decode cX12_init 500 = .ok (.putfield 191, 3) := by decide +kernel
theorem dX12_init_503 : decode cX12_init 503 = .ok (.aload_n 0, 1) := by decide +kernel
theorem dX12_init_504 : decode cX12_init 504 = .ok (.sipush 200, 3) := by decide +kernel
theorem dX12_init_507 : decode cX12_init 507 = .ok (.newarray .int, 2) := by decide +kernel
theorem dX12_init_509 : decode cX12_init 509 = .ok (.putfield 194, 3) := by decide +kernel
theorem dX12_init_512 : decode cX12_init 512 = .ok (.aload_n 0, 1) := by decide +kernel
theorem dX12_init_513 : decode cX12_init 513 = .ok (.sipush 200, 3) := by decide +kernel
theorem dX12_init_516 : decode cX12_init 516 = .ok (.newarray .int, 2) := by decide +kernel
theorem dX12_init_518 : decode cX12_init 518 = .ok (.putfield 197, 3) := by decide +kernel
theorem dX12_init_521 : decode cX12_init 521 = .ok (.aload_n 0, 1) := by decide +kernel
theorem dX12_init_522 : decode cX12_init 522 = .ok (.sipush 200, 3) := by decide +kernel
theorem dX12_init_525 : decode cX12_init 525 = .ok (.newarray .int, 2) := by decide +kernel
theorem dX12_init_527 : decode cX12_init 527 = .ok (.putfield 200, 3) := by decide +kernel
theorem dX12_init_530 : decode cX12_init 530 = .ok (.aload_n 0, 1) := by decide +kernel
theorem dX12_init_531 : decode cX12_init 531 = .ok (.sipush 800, 3) := by decide +kernel
theorem dX12_init_534 : decode cX12_init 534 = .ok (.newarray .boolean, 2) := by decide +kernel
theorem dX12_init_536 : decode cX12_init 536 = .ok (.putfield 203, 3) := by decide +kernel
theorem dX12_init_539 : decode cX12_init 539 = .ok (.aload_n 0, 1) := by decide +kernel
theorem dX12_init_540 : decode cX12_init 540 = .ok (.iconst 5, 1) := by decide +kernel
theorem dX12_init_541 : decode cX12_init 541 = .ok (.newarray .int, 2) := by decide +kernel
theorem dX12_init_543 : decode cX12_init 543 = .ok (.putfield 206, 3) := by decide +kernel
theorem dX12_init_546 : decode cX12_init 546 = .ok (.aload_n 0, 1) := by decide +kernel
theorem dX12_init_547 : decode cX12_init 547 = .ok (.iconst 5, 1) := by decide +kernel
theorem dX12_init_548 : decode cX12_init 548 = .ok (.newarray .int, 2) := by decide +kernel
theorem dX12_init_550 : decode cX12_init 550 = .ok (.putfield 209, 3) := by decide +kernel
theorem dX12_init_553 : decode cX12_init 553 = .ok (.aload_n 0, 1) := by decide +kernel
theorem dX12_init_554 : decode cX12_init 554 = .ok (.iconst 4, 1) := by decide +kernel
theorem dX12_init_555 : decode cX12_init 555 = .ok (.newarray .int, 2) := by decide +kernel
theorem dX12_init_557 : decode cX12_init 557 = .ok (.putfield 212, 3) := by decide +kernel
theorem dX12_init_560 : decode cX12_init 560 = .ok (.aload_n 0, 1) := by decide +kernel
theorem dX12_init_561 : decode cX12_init 561 = .ok (.iconst 5, 1) := by decide +kernel
theorem dX12_init_562 : decode cX12_init 562 = .ok (.newarray .int, 2) := by decide +kernel
theorem dX12_init_564 : decode cX12_init 564 = .ok (.putfield 215, 3) := by decide +kernel
theorem dX12_init_567 : decode cX12_init 567 = .ok (.aload_n 0, 1) := by decide +kernel
theorem dX12_init_568 : decode cX12_init 568 = .ok (.iconst 5, 1) := by decide +kernel
theorem dX12_init_569 : decode cX12_init 569 = .ok (.newarray .int, 2) := by decide +kernel
theorem dX12_init_571 : decode cX12_init 571 = .ok (.putfield 218, 3) := by decide +kernel
theorem dX12_init_574 : decode cX12_init 574 = .ok (.aload_n 0, 1) := by decide +kernel
theorem dX12_init_575 : decode cX12_init 575 = .ok (.bipush 20, 2) := by decide +kernel
theorem dX12_init_577 : decode cX12_init 577 = .ok (.newarray .boolean, 2) := by decide +kernel
theorem dX12_init_579 : decode cX12_init 579 = .ok (.putfield 221, 3) := by decide +kernel
theorem dX12_init_582 : decode cX12_init 582 = .ok (.aload_n 0, 1) := by decide +kernel
theorem dX12_init_583 : decode cX12_init 583 = .ok (.sipush 300, 3) := by decide +kernel
theorem dX12_init_586 : decode cX12_init 586 = .ok (.newarray .boolean, 2) := by decide +kernel
theorem dX12_init_588 : decode cX12_init 588 = .ok (.putfield 224, 3) := by decide +kernel
theorem dX12_init_591 : decode cX12_init 591 = .ok (.aload_n 0, 1) := by decide +kernel
theorem dX12_init_592 : decode cX12_init 592 = .ok (.bipush 25, 2) := by decide +kernel
theorem dX12_init_594 : decode cX12_init 594 = .ok (.newarray .long, 2) := by decide +kernel
theorem dX12_init_596 : decode cX12_init 596 = .ok (.putfield 227, 3) := by decide +kernel
theorem dX12_init_599 : decode cX12_init 599 = .ok (.aload_n 0, 1) := by decide +kernel
theorem dX12_init_600 : decode cX12_init 600 = .ok (.bipush 25, 2) := by decide +kernel
theorem dX12_init_602 : decode cX12_init 602 = .ok (.newarray .long, 2) := by decide +kernel
theorem dX12_init_604 : decode cX12_init 604 = .ok (.putfield 230, 3) := by decide +kernel
theorem dX12_init_607 : decode cX12_init 607 = .ok (.aload_n 0, 1) := by decide +kernel
theorem dX12_init_608 : decode cX12_init 608 = .ok (.iconst 5, 1) := by decide +kernel
theorem dX12_init_609 : decode cX12_init 609 = .ok (.newarray .long, 2) := by decide +kernel
theorem dX12_init_611 : decode cX12_init 611 = .ok (.putfield 233, 3) := by decide +kernel
theorem dX12_init_614 : decode cX12_init 614 = .ok (.aload_n 0, 1) := by decide +kernel
theorem dX12_init_615 : decode cX12_init 615 = .ok (.bipush 8, 2) := by decide +kernel
theorem dX12_init_617 : decode cX12_init 617 = .ok (.newarray .int, 2) := by decide +kernel
theorem dX12_init_619 : decode cX12_init 619 = .ok (.putfield 236, 3) := by decide +kernel
theorem dX12_init_622 : decode cX12_init 622 = .ok (.aload_n 0, 1) := by decide +kernel
theorem dX12_init_623 : decode cX12_init 623 = .ok (.bipush 8, 2) := by decide +kernel
theorem dX12_init_625 : decode cX12_init 625 = .ok (.newarray .int, 2) := by decide +kernel
theorem dX12_init_627 : decode cX12_init 627 = .ok (.putfield 239, 3) := by decide +kernel
theorem dX12_init_630 : decode cX12_init 630 = .ok (.aload_n 0, 1) := by decide +kernel
theorem dX12_init_631 : decode cX12_init 631 = .ok (.bipush 8, 2) := by decide +kernel
theorem dX12_init_633 : decode cX12_init 633 = .ok (.newarray .int, 2) := by decide +kernel
theorem dX12_init_635 : decode cX12_init 635 = .ok (.putfield 242, 3) := by decide +kernel
theorem dX12_init_638 : decode cX12_init 638 = .ok (.aload_n 0, 1) := by decide +kernel
theorem dX12_init_639 : decode cX12_init 639 = .ok (.sipush 256, 3) := by decide +kernel
theorem dX12_init_642 : decode cX12_init 642 = .ok (.newarray .int, 2) := by decide +kernel
theorem dX12_init_644 : decode cX12_init 644 = .ok (.putfield 245, 3) := by decide +kernel
theorem dX12_init_647 : decode cX12_init 647 = .ok (.aload_n 0, 1) := by decide +kernel
theorem dX12_init_648 : decode cX12_init 648 = .ok (.iconst 2, 1) := by decide +kernel
theorem dX12_init_649 : decode cX12_init 649 = .ok (.newarray .int, 2) := by decide +kernel
theorem dX12_init_651 : decode cX12_init 651 = .ok (.putfield 248, 3) := by decide +kernel
theorem dX12_init_654 : decode cX12_init 654 = .ok (.aload_n 0, 1) := by decide +kernel
theorem dX12_init_655 : decode cX12_init 655 = .ok (.bipush 20, 2) := by decide +kernel
theorem dX12_init_657 : decode cX12_init 657 = .ok (.newarray .int, 2) := by decide +kernel
theorem dX12_init_659 : decode cX12_init 659 = .ok (.putfield 251, 3) := by decide +kernel
theorem dX12_init_662 : decode cX12_init 662 = .ok (.aload_n 0, 1) := by decide +kernel
theorem dX12_init_663 : decode cX12_init 663 = .ok (.bipush 20, 2) := by decide +kernel
theorem dX12_init_665 : decode cX12_init 665 = .ok (.newarray .int, 2) := by decide +kernel
theorem dX12_init_667 : decode cX12_init 667 = .ok (.putfield 254, 3) := by decide +kernel
theorem dX12_init_670 : decode cX12_init 670 = .ok (.aload_n 0, 1) := by decide +kernel
theorem dX12_init_671 : decode cX12_init 671 = .ok (.bipush 20, 2) := by decide +kernel
theorem dX12_init_673 : decode cX12_init 673 = .ok (.newarray .int, 2) := by decide +kernel
theorem dX12_init_675 : decode cX12_init 675 = .ok (.putfield 257, 3) := by decide +kernel
theorem dX12_init_678 : decode cX12_init 678 = .ok (.aload_n 0, 1) := by decide +kernel
theorem dX12_init_679 : decode cX12_init 679 = .ok (.bipush 10, 2) := by decide +kernel
theorem dX12_init_681 : decode cX12_init 681 = .ok (.newarray .int, 2) := by decide +kernel
theorem dX12_init_683 : decode cX12_init 683 = .ok (.putfield 260, 3) := by decide +kernel
theorem dX12_init_686 : decode cX12_init 686 = .ok (.aload_n 0, 1) := by decide +kernel
theorem dX12_init_687 : decode cX12_init 687 = .ok (.sipush 11264, 3) := by decide +kernel
theorem dX12_init_690 : decode cX12_init 690 = .ok (.newarray .long, 2) := by decide +kernel
theorem dX12_init_692 : decode cX12_init 692 = .ok (.putfield 263, 3) := by decide +kernel
theorem dX12_init_695 : decode cX12_init 695 = .ok (.return_, 1) := by decide +kernel
theorem dX12_in_0 : decode cX12_in 0 = .ok (.iload_n 0, 1) := by decide +kernel
theorem dX12_in_1 : decode cX12_in 1 = .ok (.iload_n 1, 1) := by decide +kernel
theorem dX12_in_2 : decode cX12_in 2 = .ok (.if_icmp .lt 12, 3) := by decide +kernel
theorem dX12_in_5 : decode cX12_in 5 = .ok (.iload_n 0, 1) := by decide +kernel
theorem dX12_in_6 : decode cX12_in 6 = .ok (.iload_n 2, 1) := by decide +kernel
theorem dX12_in_7 : decode cX12_in 7 = .ok (.if_icmp .gt 7, 3) := by decide +kernel
theorem dX12_in_10 : decode cX12_in 10 = .ok (.iconst 1, 1) := by decide +kernel
theorem dX12_in_11 : decode cX12_in 11 = .ok (.goto 4, 3) := by decide +kernel
theorem dX12_in_14 : decode cX12_in 14 = .ok (.iconst 0, 1) := by decide +kernel
theorem dX12_in_15 : decode cX12_in 15 = .ok (.ireturn, 1) := by decide +kernel
theorem dX12_isDay_0 : decode cX12_isDay 0 = .ok (.iload_n 0, 1) := by decide +kernel
theorem dX12_isDay_1 : decode cX12_isDay 1 = .ok (.iconst 0, 1) := by decide +kernel
theorem dX12_isDay_2 : decode cX12_isDay 2 = .ok (.sipush 3999, 3) := by decide +kernel
theorem dX12_isDay_5 : decode cX12_isDay 5 = .ok (.invokestatic 269, 3) := by decide +kernel
theorem dX12_isDay_8 : decode cX12_isDay 8 = .ok (.ireturn, 1) := by decide +kernel
theorem dX12_clock_0 : decode cX12_clock 0 = .ok (.iload_n 1, 1) := by decide +kernel
theorem dX12_clock_1 : decode cX12_clock 1 = .ok (.aload_n 0, 1) := by decide +kernel
theorem dX12_clock_2 : decode cX12_clock 2 = .ok (.getfield 273, 3) := by decide +kernel
theorem dX12_clock_5 : decode cX12_clock 5 = .ok (.sipush 3999, 3) := by decide +kernel
theorem dX12_clock_8 : decode cX12_clock 8 = .ok (.invokestatic 269, 3) := by decide +kernel
theorem dX12_clock_11 : decode cX12_clock 11 = .ok (.ifCond .ne 5, 3) := by decide +kernel
theorem dX12_clock_14 : decode cX12_clock 14 = .ok (.iconst 0, 1) := by decide +kernel
theorem dX12_clock_15 : decode cX12_clock 15 = .ok (.ireturn, 1) := by decide +kernel
theorem dX12_clock_16 : decode cX12_clock 16 = .ok (.aload_n 0, 1) := by decide +kernel
theorem dX12_clock_17 : decode cX12_clock 17 = .ok (.iload_n 1, 1) := by decide +kernel
theorem dX12_clock_18 : decode cX12_clock 18 = .ok (.putfield 273, 3) := by decide +kernel
theorem dX12_clock_21 : decode cX12_clock 21 = .ok (.iconst 1, 1) := by decide +kernel
theorem dX12_clock_22 : decode cX12_clock 22 = .ok (.ireturn, 1) := by decide +kernel
theorem dX12_man_0 : decode cX12_man 0 = .ok (.aload_n 0, 1) := by decide +kernel
theorem dX12_man_1 : decode cX12_man 1 = .ok (.getfield 276, 3) := by decide +kernel
theorem dX12_man_4 : decode cX12_man 4 = .ok (.bipush 40, 2) := by decide +kernel
theorem dX12_man_6 : decode cX12_man 6 = .ok (.if_icmp .eq 24, 3) := by decide +kernel
theorem dX12_man_9 : decode cX12_man 9 = .ok (.iload_n 1, 1) := by decide +kernel
theorem dX12_man_10 : decode cX12_man 10 = .ok (.iconst 0, 1) := by decide +kernel
theorem dX12_man_11 : decode cX12_man 11 = .ok (.bipush 8, 2) := by decide +kernel
theorem dX12_man_13 : decode cX12_man 13 = .ok (.invokestatic 269, 3) := by decide +kernel
theorem dX12_man_16 : decode cX12_man 16 = .ok (.ifCond .eq 14, 3) := by decide +kernel
theorem dX12_man_19 : decode cX12_man 19 = .ok (.iload_n 3, 1) := by decide +kernel
theorem dX12_man_20 : decode cX12_man 20 = .ok (.iconst 0, 1) := by decide +kernel
theorem dX12_man_21 : decode cX12_man 21 = .ok (.ldc_w 279, 3) := by decide +kernel
theorem dX12_man_24 : decode cX12_man 24 = .ok (.invokestatic 269, 3) := by decide +kernel
theorem dX12_man_27 : decode cX12_man 27 = .ok (.ifCond .ne 5, 3) := by decide +kernel
theorem dX12_man_30 : decode cX12_man 30 = .ok (.iconst (-1), 1) := by decide +kernel
theorem dX12_man_31 : decode cX12_man 31 = .ok (.ireturn, 1) := by decide +kernel
theorem dX12_man_32 : decode cX12_man 32 = .ok (.aload_n 0, 1) := by decide +kernel
theorem dX12_man_33 : decode cX12_man 33 = .ok (.getfield 9, 3) := by decide +kernel
theorem dX12_man_36 : decode cX12_man 36 = .ok (.aload_n 0, 1) := by decide +kernel
theorem dX12_man_37 : decode cX12_man 37 = .ok (.getfield 276, 3) := by decide +kernel
theorem dX12_man_40 : decode cX12_man 40 = .ok (.iload_n 1, 1) := by decide +kernel
theorem dX12_man_41 : decode cX12_man 41 = .ok (.iastore, 1) := by decide +kernel
theorem dX12_man_42 : decode cX12_man 42 = .ok (.aload_n 0, 1) := by decide +kernel
theorem dX12_man_43 : decode cX12_man 43 = .ok (.getfield 28, 3) := by decide +kernel
theorem dX12_man_46 : decode cX12_man 46 = .ok (.aload_n 0, 1) := by decide +kernel
theorem dX12_man_47 : decode cX12_man 47 = .ok (.getfield 276, 3) := by decide +kernel
theorem dX12_man_50 : decode cX12_man 50 = .ok (.iload_n 2, 1) := by decide +kernel
theorem dX12_man_51 : decode cX12_man 51 = .ok (.bastore, 1) := by decide +kernel
theorem dX12_man_52 : decode cX12_man 52 = .ok (.aload_n 0, 1) := by decide +kernel
theorem dX12_man_53 : decode cX12_man 53 = .ok (.getfield 13, 3) := by decide +kernel
theorem dX12_man_56 : decode cX12_man 56 = .ok (.aload_n 0, 1) := by decide +kernel
theorem dX12_man_57 : decode cX12_man 57 = .ok (.getfield 276, 3) := by decide +kernel
theorem dX12_man_60 : decode cX12_man 60 = .ok (.iload_n 3, 1) := by decide +kernel
theorem dX12_man_61 : decode cX12_man 61 = .ok (.iastore, 1) := by decide +kernel
theorem dX12_man_62 : decode cX12_man 62 = .ok (.aload_n 0, 1) := by decide +kernel
theorem dX12_man_63 : decode cX12_man 63 = .ok (.getfield 16, 3) := by decide +kernel
theorem dX12_man_66 : decode cX12_man 66 = .ok (.aload_n 0, 1) := by decide +kernel
theorem dX12_man_67 : decode cX12_man 67 = .ok (.getfield 276, 3) := by decide +kernel
theorem dX12_man_70 : decode cX12_man 70 = .ok (.aload_n 0, 1) := by decide +kernel
theorem dX12_man_71 : decode cX12_man 71 = .ok (.getfield 273, 3) := by decide +kernel
theorem dX12_man_74 : decode cX12_man 74 = .ok (.iastore, 1) := by decide +kernel
theorem dX12_man_75 : decode cX12_man 75 = .ok (.aload_n 0, 1) := by decide +kernel
theorem dX12_man_76 : decode cX12_man 76 = .ok (.getfield 19, 3) := by decide +kernel
theorem dX12_man_79 : decode cX12_man 79 = .ok (.aload_n 0, 1) := by decide +kernel
theorem dX12_man_80 : decode cX12_man 80 = .ok (.getfield 276, 3) := by decide +kernel
theorem dX12_man_83 : decode cX12_man 83 = .ok (.ldc_w 280, 3) := by decide +kernel
theorem dX12_man_86 : decode cX12_man 86 = .ok (.iastore, 1) := by decide +kernel
theorem dX12_man_87 : decode cX12_man 87 = .ok (.aload_n 0, 1) := by decide +kernel
theorem dX12_man_88 : decode cX12_man 88 = .ok (.dup, 1) := by decide +kernel
theorem dX12_man_89 : decode cX12_man 89 = .ok (.getfield 276, 3) := by decide +kernel
theorem dX12_man_92 : decode cX12_man 92 = .ok (.iconst 1, 1) := by decide +kernel
theorem dX12_man_93 : decode cX12_man 93 = .ok (.iadd, 1) := by decide +kernel
theorem dX12_man_94 : decode cX12_man 94 = .ok (.putfield 276, 3) := by decide +kernel
theorem dX12_man_97 : decode cX12_man 97 = .ok (.aload_n 0, 1) := by decide +kernel
theorem dX12_man_98 : decode cX12_man 98 = .ok (.getfield 276, 3) := by decide +kernel
theorem dX12_man_101 : decode cX12_man 101 = .ok (.iconst 1, 1) := by decide +kernel
theorem dX12_man_102 : decode cX12_man 102 = .ok (.isub, 1) := by decide +kernel
theorem dX12_man_103 : decode cX12_man 103 = .ok (.ireturn, 1) := by decide +kernel
theorem dX12_isMan_0 : decode cX12_isMan 0 = .ok (.iload_n 1, 1) := by decide +kernel
theorem dX12_isMan_1 : decode cX12_isMan 1 = .ok (.iconst 0, 1) := by decide +kernel
theorem dX12_isMan_2 : decode cX12_isMan 2 = .ok (.aload_n 0, 1) := by decide +kernel
theorem dX12_isMan_3 : decode cX12_isMan 3 = .ok (.getfield 276, 3) := by decide +kernel
theorem dX12_isMan_6 : decode cX12_isMan 6 = .ok (.iconst 1, 1) := by decide +kernel
theorem dX12_isMan_7 : decode cX12_isMan 7 = .ok (.isub, 1) := by decide +kernel
theorem dX12_isMan_8 : decode cX12_isMan 8 = .ok (.invokestatic 269, 3) := by decide +kernel
theorem dX12_isMan_11 : decode cX12_isMan 11 = .ok (.ireturn, 1) := by decide +kernel
theorem dX12_isThere_0 : decode cX12_isThere 0 = .ok (.aload_n 0, 1) := by decide +kernel
theorem dX12_isThere_1 : decode cX12_isThere 1 = .ok (.iload_n 1, 1) := by decide +kernel
theorem dX12_isThere_2 : decode cX12_isThere 2 = .ok (.invokevirtual 281, 3) := by decide +kernel
theorem dX12_isThere_5 : decode cX12_isThere 5 = .ok (.ifCond .eq 19, 3) := by decide +kernel
theorem dX12_isThere_8 : decode cX12_isThere 8 = .ok (.aload_n 0, 1) := by decide +kernel
theorem dX12_isThere_9 : decode cX12_isThere 9 = .ok (.getfield 19, 3) := by decide +kernel
theorem dX12_isThere_12 : decode cX12_isThere 12 = .ok (.iload_n 1, 1) := by decide +kernel
theorem dX12_isThere_13 : decode cX12_isThere 13 = .ok (.iaload, 1) := by decide +kernel
theorem dX12_isThere_14 : decode cX12_isThere 14 = .ok (.ldc_w 280, 3) := by decide +kernel
theorem dX12_isThere_17 : decode cX12_isThere 17 = .ok (.if_icmp .ne 7, 3) := by decide +kernel
theorem dX12_isThere_20 : decode cX12_isThere 20 = .ok (.iconst 1, 1) := by decide +kernel
theorem dX12_isThere_21 : decode cX12_isThere 21 = .ok (.goto 4, 3) := by decide +kernel
theorem dX12_isThere_24 : decode cX12_isThere 24 = .ok (.iconst 0, 1) := by decide +kernel
theorem dX12_isThere_25 : decode cX12_isThere 25 = .ok (.ireturn, 1) := by decide +kernel
theorem dX12_leave_0 : decode cX12_leave 0 = .ok (.aload_n 0, 1) := by decide +kernel
theorem dX12_leave_1 : decode cX12_leave 1 = .ok (.iload_n 1, 1) := by decide +kernel
theorem dX12_leave_2 : decode cX12_leave 2 = .ok (.invokevirtual 285, 3) := by decide +kernel
theorem dX12_leave_5 : decode cX12_leave 5 = .ok (.ifCond .ne 5, 3) := by decide +kernel
theorem dX12_leave_8 : decode cX12_leave 8 = .ok (.iconst 0, 1) := by decide +kernel
theorem dX12_leave_9 : decode cX12_leave 9 = .ok (.ireturn, 1) := by decide +kernel
theorem dX12_leave_10 : decode cX12_leave 10 = .ok (.aload_n 0, 1) := by decide +kernel
theorem dX12_leave_11 : decode cX12_leave 11 = .ok (.getfield 19, 3) := by decide +kernel
theorem dX12_leave_14 : decode cX12_leave 14 = .ok (.iload_n 1, 1) := by decide +kernel
theorem dX12_leave_15 : decode cX12_leave 15 = .ok (.aload_n 0, 1) := by decide +kernel
theorem dX12_leave_16 : decode cX12_leave 16 = .ok (.getfield 273, 3) := by decide +kernel
theorem dX12_leave_19 : decode cX12_leave 19 = .ok (.iastore, 1) := by decide +kernel
theorem dX12_leave_20 : decode cX12_leave 20 = .ok (.iconst 1, 1) := by decide +kernel
theorem dX12_leave_21 : decode cX12_leave 21 = .ok (.ireturn, 1) := by decide +kernel
theorem dX12_comes_0 : decode cX12_comes 0 = .ok (.aload_n 0, 1) := by decide +kernel
theorem dX12_comes_1 : decode cX12_comes 1 = .ok (.getfield 32, 3) := by decide +kernel
theorem dX12_comes_4 : decode cX12_comes 4 = .ok (.aload_n 0, 1) := by decide +kernel
theorem dX12_comes_5 : decode cX12_comes 5 = .ok (.getfield 288, 3) := by decide +kernel
theorem dX12_comes_8 : decode cX12_comes 8 = .ok (.iload_n 2, 1) := by decide +kernel
theorem dX12_comes_9 : decode cX12_comes 9 = .ok (.iastore, 1) := by decide +kernel
theorem dX12_comes_10 : decode cX12_comes 10 = .ok (.aload_n 0, 1) := by decide +kernel
theorem dX12_comes_11 : decode cX12_comes 11 = .ok (.getfield 35, 3) := by decide +kernel
theorem dX12_comes_14 : decode cX12_comes 14 = .ok (.aload_n 0, 1) := by decide +kernel
theorem dX12_comes_15 : decode cX12_comes 15 = .ok (.getfield 288, 3) := by decide +kernel
theorem dX12_comes_18 : decode cX12_comes 18 = .ok (.iload_n 3, 1) := by decide +kernel
theorem dX12_comes_19 : decode cX12_comes 19 = .ok (.iastore, 1) := by decide +kernel
theorem dX12_comes_20 : decode cX12_comes 20 = .ok (.aload_n 0, 1) := by decide +kernel
theorem dX12_comes_21 : decode cX12_comes 21 = .ok (.getfield 38, 3) := by decide +kernel
theorem dX12_comes_24 : decode cX12_comes 24 = .ok (.aload_n 0, 1) := by decide +kernel
theorem dX12_comes_25 : decode cX12_comes 25 = .ok (.getfield 288, 3) := by decide +kernel
theorem dX12_comes_28 : decode cX12_comes 28 = .ok (.iload_n 1, 1) := by decide +kernel
theorem dX12_comes_29 : decode cX12_comes 29 = .ok (.iastore, 1) := by decide +kernel
theorem dX12_comes_30 : decode cX12_comes 30 = .ok (.aload_n 0, 1) := by decide +kernel
theorem dX12_comes_31 : decode cX12_comes 31 = .ok (.getfield 41, 3) := by decide +kernel
theorem dX12_comes_34 : decode cX12_comes 34 = .ok (.aload_n 0, 1) := by decide +kernel
theorem dX12_comes_35 : decode cX12_comes 35 = .ok (.getfield 288, 3) := by decide +kernel
theorem dX12_comes_38 : decode cX12_comes 38 = .ok (.iload 4, 2) := by decide +kernel
theorem dX12_comes_40 : decode cX12_comes 40 = .ok (.iastore, 1) := by decide +kernel
theorem dX12_comes_41 : decode cX12_comes 41 = .ok (.aload_n 0, 1) := by decide +kernel
theorem dX12_comes_42 : decode cX12_comes 42 = .ok (.getfield 44, 3) := by decide +kernel
theorem dX12_comes_45 : decode cX12_comes 45 = .ok (.aload_n 0, 1) := by decide +kernel
theorem dX12_comes_46 : decode cX12_comes 46 = .ok (.getfield 288, 3) := by decide +kernel
theorem dX12_comes_49 : decode cX12_comes 49 = .ok (.iload_n 3, 1) := by decide +kernel
theorem dX12_comes_50 : decode cX12_comes 50 = .ok (.iastore, 1) := by decide +kernel
theorem dX12_comes_51 : decode cX12_comes 51 = .ok (.aload_n 0, 1) := by decide +kernel
theorem dX12_comes_52 : decode cX12_comes 52 = .ok (.dup, 1) := by decide +kernel
theorem dX12_comes_53 : decode cX12_comes 53 = .ok (.getfield 288, 3) := by decide +kernel
theorem dX12_comes_56 : decode cX12_comes 56 = .ok (.iconst 1, 1) := by decide +kernel
theorem dX12_comes_57 : decode cX12_comes 57 = .ok (.iadd, 1) := by decide +kernel
theorem dX12_comes_58 : decode cX12_comes 58 = .ok (.putfield 288, 3) := by decide +kernel
theorem dX12_comes_61 : decode cX12_comes 61 = .ok (.aload_n 0, 1) := by decide +kernel
theorem dX12_comes_62 : decode cX12_comes 62 = .ok (.getfield 288, 3) := by decide +kernel
theorem dX12_comes_65 : decode cX12_comes 65 = .ok (.iconst 1, 1) := by decide +kernel
theorem dX12_comes_66 : decode cX12_comes 66 = .ok (.isub, 1) := by decide +kernel
theorem dX12_comes_67 : decode cX12_comes 67 = .ok (.ireturn, 1) := by decide +kernel
theorem dX12_bring_0 : decode cX12_bring 0 = .ok (.aload_n 0, 1) := by decide +kernel
theorem dX12_bring_1 : decode cX12_bring 1 = .ok (.getfield 288, 3) := by decide +kernel
theorem dX12_bring_4 : decode cX12_bring 4 = .ok (.sipush 200, 3) := by decide +kernel
theorem dX12_bring_7 : decode cX12_bring 7 = .ok (.if_icmp .eq 32, 3) := by decide +kernel
theorem dX12_bring_10 : decode cX12_bring 10 = .ok (.aload_n 0, 1) := by decide +kernel
theorem dX12_bring_11 : decode cX12_bring 11 = .ok (.iload_n 1, 1) := by decide +kernel
theorem dX12_bring_12 : decode cX12_bring 12 = .ok (.invokevirtual 285, 3) := by decide +kernel
theorem dX12_bring_15 : decode cX12_bring 15 = .ok (.ifCond .eq 24, 3) := by decide +kernel
theorem dX12_bring_18 : decode cX12_bring 18 = .ok (.iload_n 2, 1) := by decide +kernel
theorem dX12_bring_19 : decode cX12_bring 19 = .ok (.iconst 0, 1) := by decide +kernel
theorem dX12_bring_20 : decode cX12_bring 20 = .ok (.bipush 7, 2) := by decide +kernel
theorem dX12_bring_22 : decode cX12_bring 22 = .ok (.invokestatic 269, 3) := by decide +kernel
theorem dX12_bring_25 : decode cX12_bring 25 = .ok (.ifCond .eq 14, 3) := by decide +kernel
theorem dX12_bring_28 : decode cX12_bring 28 = .ok (.iload_n 3, 1) := by decide +kernel
theorem dX12_bring_29 : decode cX12_bring 29 = .ok (.iconst 1, 1) := by decide +kernel
theorem dX12_bring_30 : decode cX12_bring 30 = .ok (.ldc_w 280, 3) := by decide +kernel
theorem dX12_bring_33 : decode cX12_bring 33 = .ok (.invokestatic 269, 3) := by decide +kernel
theorem dX12_bring_36 : decode cX12_bring 36 = .ok (.ifCond .ne 7, 3) := by decide +kernel
theorem dX12_bring_39 : decode cX12_bring 39 = .ok (.iconst (-1), 1) := by decide +kernel
theorem dX12_bring_40 : decode cX12_bring 40 = .ok (.goto 11, 3) := by decide +kernel
theorem dX12_bring_43 : decode cX12_bring 43 = .ok (.aload_n 0, 1) := by decide +kernel
theorem dX12_bring_44 : decode cX12_bring 44 = .ok (.iload_n 1, 1) := by decide +kernel
theorem dX12_bring_45 : decode cX12_bring 45 = .ok (.iload_n 2, 1) := by decide +kernel
theorem dX12_bring_46 : decode cX12_bring 46 = .ok (.iload_n 3, 1) := by decide +kernel
theorem dX12_bring_47 : decode cX12_bring 47 = .ok (.iconst (-1), 1) := by decide +kernel
theorem dX12_bring_48 : decode cX12_bring 48 = .ok (.invokevirtual 291, 3) := by decide +kernel
theorem dX12_bring_51 : decode cX12_bring 51 = .ok (.ireturn, 1) := by decide +kernel
theorem dX12_isLot_0 : decode cX12_isLot 0 = .ok (.iload_n 1, 1) := by decide +kernel
theorem dX12_isLot_1 : decode cX12_isLot 1 = .ok (.iconst 0, 1) := by decide +kernel
theorem dX12_isLot_2 : decode cX12_isLot 2 = .ok (.aload_n 0, 1) := by decide +kernel
theorem dX12_isLot_3 : decode cX12_isLot 3 = .ok (.getfield 288, 3) := by decide +kernel
theorem dX12_isLot_6 : decode cX12_isLot 6 = .ok (.iconst 1, 1) := by decide +kernel
theorem dX12_isLot_7 : decode cX12_isLot 7 = .ok (.isub, 1) := by decide +kernel
theorem dX12_isLot_8 : decode cX12_isLot 8 = .ok (.invokestatic 269, 3) := by decide +kernel
theorem dX12_isLot_11 : decode cX12_isLot 11 = .ok (.ireturn, 1) := by decide +kernel
theorem dX12_lot_0 : decode cX12_lot 0 = .ok (.aload_n 0, 1) := by decide +kernel
theorem dX12_lot_1 : decode cX12_lot 1 = .ok (.iload_n 1, 1) := by decide +kernel
theorem dX12_lot_2 : decode cX12_lot 2 = .ok (.invokevirtual 295, 3) := by decide +kernel
theorem dX12_lot_5 : decode cX12_lot 5 = .ok (.ifCond .ne 5, 3) := by decide +kernel
theorem dX12_lot_8 : decode cX12_lot 8 = .ok (.iconst (-1), 1) := by decide +kernel
theorem dX12_lot_9 : decode cX12_lot 9 = .ok (.ireturn, 1) := by decide +kernel
theorem dX12_lot_10 : decode cX12_lot 10 = .ok (.iload_n 2, 1) := by decide +kernel
theorem dX12_lot_11 : decode cX12_lot 11 = .ok (.tableswitch 68 0 4 #[33, 40, 47, 54, 61], 33) := by decide +kernel
theorem dX12_lot_44 : decode cX12_lot 44 = .ok (.aload_n 0, 1) := by decide +kernel
theorem dX12_lot_45 : decode cX12_lot 45 = .ok (.getfield 32, 3) := by decide +kernel
theorem dX12_lot_48 : decode cX12_lot 48 = .ok (.iload_n 1, 1) := by decide +kernel
theorem dX12_lot_49 : decode cX12_lot 49 = .ok (.iaload, 1) := by decide +kernel
theorem dX12_lot_50 : decode cX12_lot 50 = .ok (.ireturn, 1) := by decide +kernel
theorem dX12_lot_51 : decode cX12_lot 51 = .ok (.aload_n 0, 1) := by decide +kernel
theorem dX12_lot_52 : decode cX12_lot 52 = .ok (.getfield 35, 3) := by decide +kernel
theorem dX12_lot_55 : decode cX12_lot 55 = .ok (.iload_n 1, 1) := by decide +kernel
theorem dX12_lot_56 : decode cX12_lot 56 = .ok (.iaload, 1) := by decide +kernel
theorem dX12_lot_57 : decode cX12_lot 57 = .ok (.ireturn, 1) := by decide +kernel
theorem dX12_lot_58 : decode cX12_lot 58 = .ok (.aload_n 0, 1) := by decide +kernel
theorem dX12_lot_59 : decode cX12_lot 59 = .ok (.getfield 38, 3) := by decide +kernel
theorem dX12_lot_62 : decode cX12_lot 62 = .ok (.iload_n 1, 1) := by decide +kernel
theorem dX12_lot_63 : decode cX12_lot 63 = .ok (.iaload, 1) := by decide +kernel
theorem dX12_lot_64 : decode cX12_lot 64 = .ok (.ireturn, 1) := by decide +kernel
theorem dX12_lot_65 : decode cX12_lot 65 = .ok (.aload_n 0, 1) := by decide +kernel
theorem dX12_lot_66 : decode cX12_lot 66 = .ok (.getfield 41, 3) := by decide +kernel
theorem dX12_lot_69 : decode cX12_lot 69 = .ok (.iload_n 1, 1) := by decide +kernel
theorem dX12_lot_70 : decode cX12_lot 70 = .ok (.iaload, 1) := by decide +kernel
theorem dX12_lot_71 : decode cX12_lot 71 = .ok (.ireturn, 1) := by decide +kernel
theorem dX12_lot_72 : decode cX12_lot 72 = .ok (.aload_n 0, 1) := by decide +kernel
theorem dX12_lot_73 : decode cX12_lot 73 = .ok (.getfield 44, 3) := by decide +kernel
theorem dX12_lot_76 : decode cX12_lot 76 = .ok (.iload_n 1, 1) := by decide +kernel
theorem dX12_lot_77 : decode cX12_lot 77 = .ok (.iaload, 1) := by decide +kernel
theorem dX12_lot_78 : decode cX12_lot 78 = .ok (.ireturn, 1) := by decide +kernel
theorem dX12_lot_79 : decode cX12_lot 79 = .ok (.iconst (-1), 1) := by decide +kernel
theorem dX12_lot_80 : decode cX12_lot 80 = .ok (.ireturn, 1) := by decide +kernel
theorem dX12_feed_0 : decode cX12_feed 0 = .ok (.aload_n 0, 1) := by decide +kernel
theorem dX12_feed_1 : decode cX12_feed 1 = .ok (.getfield 298, 3) := by decide +kernel
theorem dX12_feed_4 : decode cX12_feed 4 = .ok (.bipush 20, 2) := by decide +kernel
theorem dX12_feed_6 : decode cX12_feed 6 = .ok (.iadd, 1) := by decide +kernel
theorem dX12_feed_7 : decode cX12_feed 7 = .ok (.sipush 400, 3) := by decide +kernel
theorem dX12_feed_10 : decode cX12_feed 10 = .ok (.if_icmp .le 5, 3) := by decide +kernel
theorem dX12_feed_13 : decode cX12_feed 13 = .ok (.iconst (-1), 1) := by decide +kernel
theorem dX12_feed_14 : decode cX12_feed 14 = .ok (.ireturn, 1) := by decide +kernel
theorem dX12_feed_15 : decode cX12_feed 15 = .ok (.aload_n 0, 1) := by decide +kernel
theorem dX12_feed_16 : decode cX12_feed 16 = .ok (.iload_n 1, 1) := by decide +kernel
theorem dX12_feed_17 : decode cX12_feed 17 = .ok (.invokevirtual 301, 3) := by decide +kernel
theorem dX12_feed_20 : decode cX12_feed 20 = .ok (.aload_n 0, 1) := by decide +kernel
theorem dX12_feed_21 : decode cX12_feed 21 = .ok (.iload_n 2, 1) := by decide +kernel
theorem dX12_feed_22 : decode cX12_feed 22 = .ok (.invokevirtual 301, 3) := by decide +kernel
theorem dX12_feed_25 : decode cX12_feed 25 = .ok (.aload_n 0, 1) := by decide +kernel
theorem dX12_feed_26 : decode cX12_feed 26 = .ok (.iload_n 3, 1) := by decide +kernel
theorem dX12_feed_27 : decode cX12_feed 27 = .ok (.invokevirtual 301, 3) := by decide +kernel
theorem dX12_feed_30 : decode cX12_feed 30 = .ok (.aload_n 0, 1) := by decide +kernel
theorem dX12_feed_31 : decode cX12_feed 31 = .ok (.iload 4, 2) := by decide +kernel
theorem dX12_feed_33 : decode cX12_feed 33 = .ok (.invokevirtual 301, 3) := by decide +kernel
theorem dX12_feed_36 : decode cX12_feed 36 = .ok (.aload_n 0, 1) := by decide +kernel
theorem dX12_feed_37 : decode cX12_feed 37 = .ok (.iload 5, 2) := by decide +kernel
theorem dX12_feed_39 : decode cX12_feed 39 = .ok (.invokevirtual 301, 3) := by decide +kernel
theorem dX12_feed_42 : decode cX12_feed 42 = .ok (.aload_n 0, 1) := by decide +kernel
theorem dX12_feed_43 : decode cX12_feed 43 = .ok (.getfield 298, 3) := by decide +kernel
theorem dX12_feed_46 : decode cX12_feed 46 = .ok (.ireturn, 1) := by decide +kernel
theorem dX12_put_0 : decode cX12_put 0 = .ok (.bipush 24, 2) := by decide +kernel
theorem dX12_put_2 : decode cX12_put 2 = .ok (.istore_n 2, 1) := by decide +kernel
theorem dX12_put_3 : decode cX12_put 3 = .ok (.iload_n 2, 1) := by decide +kernel
theorem dX12_put_4 : decode cX12_put 4 = .ok (.ifCond .lt 32, 3) := by decide +kernel
theorem dX12_put_7 : decode cX12_put 7 = .ok (.aload_n 0, 1) := by decide +kernel
theorem dX12_put_8 : decode cX12_put 8 = .ok (.getfield 47, 3) := by decide +kernel
theorem dX12_put_11 : decode cX12_put 11 = .ok (.aload_n 0, 1) := by decide +kernel
theorem dX12_put_12 : decode cX12_put 12 = .ok (.getfield 298, 3) := by decide +kernel
theorem dX12_put_15 : decode cX12_put 15 = .ok (.iload_n 1, 1) := by decide +kernel
theorem dX12_put_16 : decode cX12_put 16 = .ok (.iload_n 2, 1) := by decide +kernel
theorem dX12_put_17 : decode cX12_put 17 = .ok (.ishr, 1) := by decide +kernel
theorem dX12_put_18 : decode cX12_put 18 = .ok (.i2b, 1) := by decide +kernel
theorem dX12_put_19 : decode cX12_put 19 = .ok (.bastore, 1) := by decide +kernel
theorem dX12_put_20 : decode cX12_put 20 = .ok (.aload_n 0, 1) := by decide +kernel
theorem dX12_put_21 : decode cX12_put 21 = .ok (.dup, 1) := by decide +kernel
theorem dX12_put_22 : decode cX12_put 22 = .ok (.getfield 298, 3) := by decide +kernel
theorem dX12_put_25 : decode cX12_put 25 = .ok (.iconst 1, 1) := by decide +kernel
theorem dX12_put_26 : decode cX12_put 26 = .ok (.iadd, 1) := by decide +kernel
theorem dX12_put_27 : decode cX12_put 27 = .ok (.putfield 298, 3) := by decide +kernel
theorem dX12_put_30 : decode cX12_put 30 = .ok (.iinc 2 (-8), 3) := by decide +kernel
theorem dX12_put_33 : decode cX12_put 33 = .ok (.goto (-30), 3) := by decide +kernel
theorem dX12_put_36 : decode cX12_put 36 = .ok (.return_, 1) := by decide +kernel
theorem dX12_end_0 : decode cX12_end 0 = .ok (.iload_n 1, 1) := by decide +kernel
theorem dX12_end_1 : decode cX12_end 1 = .ok (.ifCond .lt 11, 3) := by decide +kernel
theorem dX12_end_4 : decode cX12_end 4 = .ok (.iload_n 1, 1) := by decide +kernel
theorem dX12_end_5 : decode cX12_end 5 = .ok (.aload_n 0, 1) := by decide +kernel
theorem dX12_end_6 : decode cX12_end 6 = .ok (.getfield 298, 3) := by decide +kernel
theorem dX12_end_9 : decode cX12_end 9 = .ok (.if_icmp .le 5, 3) := by decide +kernel
theorem dX12_end_12 : decode cX12_end 12 = .ok (.iconst (-1), 1) := by decide +kernel
theorem dX12_end_13 : decode cX12_end 13 = .ok (.ireturn, 1) := by decide +kernel
theorem dX12_end_14 : decode cX12_end 14 = .ok (.aload_n 0, 1) := by decide +kernel
theorem dX12_end_15 : decode cX12_end 15 = .ok (.iload_n 1, 1) := by decide +kernel
theorem dX12_end_16 : decode cX12_end 16 = .ok (.putfield 298, 3) := by decide +kernel
theorem dX12_end_19 : decode cX12_end 19 = .ok (.iload_n 1, 1) := by decide +kernel
theorem dX12_end_20 : decode cX12_end 20 = .ok (.ireturn, 1) := by decide +kernel
theorem dX12_fails_0 : decode cX12_fails 0 = .ok (.aload_n 0, 1) := by decide +kernel
theorem dX12_fails_1 : decode cX12_fails 1 = .ok (.getfield 305, 3) := by decide +kernel
theorem dX12_fails_4 : decode cX12_fails 4 = .ok (.ifCond .ne 15, 3) := by decide +kernel
theorem dX12_fails_7 : decode cX12_fails 7 = .ok (.aload_n 0, 1) := by decide +kernel
theorem dX12_fails_8 : decode cX12_fails 8 = .ok (.iconst 1, 1) := by decide +kernel
theorem dX12_fails_9 : decode cX12_fails 9 = .ok (.bipush 8, 2) := by decide +kernel
theorem dX12_fails_11 : decode cX12_fails 11 = .ok (.iload_n 2, 1) := by decide +kernel
theorem dX12_fails_12 : decode cX12_fails 12 = .ok (.imul, 1) := by decide +kernel
theorem dX12_fails_13 : decode cX12_fails 13 = .ok (.iadd, 1) := by decide +kernel
theorem dX12_fails_14 : decode cX12_fails 14 = .ok (.iload_n 1, 1) := by decide +kernel
theorem dX12_fails_15 : decode cX12_fails 15 = .ok (.iadd, 1) := by decide +kernel
theorem dX12_fails_16 : decode cX12_fails 16 = .ok (.putfield 305, 3) := by decide +kernel
theorem dX12_fails_19 : decode cX12_fails 19 = .ok (.return_, 1) := by decide +kernel
theorem dX12_blanks_0 : decode cX12_blanks 0 = .ok (.aload_n 0, 1) := by decide +kernel
theorem dX12_blanks_1 : decode cX12_blanks 1 = .ok (.getfield 308, 3) := by decide +kernel
theorem dX12_blanks_4 : decode cX12_blanks 4 = .ok (.aload_n 0, 1) := by decide +kernel
theorem dX12_blanks_5 : decode cX12_blanks 5 = .ok (.getfield 298, 3) := by decide +kernel
theorem dX12_blanks_8 : decode cX12_blanks 8 = .ok (.if_icmp .ge 30, 3) := by decide +kernel
theorem dX12_blanks_11 : decode cX12_blanks 11 = .ok (.aload_n 0, 1) := by decide +kernel
theorem dX12_blanks_12 : decode cX12_blanks 12 = .ok (.getfield 47, 3) := by decide +kernel
theorem dX12_blanks_15 : decode cX12_blanks 15 = .ok (.aload_n 0, 1) := by decide +kernel
theorem dX12_blanks_16 : decode cX12_blanks 16 = .ok (.getfield 308, 3) := by decide +kernel
theorem dX12_blanks_19 : decode cX12_blanks 19 = .ok (.baload, 1) := by decide +kernel
theorem dX12_blanks_20 : decode cX12_blanks 20 = .ok (.bipush 32, 2) := by decide +kernel
theorem dX12_blanks_22 : decode cX12_blanks 22 = .ok (.if_icmp .ne 16, 3) := by decide +kernel
theorem dX12_blanks_25 : decode cX12_blanks 25 = .ok (.aload_n 0, 1) := by decide +kernel
theorem dX12_blanks_26 : decode cX12_blanks 26 = .ok (.dup, 1) := by decide +kernel
theorem dX12_blanks_27 : decode cX12_blanks 27 = .ok (.getfield 308, 3) := by decide +kernel
theorem dX12_blanks_30 : decode cX12_blanks 30 = .ok (.iconst 1, 1) := by decide +kernel
theorem dX12_blanks_31 : decode cX12_blanks 31 = .ok (.iadd, 1) := by decide +kernel
theorem dX12_blanks_32 : decode cX12_blanks 32 = .ok (.putfield 308, 3) := by decide +kernel
theorem dX12_blanks_35 : decode cX12_blanks 35 = .ok (.goto (-35), 3) := by decide +kernel
theorem dX12_blanks_38 : decode cX12_blanks 38 = .ok (.aload_n 0, 1) := by decide +kernel
theorem dX12_blanks_39 : decode cX12_blanks 39 = .ok (.aload_n 0, 1) := by decide +kernel
theorem dX12_blanks_40 : decode cX12_blanks 40 = .ok (.getfield 308, 3) := by decide +kernel
theorem dX12_blanks_43 : decode cX12_blanks 43 = .ok (.putfield 311, 3) := by decide +kernel
theorem dX12_blanks_46 : decode cX12_blanks 46 = .ok (.return_, 1) := by decide +kernel
theorem dX12_sign_0 : decode cX12_sign 0 = .ok (.aload_n 0, 1) := by decide +kernel
theorem dX12_sign_1 : decode cX12_sign 1 = .ok (.getfield 308, 3) := by decide +kernel
theorem dX12_sign_4 : decode cX12_sign 4 = .ok (.aload_n 0, 1) := by decide +kernel
theorem dX12_sign_5 : decode cX12_sign 5 = .ok (.getfield 298, 3) := by decide +kernel
theorem dX12_sign_8 : decode cX12_sign 8 = .ok (.if_icmp .ge 15, 3) := by decide +kernel
theorem dX12_sign_11 : decode cX12_sign 11 = .ok (.aload_n 0, 1) := by decide +kernel
theorem dX12_sign_12 : decode cX12_sign 12 = .ok (.getfield 47, 3) := by decide +kernel
theorem dX12_sign_15 : decode cX12_sign 15 = .ok (.aload_n 0, 1) := by decide +kernel
theorem dX12_sign_16 : decode cX12_sign 16 = .ok (.getfield 308, 3) := by decide +kernel
theorem dX12_sign_19 : decode cX12_sign 19 = .ok (.baload, 1) := by decide +kernel
theorem dX12_sign_20 : decode cX12_sign 20 = .ok (.goto 4, 3) := by decide +kernel
theorem dX12_sign_23 : decode cX12_sign 23 = .ok (.iconst (-1), 1) := by decide +kernel
theorem dX12_sign_24 : decode cX12_sign 24 = .ok (.ireturn, 1) := by decide +kernel
theorem dX12_isDigit_0 : decode cX12_isDigit 0 = .ok (.iload_n 0, 1) := by decide +kernel
theorem dX12_isDigit_1 : decode cX12_isDigit 1 = .ok (.bipush 48, 2) := by decide +kernel
theorem dX12_isDigit_3 : decode cX12_isDigit 3 = .ok (.if_icmp .lt 13, 3) := by decide +kernel
theorem dX12_isDigit_6 : decode cX12_isDigit 6 = .ok (.iload_n 0, 1) := by decide +kernel
theorem dX12_isDigit_7 : decode cX12_isDigit 7 = .ok (.bipush 57, 2) := by decide +kernel
theorem dX12_isDigit_9 : decode cX12_isDigit 9 = .ok (.if_icmp .gt 7, 3) := by decide +kernel
theorem dX12_isDigit_12 : decode cX12_isDigit 12 = .ok (.iconst 1, 1) := by decide +kernel
theorem dX12_isDigit_13 : decode cX12_isDigit 13 = .ok (.goto 4, 3) := by decide +kernel
theorem dX12_isDigit_16 : decode cX12_isDigit 16 = .ok (.iconst 0, 1) := by decide +kernel
theorem dX12_isDigit_17 : decode cX12_isDigit 17 = .ok (.ireturn, 1) := by decide +kernel
theorem dX12_wordEnd_0 : decode cX12_wordEnd 0 = .ok (.aload_n 0, 1) := by decide +kernel
theorem dX12_wordEnd_1 : decode cX12_wordEnd 1 = .ok (.getfield 308, 3) := by decide +kernel
theorem dX12_wordEnd_4 : decode cX12_wordEnd 4 = .ok (.istore_n 1, 1) := by decide +kernel
theorem dX12_wordEnd_5 : decode cX12_wordEnd 5 = .ok (.iload_n 1, 1) := by decide +kernel
theorem dX12_wordEnd_6 : decode cX12_wordEnd 6 = .ok (.aload_n 0, 1) := by decide +kernel
theorem dX12_wordEnd_7 : decode cX12_wordEnd 7 = .ok (.getfield 298, 3) := by decide +kernel
theorem dX12_wordEnd_10 : decode cX12_wordEnd 10 = .ok (.if_icmp .ge 31, 3) := by decide +kernel
theorem dX12_wordEnd_13 : decode cX12_wordEnd 13 = .ok (.aload_n 0, 1) := by decide +kernel
theorem dX12_wordEnd_14 : decode cX12_wordEnd 14 = .ok (.getfield 47, 3) := by decide +kernel
theorem dX12_wordEnd_17 : decode cX12_wordEnd 17 = .ok (.iload_n 1, 1) := by decide +kernel
theorem dX12_wordEnd_18 : decode cX12_wordEnd 18 = .ok (.baload, 1) := by decide +kernel
theorem dX12_wordEnd_19 : decode cX12_wordEnd 19 = .ok (.bipush 97, 2) := by decide +kernel
theorem dX12_wordEnd_21 : decode cX12_wordEnd 21 = .ok (.if_icmp .lt 20, 3) := by decide +kernel
theorem dX12_wordEnd_24 : decode cX12_wordEnd 24 = .ok (.aload_n 0, 1) := by decide +kernel
theorem dX12_wordEnd_25 : decode cX12_wordEnd 25 = .ok (.getfield 47, 3) := by decide +kernel
theorem dX12_wordEnd_28 : decode cX12_wordEnd 28 = .ok (.iload_n 1, 1) := by decide +kernel
theorem dX12_wordEnd_29 : decode cX12_wordEnd 29 = .ok (.baload, 1) := by decide +kernel
theorem dX12_wordEnd_30 : decode cX12_wordEnd 30 = .ok (.bipush 122, 2) := by decide +kernel
theorem dX12_wordEnd_32 : decode cX12_wordEnd 32 = .ok (.if_icmp .gt 9, 3) := by decide +kernel
theorem dX12_wordEnd_35 : decode cX12_wordEnd 35 = .ok (.iinc 1 1, 3) := by decide +kernel
theorem dX12_wordEnd_38 : decode cX12_wordEnd 38 = .ok (.goto (-33), 3) := by decide +kernel
theorem dX12_wordEnd_41 : decode cX12_wordEnd 41 = .ok (.iload_n 1, 1) := by decide +kernel
theorem dX12_wordEnd_42 : decode cX12_wordEnd 42 = .ok (.ireturn, 1) := by decide +kernel
theorem dX12_is_0 : decode cX12_is 0 = .ok (.iload_n 2, 1) := by decide +kernel
theorem dX12_is_1 : decode cX12_is 1 = .ok (.aload_n 0, 1) := by decide +kernel
theorem dX12_is_2 : decode cX12_is 2 = .ok (.getfield 308, 3) := by decide +kernel
theorem dX12_is_5 : decode cX12_is 5 = .ok (.isub, 1) := by decide +kernel
theorem dX12_is_6 : decode cX12_is 6 = .ok (.aload_n 1, 1) := by decide +kernel
theorem dX12_is_7 : decode cX12_is 7 = .ok (.invokevirtual 314, 3) := by decide +kernel
theorem dX12_is_10 : decode cX12_is 10 = .ok (.if_icmp .ne 7, 3) := by decide +kernel
theorem dX12_is_13 : decode cX12_is 13 = .ok (.iconst 1, 1) := by decide +kernel
theorem dX12_is_14 : decode cX12_is 14 = .ok (.goto 4, 3) := by decide +kernel
theorem dX12_is_17 : decode cX12_is 17 = .ok (.iconst 0, 1) := by decide +kernel
theorem dX12_is_18 : decode cX12_is 18 = .ok (.istore_n 3, 1) := by decide +kernel
theorem dX12_is_19 : decode cX12_is 19 = .ok (.iconst 0, 1) := by decide +kernel
theorem dX12_is_20 : decode cX12_is 20 = .ok (.istore 4, 2) := by decide +kernel
theorem dX12_is_22 : decode cX12_is 22 = .ok (.iload 4, 2) := by decide +kernel
theorem dX12_is_24 : decode cX12_is 24 = .ok (.aload_n 1, 1) := by decide +kernel
theorem dX12_is_25 : decode cX12_is 25 = .ok (.invokevirtual 314, 3) := by decide +kernel
theorem dX12_is_28 : decode cX12_is 28 = .ok (.if_icmp .ge 40, 3) := by decide +kernel
theorem dX12_is_31 : decode cX12_is 31 = .ok (.iload_n 3, 1) := by decide +kernel
theorem dX12_is_32 : decode cX12_is 32 = .ok (.ifCond .eq 36, 3) := by decide +kernel
theorem dX12_is_35 : decode cX12_is 35 = .ok (.aload_n 0, 1) := by decide +kernel
theorem dX12_is_36 : decode cX12_is 36 = .ok (.getfield 47, 3) := by decide +kernel
theorem dX12_is_39 : decode cX12_is 39 = .ok (.aload_n 0, 1) := by decide +kernel
theorem dX12_is_40 : decode cX12_is 40 = .ok (.getfield 308, 3) := by decide +kernel
theorem dX12_is_43 : decode cX12_is 43 = .ok (.iload 4, 2) := by decide +kernel
theorem dX12_is_45 : decode cX12_is 45 = .ok (.iadd, 1) := by decide +kernel
theorem dX12_is_46 : decode cX12_is 46 = .ok (.baload, 1) := by decide +kernel
theorem dX12_is_47 : decode cX12_is 47 = .ok (.aload_n 1, 1) := by decide +kernel
theorem dX12_is_48 : decode cX12_is 48 = .ok (.iload 4, 2) := by decide +kernel
theorem dX12_is_50 : decode cX12_is 50 = .ok (.invokevirtual 320, 3) := by decide +kernel
theorem dX12_is_53 : decode cX12_is 53 = .ok (.if_icmp .ne 7, 3) := by decide +kernel
theorem dX12_is_56 : decode cX12_is 56 = .ok (.iconst 1, 1) := by decide +kernel
theorem dX12_is_57 : decode cX12_is 57 = .ok (.goto 4, 3) := by decide +kernel
theorem dX12_is_60 : decode cX12_is 60 = .ok (.iconst 0, 1) := by decide +kernel
theorem dX12_is_61 : decode cX12_is 61 = .ok (.istore_n 3, 1) := by decide +kernel
theorem dX12_is_62 : decode cX12_is 62 = .ok (.iinc 4 1, 3) := by decide +kernel
theorem dX12_is_65 : decode cX12_is 65 = .ok (.goto (-43), 3) := by decide +kernel
theorem dX12_is_68 : decode cX12_is 68 = .ok (.iload_n 3, 1) := by decide +kernel
theorem dX12_is_69 : decode cX12_is 69 = .ok (.ireturn, 1) := by decide +kernel
theorem dX12_wordOf_0 : decode cX12_wordOf 0 = .ok (.iload_n 0, 1) := by decide +kernel
theorem dX12_wordOf_1 : decode cX12_wordOf 1 = .ok (.tableswitch 119 0 12 #[67, 71, 75, 79, 83, 87, 91, 95, 99, 103, 107, 111, 115], 67) := by decide +kernel
theorem dX12_wordOf_68 : decode cX12_wordOf 68 = .ok (.ldc_w 324, 3) := by decide +kernel
theorem dX12_wordOf_71 : decode cX12_wordOf 71 = .ok (.areturn, 1) := by decide +kernel
theorem dX12_wordOf_72 : decode cX12_wordOf 72 = .ok (.ldc_w 325, 3) := by decide +kernel
theorem dX12_wordOf_75 : decode cX12_wordOf 75 = .ok (.areturn, 1) := by decide +kernel
theorem dX12_wordOf_76 : decode cX12_wordOf 76 = .ok (.ldc_w 326, 3) := by decide +kernel
theorem dX12_wordOf_79 : decode cX12_wordOf 79 = .ok (.areturn, 1) := by decide +kernel
theorem dX12_wordOf_80 : decode cX12_wordOf 80 = .ok (.ldc_w 328, 3) := by decide +kernel
theorem dX12_wordOf_83 : decode cX12_wordOf 83 = .ok (.areturn, 1) := by decide +kernel
theorem dX12_wordOf_84 : decode cX12_wordOf 84 = .ok (.ldc_w 329, 3) := by decide +kernel
theorem dX12_wordOf_87 : decode cX12_wordOf 87 = .ok (.areturn, 1) := by decide +kernel
theorem dX12_wordOf_88 : decode cX12_wordOf 88 = .ok (.ldc_w 331, 3) := by decide +kernel
theorem dX12_wordOf_91 : decode cX12_wordOf 91 = .ok (.areturn, 1) := by decide +kernel
theorem dX12_wordOf_92 : decode cX12_wordOf 92 = .ok (.ldc_w 333, 3) := by decide +kernel
theorem dX12_wordOf_95 : decode cX12_wordOf 95 = .ok (.areturn, 1) := by decide +kernel
theorem dX12_wordOf_96 : decode cX12_wordOf 96 = .ok (.ldc_w 335, 3) := by decide +kernel
theorem dX12_wordOf_99 : decode cX12_wordOf 99 = .ok (.areturn, 1) := by decide +kernel
theorem dX12_wordOf_100 : decode cX12_wordOf 100 = .ok (.ldc_w 337, 3) := by decide +kernel
theorem dX12_wordOf_103 : decode cX12_wordOf 103 = .ok (.areturn, 1) := by decide +kernel
theorem dX12_wordOf_104 : decode cX12_wordOf 104 = .ok (.ldc_w 339, 3) := by decide +kernel
theorem dX12_wordOf_107 : decode cX12_wordOf 107 = .ok (.areturn, 1) := by decide +kernel
theorem dX12_wordOf_108 : decode cX12_wordOf 108 = .ok (.ldc_w 341, 3) := by decide +kernel
theorem dX12_wordOf_111 : decode cX12_wordOf 111 = .ok (.areturn, 1) := by decide +kernel
theorem dX12_wordOf_112 : decode cX12_wordOf 112 = .ok (.ldc_w 343, 3) := by decide +kernel
theorem dX12_wordOf_115 : decode cX12_wordOf 115 = .ok (.areturn, 1) := by decide +kernel
theorem dX12_wordOf_116 : decode cX12_wordOf 116 = .ok (.ldc_w 345, 3) := by decide +kernel
theorem dX12_wordOf_119 : decode cX12_wordOf 119 = .ok (.areturn, 1) := by decide +kernel
theorem dX12_wordOf_120 : decode cX12_wordOf 120 = .ok (.ldc_w 347, 3) := by decide +kernel
theorem dX12_wordOf_123 : decode cX12_wordOf 123 = .ok (.areturn, 1) := by decide +kernel
theorem dX12_number_0 : decode cX12_number 0 = .ok (.iconst 0, 1) := by decide +kernel
theorem dX12_number_1 : decode cX12_number 1 = .ok (.istore_n 1, 1) := by decide +kernel
theorem dX12_number_2 : decode cX12_number 2 = .ok (.iconst 0, 1) := by decide +kernel
theorem dX12_number_3 : decode cX12_number 3 = .ok (.istore_n 2, 1) := by decide +kernel
theorem dX12_number_4 : decode cX12_number 4 = .ok (.aload_n 0, 1) := by decide +kernel
theorem dX12_number_5 : decode cX12_number 5 = .ok (.getfield 308, 3) := by decide +kernel
theorem dX12_number_8 : decode cX12_number 8 = .ok (.aload_n 0, 1) := by decide +kernel
theorem dX12_number_9 : decode cX12_number 9 = .ok (.getfield 298, 3) := by decide +kernel
theorem dX12_number_12 : decode cX12_number 12 = .ok (.if_icmp .ge 61, 3) := by decide +kernel
theorem dX12_number_15 : decode cX12_number 15 = .ok (.aload_n 0, 1) := by decide +kernel
theorem dX12_number_16 : decode cX12_number 16 = .ok (.getfield 47, 3) := by decide +kernel
theorem dX12_number_19 : decode cX12_number 19 = .ok (.aload_n 0, 1) := by decide +kernel
theorem dX12_number_20 : decode cX12_number 20 = .ok (.getfield 308, 3) := by decide +kernel
theorem dX12_number_23 : decode cX12_number 23 = .ok (.baload, 1) := by decide +kernel
theorem dX12_number_24 : decode cX12_number 24 = .ok (.invokestatic 349, 3) := by decide +kernel
theorem dX12_number_27 : decode cX12_number 27 = .ok (.ifCond .eq 46, 3) := by decide +kernel
theorem dX12_number_30 : decode cX12_number 30 = .ok (.iload_n 2, 1) := by decide +kernel
theorem dX12_number_31 : decode cX12_number 31 = .ok (.iconst 5, 1) := by decide +kernel
theorem dX12_number_32 : decode cX12_number 32 = .ok (.if_icmp .ge 23, 3) := by decide +kernel
theorem dX12_number_35 : decode cX12_number 35 = .ok (.bipush 10, 2) := by decide +kernel
theorem dX12_number_37 : decode cX12_number 37 = .ok (.iload_n 1, 1) := by decide +kernel
theorem dX12_number_38 : decode cX12_number 38 = .ok (.imul, 1) := by decide +kernel
theorem dX12_number_39 : decode cX12_number 39 = .ok (.aload_n 0, 1) := by decide +kernel
theorem dX12_number_40 : decode cX12_number 40 = .ok (.getfield 47, 3) := by decide +kernel
theorem dX12_number_43 : decode cX12_number 43 = .ok (.aload_n 0, 1) := by decide +kernel
theorem dX12_number_44 : decode cX12_number 44 = .ok (.getfield 308, 3) := by decide +kernel
theorem dX12_number_47 : decode cX12_number 47 = .ok (.baload, 1) := by decide +kernel
theorem dX12_number_48 : decode cX12_number 48 = .ok (.iadd, 1) := by decide +kernel
theorem dX12_number_49 : decode cX12_number 49 = .ok (.bipush 48, 2) := by decide +kernel
theorem dX12_number_51 : decode cX12_number 51 = .ok (.isub, 1) := by decide +kernel
theorem dX12_number_52 : decode cX12_number 52 = .ok (.goto 4, 3) := by decide +kernel
theorem dX12_number_55 : decode cX12_number 55 = .ok (.iload_n 1, 1) := by decide +kernel
theorem dX12_number_56 : decode cX12_number 56 = .ok (.istore_n 1, 1) := by decide +kernel
theorem dX12_number_57 : decode cX12_number 57 = .ok (.iinc 2 1, 3) := by decide +kernel
theorem dX12_number_60 : decode cX12_number 60 = .ok (.aload_n 0, 1) := by decide +kernel
theorem dX12_number_61 : decode cX12_number 61 = .ok (.dup, 1) := by decide +kernel
theorem dX12_number_62 : decode cX12_number 62 = .ok (.getfield 308, 3) := by decide +kernel
theorem dX12_number_65 : decode cX12_number 65 = .ok (.iconst 1, 1) := by decide +kernel
theorem dX12_number_66 : decode cX12_number 66 = .ok (.iadd, 1) := by decide +kernel
theorem dX12_number_67 : decode cX12_number 67 = .ok (.putfield 308, 3) := by decide +kernel
theorem dX12_number_70 : decode cX12_number 70 = .ok (.goto (-66), 3) := by decide +kernel
theorem dX12_number_73 : decode cX12_number 73 = .ok (.iload_n 2, 1) := by decide +kernel
theorem dX12_number_74 : decode cX12_number 74 = .ok (.iconst 5, 1) := by decide +kernel
theorem dX12_number_75 : decode cX12_number 75 = .ok (.if_icmp .le 12, 3) := by decide +kernel
theorem dX12_number_78 : decode cX12_number 78 = .ok (.aload_n 0, 1) := by decide +kernel
theorem dX12_number_79 : decode cX12_number 79 = .ok (.iconst 1, 1) := by decide +kernel
theorem dX12_number_80 : decode cX12_number 80 = .ok (.aload_n 0, 1) := by decide +kernel
theorem dX12_number_81 : decode cX12_number 81 = .ok (.getfield 311, 3) := by decide +kernel
theorem dX12_number_84 : decode cX12_number 84 = .ok (.invokevirtual 352, 3) := by decide +kernel
theorem dX12_number_87 : decode cX12_number 87 = .ok (.iload_n 1, 1) := by decide +kernel
theorem dX12_number_88 : decode cX12_number 88 = .ok (.ireturn, 1) := by decide +kernel
theorem dX12_emits_0 : decode cX12_emits 0 = .ok (.aload_n 0, 1) := by decide +kernel
theorem dX12_emits_1 : decode cX12_emits 1 = .ok (.getfield 72, 3) := by decide +kernel
theorem dX12_emits_4 : decode cX12_emits 4 = .ok (.sipush 400, 3) := by decide +kernel
theorem dX12_emits_7 : decode cX12_emits 7 = .ok (.aload_n 0, 1) := by decide +kernel
theorem dX12_emits_8 : decode cX12_emits 8 = .ok (.getfield 356, 3) := by decide +kernel
theorem dX12_emits_11 : decode cX12_emits 11 = .ok (.imul, 1) := by decide +kernel
theorem dX12_emits_12 : decode cX12_emits 12 = .ok (.aload_n 0, 1) := by decide +kernel
theorem dX12_emits_13 : decode cX12_emits 13 = .ok (.getfield 359, 3) := by decide +kernel
theorem dX12_emits_16 : decode cX12_emits 16 = .ok (.iadd, 1) := by decide +kernel
theorem dX12_emits_17 : decode cX12_emits 17 = .ok (.iload_n 1, 1) := by decide +kernel
theorem dX12_emits_18 : decode cX12_emits 18 = .ok (.iastore, 1) := by decide +kernel
theorem dX12_emits_19 : decode cX12_emits 19 = .ok (.aload_n 0, 1) := by decide +kernel
theorem dX12_emits_20 : decode cX12_emits 20 = .ok (.getfield 75, 3) := by decide +kernel
theorem dX12_emits_23 : decode cX12_emits 23 = .ok (.sipush 400, 3) := by decide +kernel
theorem dX12_emits_26 : decode cX12_emits 26 = .ok (.aload_n 0, 1) := by decide +kernel
theorem dX12_emits_27 : decode cX12_emits 27 = .ok (.getfield 356, 3) := by decide +kernel
theorem dX12_emits_30 : decode cX12_emits 30 = .ok (.imul, 1) := by decide +kernel
theorem dX12_emits_31 : decode cX12_emits 31 = .ok (.aload_n 0, 1) := by decide +kernel
theorem dX12_emits_32 : decode cX12_emits 32 = .ok (.getfield 359, 3) := by decide +kernel
theorem dX12_emits_35 : decode cX12_emits 35 = .ok (.iadd, 1) := by decide +kernel
theorem dX12_emits_36 : decode cX12_emits 36 = .ok (.iload_n 2, 1) := by decide +kernel
theorem dX12_emits_37 : decode cX12_emits 37 = .ok (.iastore, 1) := by decide +kernel
theorem dX12_emits_38 : decode cX12_emits 38 = .ok (.aload_n 0, 1) := by decide +kernel
theorem dX12_emits_39 : decode cX12_emits 39 = .ok (.dup, 1) := by decide +kernel
theorem dX12_emits_40 : decode cX12_emits 40 = .ok (.getfield 359, 3) := by decide +kernel
theorem dX12_emits_43 : decode cX12_emits 43 = .ok (.iconst 1, 1) := by decide +kernel
theorem dX12_emits_44 : decode cX12_emits 44 = .ok (.iadd, 1) := by decide +kernel
theorem dX12_emits_45 : decode cX12_emits 45 = .ok (.putfield 359, 3) := by decide +kernel
theorem dX12_emits_48 : decode cX12_emits 48 = .ok (.return_, 1) := by decide +kernel
theorem dX12_opens_0 : decode cX12_opens 0 = .ok (.aload_n 0, 1) := by decide +kernel
theorem dX12_opens_1 : decode cX12_opens 1 = .ok (.getfield 78, 3) := by decide +kernel
theorem dX12_opens_4 : decode cX12_opens 4 = .ok (.aload_n 0, 1) := by decide +kernel
theorem dX12_opens_5 : decode cX12_opens 5 = .ok (.getfield 362, 3) := by decide +kernel
theorem dX12_opens_8 : decode cX12_opens 8 = .ok (.iload_n 1, 1) := by decide +kernel
theorem dX12_opens_9 : decode cX12_opens 9 = .ok (.iastore, 1) := by decide +kernel
theorem dX12_opens_10 : decode cX12_opens 10 = .ok (.aload_n 0, 1) := by decide +kernel
theorem dX12_opens_11 : decode cX12_opens 11 = .ok (.dup, 1) := by decide +kernel
theorem dX12_opens_12 : decode cX12_opens 12 = .ok (.getfield 362, 3) := by decide +kernel
theorem dX12_opens_15 : decode cX12_opens 15 = .ok (.iconst 1, 1) := by decide +kernel
theorem dX12_opens_16 : decode cX12_opens 16 = .ok (.iadd, 1) := by decide +kernel
theorem dX12_opens_17 : decode cX12_opens 17 = .ok (.putfield 362, 3) := by decide +kernel
theorem dX12_opens_20 : decode cX12_opens 20 = .ok (.return_, 1) := by decide +kernel
theorem dX12_top_0 : decode cX12_top 0 = .ok (.aload_n 0, 1) := by decide +kernel
theorem dX12_top_1 : decode cX12_top 1 = .ok (.getfield 362, 3) := by decide +kernel
theorem dX12_top_4 : decode cX12_top 4 = .ok (.ifCond .ne 7, 3) := by decide +kernel
theorem dX12_top_7 : decode cX12_top 7 = .ok (.iconst (-1), 1) := by decide +kernel
theorem dX12_top_8 : decode cX12_top 8 = .ok (.goto 14, 3) := by decide +kernel
theorem dX12_top_11 : decode cX12_top 11 = .ok (.aload_n 0, 1) := by decide +kernel
theorem dX12_top_12 : decode cX12_top 12 = .ok (.getfield 78, 3) := by decide +kernel
theorem dX12_top_15 : decode cX12_top 15 = .ok (.aload_n 0, 1) := by decide +kernel
theorem dX12_top_16 : decode cX12_top 16 = .ok (.getfield 362, 3) := by decide +kernel
theorem dX12_top_19 : decode cX12_top 19 = .ok (.iconst 1, 1) := by decide +kernel
theorem dX12_top_20 : decode cX12_top 20 = .ok (.isub, 1) := by decide +kernel
theorem dX12_top_21 : decode cX12_top 21 = .ok (.iaload, 1) := by decide +kernel
theorem dX12_top_22 : decode cX12_top 22 = .ok (.ireturn, 1) := by decide +kernel
theorem dX12_isSign_0 : decode cX12_isSign 0 = .ok (.iload_n 0, 1) := by decide +kernel
theorem dX12_isSign_1 : decode cX12_isSign 1 = .ok (.bipush 7, 2) := by decide +kernel
theorem dX12_isSign_3 : decode cX12_isSign 3 = .ok (.if_icmp .lt 13, 3) := by decide +kernel
theorem dX12_isSign_6 : decode cX12_isSign 6 = .ok (.iload_n 0, 1) := by decide +kernel
theorem dX12_isSign_7 : decode cX12_isSign 7 = .ok (.bipush 11, 2) := by decide +kernel
theorem dX12_isSign_9 : decode cX12_isSign 9 = .ok (.if_icmp .gt 7, 3) := by decide +kernel
theorem dX12_isSign_12 : decode cX12_isSign 12 = .ok (.iconst 1, 1) := by decide +kernel
theorem dX12_isSign_13 : decode cX12_isSign 13 = .ok (.goto 4, 3) := by decide +kernel
theorem dX12_isSign_16 : decode cX12_isSign 16 = .ok (.iconst 0, 1) := by decide +kernel
theorem dX12_isSign_17 : decode cX12_isSign 17 = .ok (.ireturn, 1) := by decide +kernel
theorem dX12_deeper_0 : decode cX12_deeper 0 = .ok (.aload_n 0, 1) := by decide +kernel
theorem dX12_deeper_1 : decode cX12_deeper 1 = .ok (.getfield 365, 3) := by decide +kernel
theorem dX12_deeper_4 : decode cX12_deeper 4 = .ok (.bipush 10, 2) := by decide +kernel
theorem dX12_deeper_6 : decode cX12_deeper 6 = .ok (.if_icmp .ne 9, 3) := by decide +kernel
theorem dX12_deeper_9 : decode cX12_deeper 9 = .ok (.aload_n 0, 1) := by decide +kernel
theorem dX12_deeper_10 : decode cX12_deeper 10 = .ok (.iconst 2, 1) := by decide +kernel
theorem dX12_deeper_11 : decode cX12_deeper 11 = .ok (.iload_n 1, 1) := by decide +kernel
theorem dX12_deeper_12 : decode cX12_deeper 12 = .ok (.invokevirtual 352, 3) := by decide +kernel
theorem dX12_deeper_15 : decode cX12_deeper 15 = .ok (.aload_n 0, 1) := by decide +kernel
theorem dX12_deeper_16 : decode cX12_deeper 16 = .ok (.dup, 1) := by decide +kernel
theorem dX12_deeper_17 : decode cX12_deeper 17 = .ok (.getfield 365, 3) := by decide +kernel
theorem dX12_deeper_20 : decode cX12_deeper 20 = .ok (.iconst 1, 1) := by decide +kernel
theorem dX12_deeper_21 : decode cX12_deeper 21 = .ok (.iadd, 1) := by decide +kernel
theorem dX12_deeper_22 : decode cX12_deeper 22 = .ok (.putfield 365, 3) := by decide +kernel
theorem dX12_deeper_25 : decode cX12_deeper 25 = .ok (.return_, 1) := by decide +kernel
theorem dX12_sums_0 : decode cX12_sums 0 = .ok (.aload_n 0, 1) := by decide +kernel
theorem dX12_sums_1 : decode cX12_sums 1 = .ok (.invokevirtual 368, 3) := by decide +kernel
theorem dX12_sums_4 : decode cX12_sums 4 = .ok (.iconst 5, 1) := by decide +kernel
theorem dX12_sums_5 : decode cX12_sums 5 = .ok (.if_icmp .eq 23, 3) := by decide +kernel
theorem dX12_sums_8 : decode cX12_sums 8 = .ok (.iload_n 1, 1) := by decide +kernel
theorem dX12_sums_9 : decode cX12_sums 9 = .ok (.ifCond .ne 46, 3) := by decide +kernel
theorem dX12_sums_12 : decode cX12_sums 12 = .ok (.aload_n 0, 1) := by decide +kernel
theorem dX12_sums_13 : decode cX12_sums 13 = .ok (.invokevirtual 368, 3) := by decide +kernel
theorem dX12_sums_16 : decode cX12_sums 16 = .ok (.iconst 3, 1) := by decide +kernel
theorem dX12_sums_17 : decode cX12_sums 17 = .ok (.if_icmp .eq 11, 3) := by decide +kernel
theorem dX12_sums_20 : decode cX12_sums 20 = .ok (.aload_n 0, 1) := by decide +kernel
theorem dX12_sums_21 : decode cX12_sums 21 = .ok (.invokevirtual 368, 3) := by decide +kernel
theorem dX12_sums_24 : decode cX12_sums 24 = .ok (.iconst 4, 1) := by decide +kernel
theorem dX12_sums_25 : decode cX12_sums 25 = .ok (.if_icmp .ne 30, 3) := by decide +kernel
theorem dX12_sums_28 : decode cX12_sums 28 = .ok (.aload_n 0, 1) := by decide +kernel
theorem dX12_sums_29 : decode cX12_sums 29 = .ok (.dup, 1) := by decide +kernel
theorem dX12_sums_30 : decode cX12_sums 30 = .ok (.getfield 362, 3) := by decide +kernel
theorem dX12_sums_33 : decode cX12_sums 33 = .ok (.iconst 1, 1) := by decide +kernel
theorem dX12_sums_34 : decode cX12_sums 34 = .ok (.isub, 1) := by decide +kernel
theorem dX12_sums_35 : decode cX12_sums 35 = .ok (.putfield 362, 3) := by decide +kernel
theorem dX12_sums_38 : decode cX12_sums 38 = .ok (.aload_n 0, 1) := by decide +kernel
theorem dX12_sums_39 : decode cX12_sums 39 = .ok (.aload_n 0, 1) := by decide +kernel
theorem dX12_sums_40 : decode cX12_sums 40 = .ok (.getfield 78, 3) := by decide +kernel
theorem dX12_sums_43 : decode cX12_sums 43 = .ok (.aload_n 0, 1) := by decide +kernel
theorem dX12_sums_44 : decode cX12_sums 44 = .ok (.getfield 362, 3) := by decide +kernel
theorem dX12_sums_47 : decode cX12_sums 47 = .ok (.iaload, 1) := by decide +kernel
theorem dX12_sums_48 : decode cX12_sums 48 = .ok (.iconst 0, 1) := by decide +kernel
theorem dX12_sums_49 : decode cX12_sums 49 = .ok (.invokevirtual 371, 3) := by decide +kernel
theorem dX12_sums_52 : decode cX12_sums 52 = .ok (.goto (-52), 3) := by decide +kernel
theorem dX12_sums_55 : decode cX12_sums 55 = .ok (.return_, 1) := by decide +kernel
theorem dX12_counts_0 : decode cX12_counts 0 = .ok (.aload_n 0, 1) := by decide +kernel
theorem dX12_counts_1 : decode cX12_counts 1 = .ok (.getfield 374, 3) := by decide +kernel
theorem dX12_counts_4 : decode cX12_counts 4 = .ok (.bipush 80, 2) := by decide +kernel
theorem dX12_counts_6 : decode cX12_counts 6 = .ok (.if_icmp .ne 9, 3) := by decide +kernel
theorem dX12_counts_9 : decode cX12_counts 9 = .ok (.aload_n 0, 1) := by decide +kernel
theorem dX12_counts_10 : decode cX12_counts 10 = .ok (.iconst 3, 1) := by decide +kernel
theorem dX12_counts_11 : decode cX12_counts 11 = .ok (.iload_n 1, 1) := by decide +kernel
theorem dX12_counts_12 : decode cX12_counts 12 = .ok (.invokevirtual 352, 3) := by decide +kernel
theorem dX12_counts_15 : decode cX12_counts 15 = .ok (.aload_n 0, 1) := by decide +kernel
theorem dX12_counts_16 : decode cX12_counts 16 = .ok (.dup, 1) := by decide +kernel
theorem dX12_counts_17 : decode cX12_counts 17 = .ok (.getfield 374, 3) := by decide +kernel
theorem dX12_counts_20 : decode cX12_counts 20 = .ok (.iconst 1, 1) := by decide +kernel
theorem dX12_counts_21 : decode cX12_counts 21 = .ok (.iadd, 1) := by decide +kernel
theorem dX12_counts_22 : decode cX12_counts 22 = .ok (.putfield 374, 3) := by decide +kernel
theorem dX12_counts_25 : decode cX12_counts 25 = .ok (.return_, 1) := by decide +kernel
theorem dX12_value_0 : decode cX12_value 0 = .ok (.aload_n 0, 1) := by decide +kernel
theorem dX12_value_1 : decode cX12_value 1 = .ok (.invokevirtual 377, 3) := by decide +kernel
theorem dX12_value_4 : decode cX12_value 4 = .ok (.aload_n 0, 1) := by decide +kernel
theorem dX12_value_5 : decode cX12_value 5 = .ok (.getfield 308, 3) := by decide +kernel
theorem dX12_value_8 : decode cX12_value 8 = .ok (.istore_n 1, 1) := by decide +kernel
theorem dX12_value_9 : decode cX12_value 9 = .ok (.aload_n 0, 1) := by decide +kernel
theorem dX12_value_10 : decode cX12_value 10 = .ok (.invokevirtual 380, 3) := by decide +kernel
theorem dX12_value_13 : decode cX12_value 13 = .ok (.istore_n 2, 1) := by decide +kernel
theorem dX12_value_14 : decode cX12_value 14 = .ok (.iload_n 2, 1) := by decide +kernel
theorem dX12_value_15 : decode cX12_value 15 = .ok (.bipush 40, 2) := by decide +kernel
theorem dX12_value_17 : decode cX12_value 17 = .ok (.if_icmp .ne 31, 3) := by decide +kernel
theorem dX12_value_20 : decode cX12_value 20 = .ok (.aload_n 0, 1) := by decide +kernel
theorem dX12_value_21 : decode cX12_value 21 = .ok (.iload_n 1, 1) := by decide +kernel
theorem dX12_value_22 : decode cX12_value 22 = .ok (.invokevirtual 383, 3) := by decide +kernel
theorem dX12_value_25 : decode cX12_value 25 = .ok (.aload_n 0, 1) := by decide +kernel
theorem dX12_value_26 : decode cX12_value 26 = .ok (.iload_n 1, 1) := by decide +kernel
theorem dX12_value_27 : decode cX12_value 27 = .ok (.invokevirtual 386, 3) := by decide +kernel
theorem dX12_value_30 : decode cX12_value 30 = .ok (.aload_n 0, 1) := by decide +kernel
theorem dX12_value_31 : decode cX12_value 31 = .ok (.bipush 15, 2) := by decide +kernel
theorem dX12_value_33 : decode cX12_value 33 = .ok (.invokevirtual 389, 3) := by decide +kernel
theorem dX12_value_36 : decode cX12_value 36 = .ok (.aload_n 0, 1) := by decide +kernel
theorem dX12_value_37 : decode cX12_value 37 = .ok (.dup, 1) := by decide +kernel
theorem dX12_value_38 : decode cX12_value 38 = .ok (.getfield 308, 3) := by decide +kernel
theorem dX12_value_41 : decode cX12_value 41 = .ok (.iconst 1, 1) := by decide +kernel
theorem dX12_value_42 : decode cX12_value 42 = .ok (.iadd, 1) := by decide +kernel
theorem dX12_value_43 : decode cX12_value 43 = .ok (.putfield 308, 3) := by decide +kernel
theorem dX12_value_46 : decode cX12_value 46 = .ok (.iconst 0, 1) := by decide +kernel
theorem dX12_value_47 : decode cX12_value 47 = .ok (.ireturn, 1) := by decide +kernel
theorem dX12_value_48 : decode cX12_value 48 = .ok (.iload_n 2, 1) := by decide +kernel
theorem dX12_value_49 : decode cX12_value 49 = .ok (.invokestatic 349, 3) := by decide +kernel
theorem dX12_value_52 : decode cX12_value 52 = .ok (.ifCond .eq 21, 3) := by decide +kernel
theorem dX12_value_55 : decode cX12_value 55 = .ok (.aload_n 0, 1) := by decide +kernel
theorem dX12_value_56 : decode cX12_value 56 = .ok (.invokevirtual 392, 3) := by decide +kernel
theorem dX12_value_59 : decode cX12_value 59 = .ok (.istore_n 3, 1) := by decide +kernel
theorem dX12_value_60 : decode cX12_value 60 = .ok (.aload_n 0, 1) := by decide +kernel
theorem dX12_value_61 : decode cX12_value 61 = .ok (.iload_n 1, 1) := by decide +kernel
theorem dX12_value_62 : decode cX12_value 62 = .ok (.invokevirtual 386, 3) := by decide +kernel
theorem dX12_value_65 : decode cX12_value 65 = .ok (.aload_n 0, 1) := by decide +kernel
theorem dX12_value_66 : decode cX12_value 66 = .ok (.iconst 0, 1) := by decide +kernel
theorem dX12_value_67 : decode cX12_value 67 = .ok (.iload_n 3, 1) := by decide +kernel
theorem dX12_value_68 : decode cX12_value 68 = .ok (.invokevirtual 371, 3) := by decide +kernel
theorem dX12_value_71 : decode cX12_value 71 = .ok (.iconst 1, 1) := by decide +kernel
theorem dX12_value_72 : decode cX12_value 72 = .ok (.ireturn, 1) := by decide +kernel
theorem dX12_value_73 : decode cX12_value 73 = .ok (.aload_n 0, 1) := by decide +kernel
theorem dX12_value_74 : decode cX12_value 74 = .ok (.invokevirtual 395, 3) := by decide +kernel
theorem dX12_value_77 : decode cX12_value 77 = .ok (.istore_n 3, 1) := by decide +kernel
theorem dX12_value_78 : decode cX12_value 78 = .ok (.iconst 0, 1) := by decide +kernel
theorem dX12_value_79 : decode cX12_value 79 = .ok (.istore 4, 2) := by decide +kernel
theorem dX12_value_81 : decode cX12_value 81 = .ok (.iload 4, 2) := by decide +kernel
theorem dX12_value_83 : decode cX12_value 83 = .ok (.bipush 14, 2) := by decide +kernel
theorem dX12_value_85 : decode cX12_value 85 = .ok (.if_icmp .ge 22, 3) := by decide +kernel
theorem dX12_value_88 : decode cX12_value 88 = .ok (.aload_n 0, 1) := by decide +kernel
theorem dX12_value_89 : decode cX12_value 89 = .ok (.iload 4, 2) := by decide +kernel
theorem dX12_value_91 : decode cX12_value 91 = .ok (.invokestatic 398, 3) := by decide +kernel
theorem dX12_value_94 : decode cX12_value 94 = .ok (.iload_n 3, 1) := by decide +kernel
theorem dX12_value_95 : decode cX12_value 95 = .ok (.invokevirtual 402, 3) := by decide +kernel
theorem dX12_value_98 : decode cX12_value 98 = .ok (.ifCond .ne 9, 3) := by decide +kernel
theorem dX12_value_101 : decode cX12_value 101 = .ok (.iinc 4 1, 3) := by decide +kernel
theorem dX12_value_104 : decode cX12_value 104 = .ok (.goto (-23), 3) := by decide +kernel
theorem dX12_value_107 : decode cX12_value 107 = .ok (.iload 4, 2) := by decide +kernel
theorem dX12_value_109 : decode cX12_value 109 = .ok (.bipush 14, 2) := by decide +kernel
theorem dX12_value_111 : decode cX12_value 111 = .ok (.if_icmp .ne 11, 3) := by decide +kernel
theorem dX12_value_114 : decode cX12_value 114 = .ok (.aload_n 0, 1) := by decide +kernel
theorem dX12_value_115 : decode cX12_value 115 = .ok (.iconst 0, 1) := by decide +kernel
theorem dX12_value_116 : decode cX12_value 116 = .ok (.iload_n 1, 1) := by decide +kernel
theorem dX12_value_117 : decode cX12_value 117 = .ok (.invokevirtual 352, 3) := by decide +kernel
theorem dX12_value_120 : decode cX12_value 120 = .ok (.iconst 1, 1) := by decide +kernel
theorem dX12_value_121 : decode cX12_value 121 = .ok (.ireturn, 1) := by decide +kernel
theorem dX12_value_122 : decode cX12_value 122 = .ok (.aload_n 0, 1) := by decide +kernel
theorem dX12_value_123 : decode cX12_value 123 = .ok (.iload_n 1, 1) := by decide +kernel
theorem dX12_value_124 : decode cX12_value 124 = .ok (.invokevirtual 386, 3) := by decide +kernel
theorem dX12_value_127 : decode cX12_value 127 = .ok (.aload_n 0, 1) := by decide +kernel
theorem dX12_value_128 : decode cX12_value 128 = .ok (.iload_n 3, 1) := by decide +kernel
theorem dX12_value_129 : decode cX12_value 129 = .ok (.putfield 308, 3) := by decide +kernel
theorem dX12_value_132 : decode cX12_value 132 = .ok (.aload_n 0, 1) := by decide +kernel
theorem dX12_value_133 : decode cX12_value 133 = .ok (.iconst 1, 1) := by decide +kernel
theorem dX12_value_134 : decode cX12_value 134 = .ok (.iload 4, 2) := by decide +kernel
theorem dX12_value_136 : decode cX12_value 136 = .ok (.invokevirtual 371, 3) := by decide +kernel
theorem dX12_value_139 : decode cX12_value 139 = .ok (.iconst 1, 1) := by decide +kernel
theorem dX12_value_140 : decode cX12_value 140 = .ok (.ireturn, 1) := by decide +kernel
theorem dX12_compares_0 : decode cX12_compares 0 = .ok (.aload_n 0, 1) := by decide +kernel
theorem dX12_compares_1 : decode cX12_compares 1 = .ok (.invokevirtual 380, 3) := by decide +kernel
theorem dX12_compares_4 : decode cX12_compares 4 = .ok (.istore_n 1, 1) := by decide +kernel
theorem dX12_compares_5 : decode cX12_compares 5 = .ok (.aload_n 0, 1) := by decide +kernel
theorem dX12_compares_6 : decode cX12_compares 6 = .ok (.getfield 308, 3) := by decide +kernel
theorem dX12_compares_9 : decode cX12_compares 9 = .ok (.iconst 1, 1) := by decide +kernel
theorem dX12_compares_10 : decode cX12_compares 10 = .ok (.iadd, 1) := by decide +kernel
theorem dX12_compares_11 : decode cX12_compares 11 = .ok (.aload_n 0, 1) := by decide +kernel
theorem dX12_compares_12 : decode cX12_compares 12 = .ok (.getfield 298, 3) := by decide +kernel
theorem dX12_compares_15 : decode cX12_compares 15 = .ok (.if_icmp .ge 23, 3) := by decide +kernel
theorem dX12_compares_18 : decode cX12_compares 18 = .ok (.aload_n 0, 1) := by decide +kernel
theorem dX12_compares_19 : decode cX12_compares 19 = .ok (.getfield 47, 3) := by decide +kernel
theorem dX12_compares_22 : decode cX12_compares 22 = .ok (.aload_n 0, 1) := by decide +kernel
theorem dX12_compares_23 : decode cX12_compares 23 = .ok (.getfield 308, 3) := by decide +kernel
theorem dX12_compares_26 : decode cX12_compares 26 = .ok (.iconst 1, 1) := by decide +kernel
theorem dX12_compares_27 : decode cX12_compares 27 = .ok (.iadd, 1) := by decide +kernel
theorem dX12_compares_28 : decode cX12_compares 28 = .ok (.baload, 1) := by decide +kernel
theorem dX12_compares_29 : decode cX12_compares 29 = .ok (.bipush 61, 2) := by decide +kernel
theorem dX12_compares_31 : decode cX12_compares 31 = .ok (.if_icmp .ne 7, 3) := by decide +kernel
theorem dX12_compares_34 : decode cX12_compares 34 = .ok (.iconst 1, 1) := by decide +kernel
theorem dX12_compares_35 : decode cX12_compares 35 = .ok (.goto 4, 3) := by decide +kernel
theorem dX12_compares_38 : decode cX12_compares 38 = .ok (.iconst 0, 1) := by decide +kernel
theorem dX12_compares_39 : decode cX12_compares 39 = .ok (.istore_n 2, 1) := by decide +kernel
theorem dX12_compares_40 : decode cX12_compares 40 = .ok (.iload_n 1, 1) := by decide +kernel
theorem dX12_compares_41 : decode cX12_compares 41 = .ok (.bipush 61, 2) := by decide +kernel
theorem dX12_compares_43 : decode cX12_compares 43 = .ok (.if_icmp .ne 16, 3) := by decide +kernel
theorem dX12_compares_46 : decode cX12_compares 46 = .ok (.aload_n 0, 1) := by decide +kernel
theorem dX12_compares_47 : decode cX12_compares 47 = .ok (.dup, 1) := by decide +kernel
theorem dX12_compares_48 : decode cX12_compares 48 = .ok (.getfield 308, 3) := by decide +kernel
theorem dX12_compares_51 : decode cX12_compares 51 = .ok (.iconst 1, 1) := by decide +kernel
theorem dX12_compares_52 : decode cX12_compares 52 = .ok (.iadd, 1) := by decide +kernel
theorem dX12_compares_53 : decode cX12_compares 53 = .ok (.putfield 308, 3) := by decide +kernel
theorem dX12_compares_56 : decode cX12_compares 56 = .ok (.bipush 9, 2) := by decide +kernel
theorem dX12_compares_58 : decode cX12_compares 58 = .ok (.ireturn, 1) := by decide +kernel
theorem dX12_compares_59 : decode cX12_compares 59 = .ok (.iload_n 1, 1) := by decide +kernel
theorem dX12_compares_60 : decode cX12_compares 60 = .ok (.bipush 60, 2) := by decide +kernel
theorem dX12_compares_62 : decode cX12_compares 62 = .ok (.if_icmp .eq 9, 3) := by decide +kernel
theorem dX12_compares_65 : decode cX12_compares 65 = .ok (.iload_n 1, 1) := by decide +kernel
theorem dX12_compares_66 : decode cX12_compares 66 = .ok (.bipush 62, 2) := by decide +kernel
theorem dX12_compares_68 : decode cX12_compares 68 = .ok (.if_icmp .ne 53, 3) := by decide +kernel
theorem dX12_compares_71 : decode cX12_compares 71 = .ok (.aload_n 0, 1) := by decide +kernel
theorem dX12_compares_72 : decode cX12_compares 72 = .ok (.dup, 1) := by decide +kernel
theorem dX12_compares_73 : decode cX12_compares 73 = .ok (.getfield 308, 3) := by decide +kernel
theorem dX12_compares_76 : decode cX12_compares 76 = .ok (.iload_n 2, 1) := by decide +kernel
theorem dX12_compares_77 : decode cX12_compares 77 = .ok (.ifCond .eq 7, 3) := by decide +kernel
theorem dX12_compares_80 : decode cX12_compares 80 = .ok (.iconst 2, 1) := by decide +kernel
theorem dX12_compares_81 : decode cX12_compares 81 = .ok (.goto 4, 3) := by decide +kernel
theorem dX12_compares_84 : decode cX12_compares 84 = .ok (.iconst 1, 1) := by decide +kernel
theorem dX12_compares_85 : decode cX12_compares 85 = .ok (.iadd, 1) := by decide +kernel
theorem dX12_compares_86 : decode cX12_compares 86 = .ok (.putfield 308, 3) := by decide +kernel
theorem dX12_compares_89 : decode cX12_compares 89 = .ok (.iload_n 1, 1) := by decide +kernel
theorem dX12_compares_90 : decode cX12_compares 90 = .ok (.bipush 60, 2) := by decide +kernel
theorem dX12_compares_92 : decode cX12_compares 92 = .ok (.if_icmp .ne 17, 3) := by decide +kernel
theorem dX12_compares_95 : decode cX12_compares 95 = .ok (.iload_n 2, 1) := by decide +kernel
theorem dX12_compares_96 : decode cX12_compares 96 = .ok (.ifCond .eq 8, 3) := by decide +kernel
theorem dX12_compares_99 : decode cX12_compares 99 = .ok (.bipush 8, 2) := by decide +kernel
theorem dX12_compares_101 : decode cX12_compares 101 = .ok (.goto 19, 3) := by decide +kernel
theorem dX12_compares_104 : decode cX12_compares 104 = .ok (.bipush 7, 2) := by decide +kernel
theorem dX12_compares_106 : decode cX12_compares 106 = .ok (.goto 14, 3) := by decide +kernel
theorem dX12_compares_109 : decode cX12_compares 109 = .ok (.iload_n 2, 1) := by decide +kernel
theorem dX12_compares_110 : decode cX12_compares 110 = .ok (.ifCond .eq 8, 3) := by decide +kernel
theorem dX12_compares_113 : decode cX12_compares 113 = .ok (.bipush 10, 2) := by decide +kernel
theorem dX12_compares_115 : decode cX12_compares 115 = .ok (.goto 5, 3) := by decide +kernel
theorem dX12_compares_118 : decode cX12_compares 118 = .ok (.bipush 11, 2) := by decide +kernel
theorem dX12_compares_120 : decode cX12_compares 120 = .ok (.ireturn, 1) := by decide +kernel
theorem dX12_compares_121 : decode cX12_compares 121 = .ok (.iconst (-1), 1) := by decide +kernel
theorem dX12_compares_122 : decode cX12_compares 122 = .ok (.ireturn, 1) := by decide +kernel
theorem dX12_wantsFact_0 : decode cX12_wantsFact 0 = .ok (.aload_n 0, 1) := by decide +kernel
theorem dX12_wantsFact_1 : decode cX12_wantsFact 1 = .ok (.invokevirtual 377, 3) := by decide +kernel
theorem dX12_wantsFact_4 : decode cX12_wantsFact 4 = .ok (.aload_n 0, 1) := by decide +kernel
theorem dX12_wantsFact_5 : decode cX12_wantsFact 5 = .ok (.invokevirtual 395, 3) := by decide +kernel
theorem dX12_wantsFact_8 : decode cX12_wantsFact 8 = .ok (.istore_n 1, 1) := by decide +kernel
theorem dX12_wantsFact_9 : decode cX12_wantsFact 9 = .ok (.aload_n 0, 1) := by decide +kernel
theorem dX12_wantsFact_10 : decode cX12_wantsFact 10 = .ok (.ldc_w 406, 3) := by decide +kernel
theorem dX12_wantsFact_13 : decode cX12_wantsFact 13 = .ok (.iload_n 1, 1) := by decide +kernel
theorem dX12_wantsFact_14 : decode cX12_wantsFact 14 = .ok (.invokevirtual 402, 3) := by decide +kernel
theorem dX12_wantsFact_17 : decode cX12_wantsFact 17 = .ok (.istore_n 2, 1) := by decide +kernel
theorem dX12_wantsFact_18 : decode cX12_wantsFact 18 = .ok (.iload_n 2, 1) := by decide +kernel
theorem dX12_wantsFact_19 : decode cX12_wantsFact 19 = .ok (.ifCond .ne 12, 3) := by decide +kernel
theorem dX12_wantsFact_22 : decode cX12_wantsFact 22 = .ok (.aload_n 0, 1) := by decide +kernel
theorem dX12_wantsFact_23 : decode cX12_wantsFact 23 = .ok (.invokevirtual 380, 3) := by decide +kernel
theorem dX12_wantsFact_26 : decode cX12_wantsFact 26 = .ok (.bipush 91, 2) := by decide +kernel
theorem dX12_wantsFact_28 : decode cX12_wantsFact 28 = .ok (.if_icmp .ne 46, 3) := by decide +kernel
theorem dX12_wantsFact_31 : decode cX12_wantsFact 31 = .ok (.aload_n 0, 1) := by decide +kernel
theorem dX12_wantsFact_32 : decode cX12_wantsFact 32 = .ok (.aload_n 0, 1) := by decide +kernel
theorem dX12_wantsFact_33 : decode cX12_wantsFact 33 = .ok (.getfield 308, 3) := by decide +kernel
theorem dX12_wantsFact_36 : decode cX12_wantsFact 36 = .ok (.invokevirtual 383, 3) := by decide +kernel
theorem dX12_wantsFact_39 : decode cX12_wantsFact 39 = .ok (.aload_n 0, 1) := by decide +kernel
theorem dX12_wantsFact_40 : decode cX12_wantsFact 40 = .ok (.iload_n 2, 1) := by decide +kernel
theorem dX12_wantsFact_41 : decode cX12_wantsFact 41 = .ok (.ifCond .eq 8, 3) := by decide +kernel
theorem dX12_wantsFact_44 : decode cX12_wantsFact 44 = .ok (.bipush 14, 2) := by decide +kernel
theorem dX12_wantsFact_46 : decode cX12_wantsFact 46 = .ok (.goto 5, 3) := by decide +kernel
theorem dX12_wantsFact_49 : decode cX12_wantsFact 49 = .ok (.bipush 16, 2) := by decide +kernel
theorem dX12_wantsFact_51 : decode cX12_wantsFact 51 = .ok (.invokevirtual 389, 3) := by decide +kernel
theorem dX12_wantsFact_54 : decode cX12_wantsFact 54 = .ok (.aload_n 0, 1) := by decide +kernel
theorem dX12_wantsFact_55 : decode cX12_wantsFact 55 = .ok (.iload_n 2, 1) := by decide +kernel
theorem dX12_wantsFact_56 : decode cX12_wantsFact 56 = .ok (.ifCond .eq 7, 3) := by decide +kernel
theorem dX12_wantsFact_59 : decode cX12_wantsFact 59 = .ok (.iload_n 1, 1) := by decide +kernel
theorem dX12_wantsFact_60 : decode cX12_wantsFact 60 = .ok (.goto 9, 3) := by decide +kernel
theorem dX12_wantsFact_63 : decode cX12_wantsFact 63 = .ok (.aload_n 0, 1) := by decide +kernel
theorem dX12_wantsFact_64 : decode cX12_wantsFact 64 = .ok (.getfield 308, 3) := by decide +kernel
theorem dX12_wantsFact_67 : decode cX12_wantsFact 67 = .ok (.iconst 1, 1) := by decide +kernel
theorem dX12_wantsFact_68 : decode cX12_wantsFact 68 = .ok (.iadd, 1) := by decide +kernel
theorem dX12_wantsFact_69 : decode cX12_wantsFact 69 = .ok (.putfield 308, 3) := by decide +kernel
theorem dX12_wantsFact_72 : decode cX12_wantsFact 72 = .ok (.iconst 0, 1) := by decide +kernel
theorem dX12_wantsFact_73 : decode cX12_wantsFact 73 = .ok (.ireturn, 1) := by decide +kernel
theorem dX12_wantsFact_74 : decode cX12_wantsFact 74 = .ok (.iconst 1, 1) := by decide +kernel
theorem dX12_wantsFact_75 : decode cX12_wantsFact 75 = .ok (.ireturn, 1) := by decide +kernel
theorem dX12_hasValue_0 : decode cX12_hasValue 0 = .ok (.aload_n 0, 1) := by decide +kernel
theorem dX12_hasValue_1 : decode cX12_hasValue 1 = .ok (.invokevirtual 377, 3) := by decide +kernel
theorem dX12_hasValue_4 : decode cX12_hasValue 4 = .ok (.aload_n 0, 1) := by decide +kernel
theorem dX12_hasValue_5 : decode cX12_hasValue 5 = .ok (.invokevirtual 380, 3) := by decide +kernel
theorem dX12_hasValue_8 : decode cX12_hasValue 8 = .ok (.istore_n 1, 1) := by decide +kernel
theorem dX12_hasValue_9 : decode cX12_hasValue 9 = .ok (.iload_n 1, 1) := by decide +kernel
theorem dX12_hasValue_10 : decode cX12_hasValue 10 = .ok (.bipush 42, 2) := by decide +kernel
theorem dX12_hasValue_12 : decode cX12_hasValue 12 = .ok (.if_icmp .eq 15, 3) := by decide +kernel
theorem dX12_hasValue_15 : decode cX12_hasValue 15 = .ok (.iload_n 1, 1) := by decide +kernel
theorem dX12_hasValue_16 : decode cX12_hasValue 16 = .ok (.bipush 43, 2) := by decide +kernel
theorem dX12_hasValue_18 : decode cX12_hasValue 18 = .ok (.if_icmp .eq 9, 3) := by decide +kernel
theorem dX12_hasValue_21 : decode cX12_hasValue 21 = .ok (.iload_n 1, 1) := by decide +kernel
theorem dX12_hasValue_22 : decode cX12_hasValue 22 = .ok (.bipush 45, 2) := by decide +kernel
theorem dX12_hasValue_24 : decode cX12_hasValue 24 = .ok (.if_icmp .ne 55, 3) := by decide +kernel
theorem dX12_hasValue_27 : decode cX12_hasValue 27 = .ok (.aload_n 0, 1) := by decide +kernel
theorem dX12_hasValue_28 : decode cX12_hasValue 28 = .ok (.iload_n 1, 1) := by decide +kernel
theorem dX12_hasValue_29 : decode cX12_hasValue 29 = .ok (.bipush 42, 2) := by decide +kernel
theorem dX12_hasValue_31 : decode cX12_hasValue 31 = .ok (.if_icmp .ne 7, 3) := by decide +kernel
theorem dX12_hasValue_34 : decode cX12_hasValue 34 = .ok (.iconst 1, 1) := by decide +kernel
theorem dX12_hasValue_35 : decode cX12_hasValue 35 = .ok (.goto 4, 3) := by decide +kernel
theorem dX12_hasValue_38 : decode cX12_hasValue 38 = .ok (.iconst 0, 1) := by decide +kernel
theorem dX12_hasValue_39 : decode cX12_hasValue 39 = .ok (.invokevirtual 408, 3) := by decide +kernel
theorem dX12_hasValue_42 : decode cX12_hasValue 42 = .ok (.aload_n 0, 1) := by decide +kernel
theorem dX12_hasValue_43 : decode cX12_hasValue 43 = .ok (.iload_n 1, 1) := by decide +kernel
theorem dX12_hasValue_44 : decode cX12_hasValue 44 = .ok (.bipush 42, 2) := by decide +kernel
theorem dX12_hasValue_46 : decode cX12_hasValue 46 = .ok (.if_icmp .ne 7, 3) := by decide +kernel
theorem dX12_hasValue_49 : decode cX12_hasValue 49 = .ok (.iconst 5, 1) := by decide +kernel
theorem dX12_hasValue_50 : decode cX12_hasValue 50 = .ok (.goto 14, 3) := by decide +kernel
theorem dX12_hasValue_53 : decode cX12_hasValue 53 = .ok (.iload_n 1, 1) := by decide +kernel
theorem dX12_hasValue_54 : decode cX12_hasValue 54 = .ok (.bipush 43, 2) := by decide +kernel
theorem dX12_hasValue_56 : decode cX12_hasValue 56 = .ok (.if_icmp .ne 7, 3) := by decide +kernel
theorem dX12_hasValue_59 : decode cX12_hasValue 59 = .ok (.iconst 3, 1) := by decide +kernel
theorem dX12_hasValue_60 : decode cX12_hasValue 60 = .ok (.goto 4, 3) := by decide +kernel
theorem dX12_hasValue_63 : decode cX12_hasValue 63 = .ok (.iconst 4, 1) := by decide +kernel
theorem dX12_hasValue_64 : decode cX12_hasValue 64 = .ok (.invokevirtual 389, 3) := by decide +kernel
theorem dX12_hasValue_67 : decode cX12_hasValue 67 = .ok (.aload_n 0, 1) := by decide +kernel
theorem dX12_hasValue_68 : decode cX12_hasValue 68 = .ok (.dup, 1) := by decide +kernel
theorem dX12_hasValue_69 : decode cX12_hasValue 69 = .ok (.getfield 308, 3) := by decide +kernel
theorem dX12_hasValue_72 : decode cX12_hasValue 72 = .ok (.iconst 1, 1) := by decide +kernel
theorem dX12_hasValue_73 : decode cX12_hasValue 73 = .ok (.iadd, 1) := by decide +kernel
theorem dX12_hasValue_74 : decode cX12_hasValue 74 = .ok (.putfield 308, 3) := by decide +kernel
theorem dX12_hasValue_77 : decode cX12_hasValue 77 = .ok (.iconst 1, 1) := by decide +kernel
theorem dX12_hasValue_78 : decode cX12_hasValue 78 = .ok (.ireturn, 1) := by decide +kernel
theorem dX12_hasValue_79 : decode cX12_hasValue 79 = .ok (.aload_n 0, 1) := by decide +kernel
theorem dX12_hasValue_80 : decode cX12_hasValue 80 = .ok (.iconst 0, 1) := by decide +kernel
theorem dX12_hasValue_81 : decode cX12_hasValue 81 = .ok (.invokevirtual 408, 3) := by decide +kernel
theorem dX12_hasValue_84 : decode cX12_hasValue 84 = .ok (.iload_n 1, 1) := by decide +kernel
theorem dX12_hasValue_85 : decode cX12_hasValue 85 = .ok (.bipush 41, 2) := by decide +kernel
theorem dX12_hasValue_87 : decode cX12_hasValue 87 = .ok (.if_icmp .ne 44, 3) := by decide +kernel
theorem dX12_hasValue_90 : decode cX12_hasValue 90 = .ok (.aload_n 0, 1) := by decide +kernel
theorem dX12_hasValue_91 : decode cX12_hasValue 91 = .ok (.invokevirtual 368, 3) := by decide +kernel
theorem dX12_hasValue_94 : decode cX12_hasValue 94 = .ok (.bipush 15, 2) := by decide +kernel
theorem dX12_hasValue_96 : decode cX12_hasValue 96 = .ok (.if_icmp .ne 35, 3) := by decide +kernel
theorem dX12_hasValue_99 : decode cX12_hasValue 99 = .ok (.aload_n 0, 1) := by decide +kernel
theorem dX12_hasValue_100 : decode cX12_hasValue 100 = .ok (.dup, 1) := by decide +kernel
theorem dX12_hasValue_101 : decode cX12_hasValue 101 = .ok (.getfield 362, 3) := by decide +kernel
theorem dX12_hasValue_104 : decode cX12_hasValue 104 = .ok (.iconst 1, 1) := by decide +kernel
theorem dX12_hasValue_105 : decode cX12_hasValue 105 = .ok (.isub, 1) := by decide +kernel
theorem dX12_hasValue_106 : decode cX12_hasValue 106 = .ok (.putfield 362, 3) := by decide +kernel
theorem dX12_hasValue_109 : decode cX12_hasValue 109 = .ok (.aload_n 0, 1) := by decide +kernel
theorem dX12_hasValue_110 : decode cX12_hasValue 110 = .ok (.dup, 1) := by decide +kernel
theorem dX12_hasValue_111 : decode cX12_hasValue 111 = .ok (.getfield 365, 3) := by decide +kernel
theorem dX12_hasValue_114 : decode cX12_hasValue 114 = .ok (.iconst 1, 1) := by decide +kernel
theorem dX12_hasValue_115 : decode cX12_hasValue 115 = .ok (.isub, 1) := by decide +kernel
theorem dX12_hasValue_116 : decode cX12_hasValue 116 = .ok (.putfield 365, 3) := by decide +kernel
theorem dX12_hasValue_119 : decode cX12_hasValue 119 = .ok (.aload_n 0, 1) := by decide +kernel
theorem dX12_hasValue_120 : decode cX12_hasValue 120 = .ok (.dup, 1) := by decide +kernel
theorem dX12_hasValue_121 : decode cX12_hasValue 121 = .ok (.getfield 308, 3) := by decide +kernel
theorem dX12_hasValue_124 : decode cX12_hasValue 124 = .ok (.iconst 1, 1) := by decide +kernel
theorem dX12_hasValue_125 : decode cX12_hasValue 125 = .ok (.iadd, 1) := by decide +kernel
theorem dX12_hasValue_126 : decode cX12_hasValue 126 = .ok (.putfield 308, 3) := by decide +kernel
theorem dX12_hasValue_129 : decode cX12_hasValue 129 = .ok (.iconst 2, 1) := by decide +kernel
theorem dX12_hasValue_130 : decode cX12_hasValue 130 = .ok (.ireturn, 1) := by decide +kernel
theorem dX12_hasValue_131 : decode cX12_hasValue 131 = .ok (.aload_n 0, 1) := by decide +kernel
theorem dX12_hasValue_132 : decode cX12_hasValue 132 = .ok (.getfield 308, 3) := by decide +kernel
theorem dX12_hasValue_135 : decode cX12_hasValue 135 = .ok (.istore_n 2, 1) := by decide +kernel
theorem dX12_hasValue_136 : decode cX12_hasValue 136 = .ok (.aload_n 0, 1) := by decide +kernel
theorem dX12_hasValue_137 : decode cX12_hasValue 137 = .ok (.invokevirtual 368, 3) := by decide +kernel
theorem dX12_hasValue_140 : decode cX12_hasValue 140 = .ok (.bipush 15, 2) := by decide +kernel
theorem dX12_hasValue_142 : decode cX12_hasValue 142 = .ok (.if_icmp .ne 11, 3) := by decide +kernel
theorem dX12_hasValue_145 : decode cX12_hasValue 145 = .ok (.aload_n 0, 1) := by decide +kernel
theorem dX12_hasValue_146 : decode cX12_hasValue 146 = .ok (.iconst 0, 1) := by decide +kernel
theorem dX12_hasValue_147 : decode cX12_hasValue 147 = .ok (.iload_n 2, 1) := by decide +kernel
theorem dX12_hasValue_148 : decode cX12_hasValue 148 = .ok (.invokevirtual 352, 3) := by decide +kernel
theorem dX12_hasValue_151 : decode cX12_hasValue 151 = .ok (.iconst 4, 1) := by decide +kernel
theorem dX12_hasValue_152 : decode cX12_hasValue 152 = .ok (.ireturn, 1) := by decide +kernel
theorem dX12_hasValue_153 : decode cX12_hasValue 153 = .ok (.aload_n 0, 1) := by decide +kernel
theorem dX12_hasValue_154 : decode cX12_hasValue 154 = .ok (.invokevirtual 368, 3) := by decide +kernel
theorem dX12_hasValue_157 : decode cX12_hasValue 157 = .ok (.invokestatic 412, 3) := by decide +kernel
theorem dX12_hasValue_160 : decode cX12_hasValue 160 = .ok (.ifCond .ne 34, 3) := by decide +kernel
theorem dX12_hasValue_163 : decode cX12_hasValue 163 = .ok (.aload_n 0, 1) := by decide +kernel
theorem dX12_hasValue_164 : decode cX12_hasValue 164 = .ok (.invokevirtual 415, 3) := by decide +kernel
theorem dX12_hasValue_167 : decode cX12_hasValue 167 = .ok (.istore_n 3, 1) := by decide +kernel
theorem dX12_hasValue_168 : decode cX12_hasValue 168 = .ok (.iload_n 3, 1) := by decide +kernel
theorem dX12_hasValue_169 : decode cX12_hasValue 169 = .ok (.iconst (-1), 1) := by decide +kernel
theorem dX12_hasValue_170 : decode cX12_hasValue 170 = .ok (.if_icmp .ne 12, 3) := by decide +kernel
theorem dX12_hasValue_173 : decode cX12_hasValue 173 = .ok (.aload_n 0, 1) := by decide +kernel
theorem dX12_hasValue_174 : decode cX12_hasValue 174 = .ok (.iconst 0, 1) := by decide +kernel
theorem dX12_hasValue_175 : decode cX12_hasValue 175 = .ok (.iload_n 2, 1) := by decide +kernel
theorem dX12_hasValue_176 : decode cX12_hasValue 176 = .ok (.invokevirtual 352, 3) := by decide +kernel
theorem dX12_hasValue_179 : decode cX12_hasValue 179 = .ok (.goto 13, 3) := by decide +kernel
theorem dX12_hasValue_182 : decode cX12_hasValue 182 = .ok (.aload_n 0, 1) := by decide +kernel
theorem dX12_hasValue_183 : decode cX12_hasValue 183 = .ok (.iload_n 2, 1) := by decide +kernel
theorem dX12_hasValue_184 : decode cX12_hasValue 184 = .ok (.invokevirtual 386, 3) := by decide +kernel
theorem dX12_hasValue_187 : decode cX12_hasValue 187 = .ok (.aload_n 0, 1) := by decide +kernel
theorem dX12_hasValue_188 : decode cX12_hasValue 188 = .ok (.iload_n 3, 1) := by decide +kernel
theorem dX12_hasValue_189 : decode cX12_hasValue 189 = .ok (.invokevirtual 389, 3) := by decide +kernel
theorem dX12_hasValue_192 : decode cX12_hasValue 192 = .ok (.iconst 1, 1) := by decide +kernel
theorem dX12_hasValue_193 : decode cX12_hasValue 193 = .ok (.ireturn, 1) := by decide +kernel
theorem dX12_hasValue_194 : decode cX12_hasValue 194 = .ok (.aload_n 0, 1) := by decide +kernel
theorem dX12_hasValue_195 : decode cX12_hasValue 195 = .ok (.dup, 1) := by decide +kernel
theorem dX12_hasValue_196 : decode cX12_hasValue 196 = .ok (.getfield 362, 3) := by decide +kernel
theorem dX12_hasValue_199 : decode cX12_hasValue 199 = .ok (.iconst 1, 1) := by decide +kernel
theorem dX12_hasValue_200 : decode cX12_hasValue 200 = .ok (.isub, 1) := by decide +kernel
theorem dX12_hasValue_201 : decode cX12_hasValue 201 = .ok (.putfield 362, 3) := by decide +kernel
theorem dX12_hasValue_204 : decode cX12_hasValue 204 = .ok (.aload_n 0, 1) := by decide +kernel
theorem dX12_hasValue_205 : decode cX12_hasValue 205 = .ok (.aload_n 0, 1) := by decide +kernel
theorem dX12_hasValue_206 : decode cX12_hasValue 206 = .ok (.getfield 78, 3) := by decide +kernel
theorem dX12_hasValue_209 : decode cX12_hasValue 209 = .ok (.aload_n 0, 1) := by decide +kernel
theorem dX12_hasValue_210 : decode cX12_hasValue 210 = .ok (.getfield 362, 3) := by decide +kernel
theorem dX12_hasValue_213 : decode cX12_hasValue 213 = .ok (.iaload, 1) := by decide +kernel
theorem dX12_hasValue_214 : decode cX12_hasValue 214 = .ok (.iconst 0, 1) := by decide +kernel
theorem dX12_hasValue_215 : decode cX12_hasValue 215 = .ok (.invokevirtual 371, 3) := by decide +kernel
theorem dX12_hasValue_218 : decode cX12_hasValue 218 = .ok (.iconst 3, 1) := by decide +kernel
theorem dX12_hasValue_219 : decode cX12_hasValue 219 = .ok (.ireturn, 1) := by decide +kernel
theorem dX12_ands_0 : decode cX12_ands 0 = .ok (.aload_n 0, 1) := by decide +kernel
theorem dX12_ands_1 : decode cX12_ands 1 = .ok (.invokevirtual 368, 3) := by decide +kernel
theorem dX12_ands_4 : decode cX12_ands 4 = .ok (.bipush 12, 2) := by decide +kernel
theorem dX12_ands_6 : decode cX12_ands 6 = .ok (.if_icmp .eq 16, 3) := by decide +kernel
theorem dX12_ands_9 : decode cX12_ands 9 = .ok (.iload_n 1, 1) := by decide +kernel
theorem dX12_ands_10 : decode cX12_ands 10 = .ok (.ifCond .eq 39, 3) := by decide +kernel
theorem dX12_ands_13 : decode cX12_ands 13 = .ok (.aload_n 0, 1) := by decide +kernel
theorem dX12_ands_14 : decode cX12_ands 14 = .ok (.invokevirtual 368, 3) := by decide +kernel
theorem dX12_ands_17 : decode cX12_ands 17 = .ok (.bipush 13, 2) := by decide +kernel
theorem dX12_ands_19 : decode cX12_ands 19 = .ok (.if_icmp .ne 30, 3) := by decide +kernel
theorem dX12_ands_22 : decode cX12_ands 22 = .ok (.aload_n 0, 1) := by decide +kernel
theorem dX12_ands_23 : decode cX12_ands 23 = .ok (.dup, 1) := by decide +kernel
theorem dX12_ands_24 : decode cX12_ands 24 = .ok (.getfield 362, 3) := by decide +kernel
theorem dX12_ands_27 : decode cX12_ands 27 = .ok (.iconst 1, 1) := by decide +kernel
theorem dX12_ands_28 : decode cX12_ands 28 = .ok (.isub, 1) := by decide +kernel
theorem dX12_ands_29 : decode cX12_ands 29 = .ok (.putfield 362, 3) := by decide +kernel
theorem dX12_ands_32 : decode cX12_ands 32 = .ok (.aload_n 0, 1) := by decide +kernel
theorem dX12_ands_33 : decode cX12_ands 33 = .ok (.aload_n 0, 1) := by decide +kernel
theorem dX12_ands_34 : decode cX12_ands 34 = .ok (.getfield 78, 3) := by decide +kernel
theorem dX12_ands_37 : decode cX12_ands 37 = .ok (.aload_n 0, 1) := by decide +kernel
theorem dX12_ands_38 : decode cX12_ands 38 = .ok (.getfield 362, 3) := by decide +kernel
theorem dX12_ands_41 : decode cX12_ands 41 = .ok (.iaload, 1) := by decide +kernel
theorem dX12_ands_42 : decode cX12_ands 42 = .ok (.iconst 0, 1) := by decide +kernel
theorem dX12_ands_43 : decode cX12_ands 43 = .ok (.invokevirtual 371, 3) := by decide +kernel
theorem dX12_ands_46 : decode cX12_ands 46 = .ok (.goto (-46), 3) := by decide +kernel
theorem dX12_ands_49 : decode cX12_ands 49 = .ok (.return_, 1) := by decide +kernel
theorem dX12_hasFact_0 : decode cX12_hasFact 0 = .ok (.aload_n 0, 1) := by decide +kernel
theorem dX12_hasFact_1 : decode cX12_hasFact 1 = .ok (.invokevirtual 368, 3) := by decide +kernel
theorem dX12_hasFact_4 : decode cX12_hasFact 4 = .ok (.bipush 14, 2) := by decide +kernel
theorem dX12_hasFact_6 : decode cX12_hasFact 6 = .ok (.if_icmp .ne 33, 3) := by decide +kernel
theorem dX12_hasFact_9 : decode cX12_hasFact 9 = .ok (.aload_n 0, 1) := by decide +kernel
theorem dX12_hasFact_10 : decode cX12_hasFact 10 = .ok (.dup, 1) := by decide +kernel
theorem dX12_hasFact_11 : decode cX12_hasFact 11 = .ok (.getfield 362, 3) := by decide +kernel
theorem dX12_hasFact_14 : decode cX12_hasFact 14 = .ok (.iconst 1, 1) := by decide +kernel
theorem dX12_hasFact_15 : decode cX12_hasFact 15 = .ok (.isub, 1) := by decide +kernel
theorem dX12_hasFact_16 : decode cX12_hasFact 16 = .ok (.putfield 362, 3) := by decide +kernel
theorem dX12_hasFact_19 : decode cX12_hasFact 19 = .ok (.aload_n 0, 1) := by decide +kernel
theorem dX12_hasFact_20 : decode cX12_hasFact 20 = .ok (.dup, 1) := by decide +kernel
theorem dX12_hasFact_21 : decode cX12_hasFact 21 = .ok (.getfield 365, 3) := by decide +kernel
theorem dX12_hasFact_24 : decode cX12_hasFact 24 = .ok (.iconst 1, 1) := by decide +kernel
theorem dX12_hasFact_25 : decode cX12_hasFact 25 = .ok (.isub, 1) := by decide +kernel
theorem dX12_hasFact_26 : decode cX12_hasFact 26 = .ok (.putfield 365, 3) := by decide +kernel
theorem dX12_hasFact_29 : decode cX12_hasFact 29 = .ok (.aload_n 0, 1) := by decide +kernel
theorem dX12_hasFact_30 : decode cX12_hasFact 30 = .ok (.bipush 14, 2) := by decide +kernel
theorem dX12_hasFact_32 : decode cX12_hasFact 32 = .ok (.iconst 0, 1) := by decide +kernel
theorem dX12_hasFact_33 : decode cX12_hasFact 33 = .ok (.invokevirtual 371, 3) := by decide +kernel
theorem dX12_hasFact_36 : decode cX12_hasFact 36 = .ok (.goto (-36), 3) := by decide +kernel
theorem dX12_hasFact_39 : decode cX12_hasFact 39 = .ok (.aload_n 0, 1) := by decide +kernel
theorem dX12_hasFact_40 : decode cX12_hasFact 40 = .ok (.invokevirtual 377, 3) := by decide +kernel
theorem dX12_hasFact_43 : decode cX12_hasFact 43 = .ok (.aload_n 0, 1) := by decide +kernel
theorem dX12_hasFact_44 : decode cX12_hasFact 44 = .ok (.invokevirtual 395, 3) := by decide +kernel
theorem dX12_hasFact_47 : decode cX12_hasFact 47 = .ok (.istore_n 1, 1) := by decide +kernel
theorem dX12_hasFact_48 : decode cX12_hasFact 48 = .ok (.aload_n 0, 1) := by decide +kernel
theorem dX12_hasFact_49 : decode cX12_hasFact 49 = .ok (.ldc_w 418, 3) := by decide +kernel
theorem dX12_hasFact_52 : decode cX12_hasFact 52 = .ok (.iload_n 1, 1) := by decide +kernel
theorem dX12_hasFact_53 : decode cX12_hasFact 53 = .ok (.invokevirtual 402, 3) := by decide +kernel
theorem dX12_hasFact_56 : decode cX12_hasFact 56 = .ok (.istore_n 2, 1) := by decide +kernel
theorem dX12_hasFact_57 : decode cX12_hasFact 57 = .ok (.iload_n 2, 1) := by decide +kernel
theorem dX12_hasFact_58 : decode cX12_hasFact 58 = .ok (.ifCond .ne 14, 3) := by decide +kernel
theorem dX12_hasFact_61 : decode cX12_hasFact 61 = .ok (.aload_n 0, 1) := by decide +kernel
theorem dX12_hasFact_62 : decode cX12_hasFact 62 = .ok (.ldc_w 420, 3) := by decide +kernel
theorem dX12_hasFact_65 : decode cX12_hasFact 65 = .ok (.iload_n 1, 1) := by decide +kernel
theorem dX12_hasFact_66 : decode cX12_hasFact 66 = .ok (.invokevirtual 402, 3) := by decide +kernel
theorem dX12_hasFact_69 : decode cX12_hasFact 69 = .ok (.ifCond .eq 38, 3) := by decide +kernel
theorem dX12_hasFact_72 : decode cX12_hasFact 72 = .ok (.aload_n 0, 1) := by decide +kernel
theorem dX12_hasFact_73 : decode cX12_hasFact 73 = .ok (.iload_n 2, 1) := by decide +kernel
theorem dX12_hasFact_74 : decode cX12_hasFact 74 = .ok (.ifCond .ne 7, 3) := by decide +kernel
theorem dX12_hasFact_77 : decode cX12_hasFact 77 = .ok (.iconst 1, 1) := by decide +kernel
theorem dX12_hasFact_78 : decode cX12_hasFact 78 = .ok (.goto 4, 3) := by decide +kernel
theorem dX12_hasFact_81 : decode cX12_hasFact 81 = .ok (.iconst 0, 1) := by decide +kernel
theorem dX12_hasFact_82 : decode cX12_hasFact 82 = .ok (.invokevirtual 422, 3) := by decide +kernel
theorem dX12_hasFact_85 : decode cX12_hasFact 85 = .ok (.aload_n 0, 1) := by decide +kernel
theorem dX12_hasFact_86 : decode cX12_hasFact 86 = .ok (.iload_n 2, 1) := by decide +kernel
theorem dX12_hasFact_87 : decode cX12_hasFact 87 = .ok (.ifCond .eq 8, 3) := by decide +kernel
theorem dX12_hasFact_90 : decode cX12_hasFact 90 = .ok (.bipush 12, 2) := by decide +kernel
theorem dX12_hasFact_92 : decode cX12_hasFact 92 = .ok (.goto 5, 3) := by decide +kernel
theorem dX12_hasFact_95 : decode cX12_hasFact 95 = .ok (.bipush 13, 2) := by decide +kernel
theorem dX12_hasFact_97 : decode cX12_hasFact 97 = .ok (.invokevirtual 389, 3) := by decide +kernel
theorem dX12_hasFact_100 : decode cX12_hasFact 100 = .ok (.aload_n 0, 1) := by decide +kernel
theorem dX12_hasFact_101 : decode cX12_hasFact 101 = .ok (.iload_n 1, 1) := by decide +kernel
theorem dX12_hasFact_102 : decode cX12_hasFact 102 = .ok (.putfield 308, 3) := by decide +kernel
theorem dX12_hasFact_105 : decode cX12_hasFact 105 = .ok (.iconst 0, 1) := by decide +kernel
theorem dX12_hasFact_106 : decode cX12_hasFact 106 = .ok (.ireturn, 1) := by decide +kernel
theorem dX12_hasFact_107 : decode cX12_hasFact 107 = .ok (.aload_n 0, 1) := by decide +kernel
theorem dX12_hasFact_108 : decode cX12_hasFact 108 = .ok (.iconst 1, 1) := by decide +kernel
theorem dX12_hasFact_109 : decode cX12_hasFact 109 = .ok (.invokevirtual 422, 3) := by decide +kernel
theorem dX12_hasFact_112 : decode cX12_hasFact 112 = .ok (.aload_n 0, 1) := by decide +kernel
theorem dX12_hasFact_113 : decode cX12_hasFact 113 = .ok (.invokevirtual 380, 3) := by decide +kernel
theorem dX12_hasFact_116 : decode cX12_hasFact 116 = .ok (.bipush 93, 2) := by decide +kernel
theorem dX12_hasFact_118 : decode cX12_hasFact 118 = .ok (.if_icmp .ne 44, 3) := by decide +kernel
theorem dX12_hasFact_121 : decode cX12_hasFact 121 = .ok (.aload_n 0, 1) := by decide +kernel
theorem dX12_hasFact_122 : decode cX12_hasFact 122 = .ok (.invokevirtual 368, 3) := by decide +kernel
theorem dX12_hasFact_125 : decode cX12_hasFact 125 = .ok (.bipush 16, 2) := by decide +kernel
theorem dX12_hasFact_127 : decode cX12_hasFact 127 = .ok (.if_icmp .ne 35, 3) := by decide +kernel
theorem dX12_hasFact_130 : decode cX12_hasFact 130 = .ok (.aload_n 0, 1) := by decide +kernel
theorem dX12_hasFact_131 : decode cX12_hasFact 131 = .ok (.dup, 1) := by decide +kernel
theorem dX12_hasFact_132 : decode cX12_hasFact 132 = .ok (.getfield 362, 3) := by decide +kernel
theorem dX12_hasFact_135 : decode cX12_hasFact 135 = .ok (.iconst 1, 1) := by decide +kernel
theorem dX12_hasFact_136 : decode cX12_hasFact 136 = .ok (.isub, 1) := by decide +kernel
theorem dX12_hasFact_137 : decode cX12_hasFact 137 = .ok (.putfield 362, 3) := by decide +kernel
theorem dX12_hasFact_140 : decode cX12_hasFact 140 = .ok (.aload_n 0, 1) := by decide +kernel
theorem dX12_hasFact_141 : decode cX12_hasFact 141 = .ok (.dup, 1) := by decide +kernel
theorem dX12_hasFact_142 : decode cX12_hasFact 142 = .ok (.getfield 365, 3) := by decide +kernel
theorem dX12_hasFact_145 : decode cX12_hasFact 145 = .ok (.iconst 1, 1) := by decide +kernel
theorem dX12_hasFact_146 : decode cX12_hasFact 146 = .ok (.isub, 1) := by decide +kernel
theorem dX12_hasFact_147 : decode cX12_hasFact 147 = .ok (.putfield 365, 3) := by decide +kernel
theorem dX12_hasFact_150 : decode cX12_hasFact 150 = .ok (.aload_n 0, 1) := by decide +kernel
theorem dX12_hasFact_151 : decode cX12_hasFact 151 = .ok (.dup, 1) := by decide +kernel
theorem dX12_hasFact_152 : decode cX12_hasFact 152 = .ok (.getfield 308, 3) := by decide +kernel
theorem dX12_hasFact_155 : decode cX12_hasFact 155 = .ok (.iconst 1, 1) := by decide +kernel
theorem dX12_hasFact_156 : decode cX12_hasFact 156 = .ok (.iadd, 1) := by decide +kernel
theorem dX12_hasFact_157 : decode cX12_hasFact 157 = .ok (.putfield 308, 3) := by decide +kernel
theorem dX12_hasFact_160 : decode cX12_hasFact 160 = .ok (.iconst 3, 1) := by decide +kernel
theorem dX12_hasFact_161 : decode cX12_hasFact 161 = .ok (.ireturn, 1) := by decide +kernel
theorem dX12_hasFact_162 : decode cX12_hasFact 162 = .ok (.aload_n 0, 1) := by decide +kernel
theorem dX12_hasFact_163 : decode cX12_hasFact 163 = .ok (.getfield 362, 3) := by decide +kernel
theorem dX12_hasFact_166 : decode cX12_hasFact 166 = .ok (.ifCond .gt 23, 3) := by decide +kernel
theorem dX12_hasFact_169 : decode cX12_hasFact 169 = .ok (.aload_n 0, 1) := by decide +kernel
theorem dX12_hasFact_170 : decode cX12_hasFact 170 = .ok (.getfield 308, 3) := by decide +kernel
theorem dX12_hasFact_173 : decode cX12_hasFact 173 = .ok (.aload_n 0, 1) := by decide +kernel
theorem dX12_hasFact_174 : decode cX12_hasFact 174 = .ok (.getfield 298, 3) := by decide +kernel
theorem dX12_hasFact_177 : decode cX12_hasFact 177 = .ok (.if_icmp .ge 21, 3) := by decide +kernel
theorem dX12_hasFact_180 : decode cX12_hasFact 180 = .ok (.aload_n 0, 1) := by decide +kernel
theorem dX12_hasFact_181 : decode cX12_hasFact 181 = .ok (.invokevirtual 380, 3) := by decide +kernel
theorem dX12_hasFact_184 : decode cX12_hasFact 184 = .ok (.bipush 59, 2) := by decide +kernel
theorem dX12_hasFact_186 : decode cX12_hasFact 186 = .ok (.if_icmp .eq 12, 3) := by decide +kernel
theorem dX12_hasFact_189 : decode cX12_hasFact 189 = .ok (.aload_n 0, 1) := by decide +kernel
theorem dX12_hasFact_190 : decode cX12_hasFact 190 = .ok (.iconst 0, 1) := by decide +kernel
theorem dX12_hasFact_191 : decode cX12_hasFact 191 = .ok (.aload_n 0, 1) := by decide +kernel
theorem dX12_hasFact_192 : decode cX12_hasFact 192 = .ok (.getfield 308, 3) := by decide +kernel
theorem dX12_hasFact_195 : decode cX12_hasFact 195 = .ok (.invokevirtual 352, 3) := by decide +kernel
theorem dX12_hasFact_198 : decode cX12_hasFact 198 = .ok (.iconst 4, 1) := by decide +kernel
theorem dX12_hasFact_199 : decode cX12_hasFact 199 = .ok (.ireturn, 1) := by decide +kernel
theorem dX12_verb_0 : decode cX12_verb 0 = .ok (.aload_n 0, 1) := by decide +kernel
theorem dX12_verb_1 : decode cX12_verb 1 = .ok (.invokevirtual 377, 3) := by decide +kernel
theorem dX12_verb_4 : decode cX12_verb 4 = .ok (.aload_n 0, 1) := by decide +kernel
theorem dX12_verb_5 : decode cX12_verb 5 = .ok (.invokevirtual 395, 3) := by decide +kernel
theorem dX12_verb_8 : decode cX12_verb 8 = .ok (.istore_n 1, 1) := by decide +kernel
theorem dX12_verb_9 : decode cX12_verb 9 = .ok (.aload_n 0, 1) := by decide +kernel
theorem dX12_verb_10 : decode cX12_verb 10 = .ok (.ldc_w 425, 3) := by decide +kernel
theorem dX12_verb_13 : decode cX12_verb 13 = .ok (.iload_n 1, 1) := by decide +kernel
theorem dX12_verb_14 : decode cX12_verb 14 = .ok (.invokevirtual 402, 3) := by decide +kernel
theorem dX12_verb_17 : decode cX12_verb 17 = .ok (.ifCond .eq 7, 3) := by decide +kernel
theorem dX12_verb_20 : decode cX12_verb 20 = .ok (.iconst 0, 1) := by decide +kernel
theorem dX12_verb_21 : decode cX12_verb 21 = .ok (.goto 35, 3) := by decide +kernel
theorem dX12_verb_24 : decode cX12_verb 24 = .ok (.aload_n 0, 1) := by decide +kernel
theorem dX12_verb_25 : decode cX12_verb 25 = .ok (.ldc_w 427, 3) := by decide +kernel
theorem dX12_verb_28 : decode cX12_verb 28 = .ok (.iload_n 1, 1) := by decide +kernel
theorem dX12_verb_29 : decode cX12_verb 29 = .ok (.invokevirtual 402, 3) := by decide +kernel
theorem dX12_verb_32 : decode cX12_verb 32 = .ok (.ifCond .eq 7, 3) := by decide +kernel
theorem dX12_verb_35 : decode cX12_verb 35 = .ok (.iconst 1, 1) := by decide +kernel
theorem dX12_verb_36 : decode cX12_verb 36 = .ok (.goto 20, 3) := by decide +kernel
theorem dX12_verb_39 : decode cX12_verb 39 = .ok (.aload_n 0, 1) := by decide +kernel
theorem dX12_verb_40 : decode cX12_verb 40 = .ok (.ldc_w 429, 3) := by decide +kernel
theorem dX12_verb_43 : decode cX12_verb 43 = .ok (.iload_n 1, 1) := by decide +kernel
theorem dX12_verb_44 : decode cX12_verb 44 = .ok (.invokevirtual 402, 3) := by decide +kernel
theorem dX12_verb_47 : decode cX12_verb 47 = .ok (.ifCond .eq 8, 3) := by decide +kernel
theorem dX12_verb_50 : decode cX12_verb 50 = .ok (.bipush 10, 2) := by decide +kernel
theorem dX12_verb_52 : decode cX12_verb 52 = .ok (.goto 4, 3) := by decide +kernel
theorem dX12_verb_55 : decode cX12_verb 55 = .ok (.iconst (-1), 1) := by decide +kernel
theorem dX12_verb_56 : decode cX12_verb 56 = .ok (.istore_n 2, 1) := by decide +kernel
theorem dX12_verb_57 : decode cX12_verb 57 = .ok (.iload_n 2, 1) := by decide +kernel
theorem dX12_verb_58 : decode cX12_verb 58 = .ok (.iconst (-1), 1) := by decide +kernel
theorem dX12_verb_59 : decode cX12_verb 59 = .ok (.if_icmp .ne 14, 3) := by decide +kernel
theorem dX12_verb_62 : decode cX12_verb 62 = .ok (.aload_n 0, 1) := by decide +kernel
theorem dX12_verb_63 : decode cX12_verb 63 = .ok (.iconst 0, 1) := by decide +kernel
theorem dX12_verb_64 : decode cX12_verb 64 = .ok (.aload_n 0, 1) := by decide +kernel
theorem dX12_verb_65 : decode cX12_verb 65 = .ok (.getfield 308, 3) := by decide +kernel
theorem dX12_verb_68 : decode cX12_verb 68 = .ok (.invokevirtual 352, 3) := by decide +kernel
theorem dX12_verb_71 : decode cX12_verb 71 = .ok (.iconst (-1), 1) := by decide +kernel
theorem dX12_verb_72 : decode cX12_verb 72 = .ok (.ireturn, 1) := by decide +kernel
theorem dX12_verb_73 : decode cX12_verb 73 = .ok (.aload_n 0, 1) := by decide +kernel
theorem dX12_verb_74 : decode cX12_verb 74 = .ok (.getfield 60, 3) := by decide +kernel
theorem dX12_verb_77 : decode cX12_verb 77 = .ok (.aload_n 0, 1) := by decide +kernel
theorem dX12_verb_78 : decode cX12_verb 78 = .ok (.getfield 356, 3) := by decide +kernel
theorem dX12_verb_81 : decode cX12_verb 81 = .ok (.iaload, 1) := by decide +kernel
theorem dX12_verb_82 : decode cX12_verb 82 = .ok (.bipush 10, 2) := by decide +kernel
theorem dX12_verb_84 : decode cX12_verb 84 = .ok (.if_icmp .ne 14, 3) := by decide +kernel
theorem dX12_verb_87 : decode cX12_verb 87 = .ok (.aload_n 0, 1) := by decide +kernel
theorem dX12_verb_88 : decode cX12_verb 88 = .ok (.iconst 4, 1) := by decide +kernel
theorem dX12_verb_89 : decode cX12_verb 89 = .ok (.aload_n 0, 1) := by decide +kernel
theorem dX12_verb_90 : decode cX12_verb 90 = .ok (.getfield 308, 3) := by decide +kernel
theorem dX12_verb_93 : decode cX12_verb 93 = .ok (.invokevirtual 352, 3) := by decide +kernel
theorem dX12_verb_96 : decode cX12_verb 96 = .ok (.iconst (-1), 1) := by decide +kernel
theorem dX12_verb_97 : decode cX12_verb 97 = .ok (.ireturn, 1) := by decide +kernel
theorem dX12_verb_98 : decode cX12_verb 98 = .ok (.aload_n 0, 1) := by decide +kernel
theorem dX12_verb_99 : decode cX12_verb 99 = .ok (.iload_n 1, 1) := by decide +kernel
theorem dX12_verb_100 : decode cX12_verb 100 = .ok (.putfield 308, 3) := by decide +kernel
theorem dX12_verb_103 : decode cX12_verb 103 = .ok (.iload_n 2, 1) := by decide +kernel
theorem dX12_verb_104 : decode cX12_verb 104 = .ok (.bipush 10, 2) := by decide +kernel
theorem dX12_verb_106 : decode cX12_verb 106 = .ok (.if_icmp .ne 35, 3) := by decide +kernel
theorem dX12_verb_109 : decode cX12_verb 109 = .ok (.aload_n 0, 1) := by decide +kernel
theorem dX12_verb_110 : decode cX12_verb 110 = .ok (.invokevirtual 377, 3) := by decide +kernel
theorem dX12_verb_113 : decode cX12_verb 113 = .ok (.aload_n 0, 1) := by decide +kernel
theorem dX12_verb_114 : decode cX12_verb 114 = .ok (.invokevirtual 380, 3) := by decide +kernel
theorem dX12_verb_117 : decode cX12_verb 117 = .ok (.invokestatic 349, 3) := by decide +kernel
theorem dX12_verb_120 : decode cX12_verb 120 = .ok (.ifCond .ne 14, 3) := by decide +kernel
theorem dX12_verb_123 : decode cX12_verb 123 = .ok (.aload_n 0, 1) := by decide +kernel
theorem dX12_verb_124 : decode cX12_verb 124 = .ok (.iconst 0, 1) := by decide +kernel
theorem dX12_verb_125 : decode cX12_verb 125 = .ok (.aload_n 0, 1) := by decide +kernel
theorem dX12_verb_126 : decode cX12_verb 126 = .ok (.getfield 308, 3) := by decide +kernel
theorem dX12_verb_129 : decode cX12_verb 129 = .ok (.invokevirtual 352, 3) := by decide +kernel
theorem dX12_verb_132 : decode cX12_verb 132 = .ok (.iconst (-1), 1) := by decide +kernel
theorem dX12_verb_133 : decode cX12_verb 133 = .ok (.ireturn, 1) := by decide +kernel
theorem dX12_verb_134 : decode cX12_verb 134 = .ok (.iload_n 2, 1) := by decide +kernel
theorem dX12_verb_135 : decode cX12_verb 135 = .ok (.aload_n 0, 1) := by decide +kernel
theorem dX12_verb_136 : decode cX12_verb 136 = .ok (.invokevirtual 392, 3) := by decide +kernel
theorem dX12_verb_139 : decode cX12_verb 139 = .ok (.iadd, 1) := by decide +kernel
theorem dX12_verb_140 : decode cX12_verb 140 = .ok (.istore_n 2, 1) := by decide +kernel
theorem dX12_verb_141 : decode cX12_verb 141 = .ok (.iload_n 2, 1) := by decide +kernel
theorem dX12_verb_142 : decode cX12_verb 142 = .ok (.ireturn, 1) := by decide +kernel
theorem dX12_clause_0 : decode cX12_clause 0 = .ok (.bipush 10, 2) := by decide +kernel
theorem dX12_clause_2 : decode cX12_clause 2 = .ok (.aload_n 0, 1) := by decide +kernel
theorem dX12_clause_3 : decode cX12_clause 3 = .ok (.getfield 356, 3) := by decide +kernel
theorem dX12_clause_6 : decode cX12_clause 6 = .ok (.imul, 1) := by decide +kernel
theorem dX12_clause_7 : decode cX12_clause 7 = .ok (.aload_n 0, 1) := by decide +kernel
theorem dX12_clause_8 : decode cX12_clause 8 = .ok (.getfield 60, 3) := by decide +kernel
theorem dX12_clause_11 : decode cX12_clause 11 = .ok (.aload_n 0, 1) := by decide +kernel
theorem dX12_clause_12 : decode cX12_clause 12 = .ok (.getfield 356, 3) := by decide +kernel
theorem dX12_clause_15 : decode cX12_clause 15 = .ok (.iaload, 1) := by decide +kernel
theorem dX12_clause_16 : decode cX12_clause 16 = .ok (.iadd, 1) := by decide +kernel
theorem dX12_clause_17 : decode cX12_clause 17 = .ok (.istore_n 1, 1) := by decide +kernel
theorem dX12_clause_18 : decode cX12_clause 18 = .ok (.aload_n 0, 1) := by decide +kernel
theorem dX12_clause_19 : decode cX12_clause 19 = .ok (.invokevirtual 430, 3) := by decide +kernel
theorem dX12_clause_22 : decode cX12_clause 22 = .ok (.istore_n 2, 1) := by decide +kernel
theorem dX12_clause_23 : decode cX12_clause 23 = .ok (.aload_n 0, 1) := by decide +kernel
theorem dX12_clause_24 : decode cX12_clause 24 = .ok (.getfield 305, 3) := by decide +kernel
theorem dX12_clause_27 : decode cX12_clause 27 = .ok (.ifCond .le 4, 3) := by decide +kernel
theorem dX12_clause_30 : decode cX12_clause 30 = .ok (.return_, 1) := by decide +kernel
theorem dX12_clause_31 : decode cX12_clause 31 = .ok (.aload_n 0, 1) := by decide +kernel
theorem dX12_clause_32 : decode cX12_clause 32 = .ok (.invokevirtual 377, 3) := by decide +kernel
theorem dX12_clause_35 : decode cX12_clause 35 = .ok (.aload_n 0, 1) := by decide +kernel
theorem dX12_clause_36 : decode cX12_clause 36 = .ok (.invokevirtual 395, 3) := by decide +kernel
theorem dX12_clause_39 : decode cX12_clause 39 = .ok (.istore_n 3, 1) := by decide +kernel
theorem dX12_clause_40 : decode cX12_clause 40 = .ok (.aload_n 0, 1) := by decide +kernel
theorem dX12_clause_41 : decode cX12_clause 41 = .ok (.ldc_w 433, 3) := by decide +kernel
theorem dX12_clause_44 : decode cX12_clause 44 = .ok (.iload_n 3, 1) := by decide +kernel
theorem dX12_clause_45 : decode cX12_clause 45 = .ok (.invokevirtual 402, 3) := by decide +kernel
theorem dX12_clause_48 : decode cX12_clause 48 = .ok (.ifCond .ne 13, 3) := by decide +kernel
theorem dX12_clause_51 : decode cX12_clause 51 = .ok (.aload_n 0, 1) := by decide +kernel
theorem dX12_clause_52 : decode cX12_clause 52 = .ok (.iconst 0, 1) := by decide +kernel
theorem dX12_clause_53 : decode cX12_clause 53 = .ok (.aload_n 0, 1) := by decide +kernel
theorem dX12_clause_54 : decode cX12_clause 54 = .ok (.getfield 308, 3) := by decide +kernel
theorem dX12_clause_57 : decode cX12_clause 57 = .ok (.invokevirtual 352, 3) := by decide +kernel
theorem dX12_clause_60 : decode cX12_clause 60 = .ok (.return_, 1) := by decide +kernel
theorem dX12_clause_61 : decode cX12_clause 61 = .ok (.aload_n 0, 1) := by decide +kernel
theorem dX12_clause_62 : decode cX12_clause 62 = .ok (.iload_n 3, 1) := by decide +kernel
theorem dX12_clause_63 : decode cX12_clause 63 = .ok (.putfield 308, 3) := by decide +kernel
theorem dX12_clause_66 : decode cX12_clause 66 = .ok (.aload_n 0, 1) := by decide +kernel
theorem dX12_clause_67 : decode cX12_clause 67 = .ok (.getfield 63, 3) := by decide +kernel
theorem dX12_clause_70 : decode cX12_clause 70 = .ok (.iload_n 1, 1) := by decide +kernel
theorem dX12_clause_71 : decode cX12_clause 71 = .ok (.iload_n 2, 1) := by decide +kernel
theorem dX12_clause_72 : decode cX12_clause 72 = .ok (.iastore, 1) := by decide +kernel
theorem dX12_clause_73 : decode cX12_clause 73 = .ok (.aload_n 0, 1) := by decide +kernel
theorem dX12_clause_74 : decode cX12_clause 74 = .ok (.getfield 66, 3) := by decide +kernel
theorem dX12_clause_77 : decode cX12_clause 77 = .ok (.iload_n 1, 1) := by decide +kernel
theorem dX12_clause_78 : decode cX12_clause 78 = .ok (.aload_n 0, 1) := by decide +kernel
theorem dX12_clause_79 : decode cX12_clause 79 = .ok (.getfield 359, 3) := by decide +kernel
theorem dX12_clause_82 : decode cX12_clause 82 = .ok (.iastore, 1) := by decide +kernel
theorem dX12_clause_83 : decode cX12_clause 83 = .ok (.aload_n 0, 1) := by decide +kernel
theorem dX12_clause_84 : decode cX12_clause 84 = .ok (.iconst 0, 1) := by decide +kernel
theorem dX12_clause_85 : decode cX12_clause 85 = .ok (.putfield 362, 3) := by decide +kernel
theorem dX12_clause_88 : decode cX12_clause 88 = .ok (.aload_n 0, 1) := by decide +kernel
theorem dX12_clause_89 : decode cX12_clause 89 = .ok (.iconst 0, 1) := by decide +kernel
theorem dX12_clause_90 : decode cX12_clause 90 = .ok (.putfield 365, 3) := by decide +kernel
theorem dX12_clause_93 : decode cX12_clause 93 = .ok (.iconst 0, 1) := by decide +kernel
theorem dX12_clause_94 : decode cX12_clause 94 = .ok (.istore 4, 2) := by decide +kernel
theorem dX12_clause_96 : decode cX12_clause 96 = .ok (.iload 4, 2) := by decide +kernel
theorem dX12_clause_98 : decode cX12_clause 98 = .ok (.iconst 4, 1) := by decide +kernel
theorem dX12_clause_99 : decode cX12_clause 99 = .ok (.if_icmp .eq 81, 3) := by decide +kernel
theorem dX12_clause_102 : decode cX12_clause 102 = .ok (.aload_n 0, 1) := by decide +kernel
theorem dX12_clause_103 : decode cX12_clause 103 = .ok (.getfield 305, 3) := by decide +kernel
theorem dX12_clause_106 : decode cX12_clause 106 = .ok (.ifCond .ne 74, 3) := by decide +kernel
theorem dX12_clause_109 : decode cX12_clause 109 = .ok (.iload 4, 2) := by decide +kernel
theorem dX12_clause_111 : decode cX12_clause 111 = .ok (.tableswitch 60 0 2 #[25, 34, 51], 25) := by decide +kernel
theorem dX12_clause_136 : decode cX12_clause 136 = .ok (.aload_n 0, 1) := by decide +kernel
theorem dX12_clause_137 : decode cX12_clause 137 = .ok (.invokevirtual 435, 3) := by decide +kernel
theorem dX12_clause_140 : decode cX12_clause 140 = .ok (.istore 4, 2) := by decide +kernel
theorem dX12_clause_142 : decode cX12_clause 142 = .ok (.goto (-46), 3) := by decide +kernel
theorem dX12_clause_145 : decode cX12_clause 145 = .ok (.aload_n 0, 1) := by decide +kernel
theorem dX12_clause_146 : decode cX12_clause 146 = .ok (.invokevirtual 438, 3) := by decide +kernel
theorem dX12_clause_149 : decode cX12_clause 149 = .ok (.ifCond .eq 7, 3) := by decide +kernel
theorem dX12_clause_152 : decode cX12_clause 152 = .ok (.iconst 2, 1) := by decide +kernel
theorem dX12_clause_153 : decode cX12_clause 153 = .ok (.goto 4, 3) := by decide +kernel
theorem dX12_clause_156 : decode cX12_clause 156 = .ok (.iconst 1, 1) := by decide +kernel
theorem dX12_clause_157 : decode cX12_clause 157 = .ok (.istore 4, 2) := by decide +kernel
theorem dX12_clause_159 : decode cX12_clause 159 = .ok (.goto (-63), 3) := by decide +kernel
theorem dX12_clause_162 : decode cX12_clause 162 = .ok (.aload_n 0, 1) := by decide +kernel
theorem dX12_clause_163 : decode cX12_clause 163 = .ok (.invokevirtual 442, 3) := by decide +kernel
theorem dX12_clause_166 : decode cX12_clause 166 = .ok (.istore 4, 2) := by decide +kernel
theorem dX12_clause_168 : decode cX12_clause 168 = .ok (.goto (-72), 3) := by decide +kernel
theorem dX12_clause_171 : decode cX12_clause 171 = .ok (.aload_n 0, 1) := by decide +kernel
theorem dX12_clause_172 : decode cX12_clause 172 = .ok (.invokevirtual 445, 3) := by decide +kernel
theorem dX12_clause_175 : decode cX12_clause 175 = .ok (.istore 4, 2) := by decide +kernel
theorem dX12_clause_177 : decode cX12_clause 177 = .ok (.goto (-81), 3) := by decide +kernel
theorem dX12_clause_180 : decode cX12_clause 180 = .ok (.aload_n 0, 1) := by decide +kernel
theorem dX12_clause_181 : decode cX12_clause 181 = .ok (.getfield 69, 3) := by decide +kernel
theorem dX12_clause_184 : decode cX12_clause 184 = .ok (.iload_n 1, 1) := by decide +kernel
theorem dX12_clause_185 : decode cX12_clause 185 = .ok (.aload_n 0, 1) := by decide +kernel
theorem dX12_clause_186 : decode cX12_clause 186 = .ok (.getfield 359, 3) := by decide +kernel
theorem dX12_clause_189 : decode cX12_clause 189 = .ok (.iastore, 1) := by decide +kernel
theorem dX12_clause_190 : decode cX12_clause 190 = .ok (.aload_n 0, 1) := by decide +kernel
theorem dX12_clause_191 : decode cX12_clause 191 = .ok (.getfield 60, 3) := by decide +kernel
theorem dX12_clause_194 : decode cX12_clause 194 = .ok (.aload_n 0, 1) := by decide +kernel
theorem dX12_clause_195 : decode cX12_clause 195 = .ok (.getfield 356, 3) := by decide +kernel
theorem dX12_clause_198 : decode cX12_clause 198 = .ok (.dup2, 1) := by decide +kernel
theorem dX12_clause_199 : decode cX12_clause 199 = .ok (.iaload, 1) := by decide +kernel
theorem dX12_clause_200 : decode cX12_clause 200 = .ok (.iconst 1, 1) := by decide +kernel
theorem dX12_clause_201 : decode cX12_clause 201 = .ok (.iadd, 1) := by decide +kernel
theorem dX12_clause_202 : decode cX12_clause 202 = .ok (.iastore, 1) := by decide +kernel
theorem dX12_clause_203 : decode cX12_clause 203 = .ok (.return_, 1) := by decide +kernel
theorem dX12_law_0 : decode cX12_law 0 = .ok (.aload_n 0, 1) := by decide +kernel
theorem dX12_law_1 : decode cX12_law 1 = .ok (.getfield 356, 3) := by decide +kernel
theorem dX12_law_4 : decode cX12_law 4 = .ok (.bipush 30, 2) := by decide +kernel
theorem dX12_law_6 : decode cX12_law 6 = .ok (.if_icmp .eq 31, 3) := by decide +kernel
theorem dX12_law_9 : decode cX12_law 9 = .ok (.iload_n 1, 1) := by decide +kernel
theorem dX12_law_10 : decode cX12_law 10 = .ok (.iconst 0, 1) := by decide +kernel
theorem dX12_law_11 : decode cX12_law 11 = .ok (.iconst 2, 1) := by decide +kernel
theorem dX12_law_12 : decode cX12_law 12 = .ok (.invokestatic 269, 3) := by decide +kernel
theorem dX12_law_15 : decode cX12_law 15 = .ok (.ifCond .eq 22, 3) := by decide +kernel
theorem dX12_law_18 : decode cX12_law 18 = .ok (.iload_n 1, 1) := by decide +kernel
theorem dX12_law_19 : decode cX12_law 19 = .ok (.iconst 1, 1) := by decide +kernel
theorem dX12_law_20 : decode cX12_law 20 = .ok (.if_icmp .ne 19, 3) := by decide +kernel
theorem dX12_law_23 : decode cX12_law 23 = .ok (.iload_n 2, 1) := by decide +kernel
theorem dX12_law_24 : decode cX12_law 24 = .ok (.aload_n 0, 1) := by decide +kernel
theorem dX12_law_25 : decode cX12_law 25 = .ok (.getfield 273, 3) := by decide +kernel
theorem dX12_law_28 : decode cX12_law 28 = .ok (.sipush 3999, 3) := by decide +kernel
theorem dX12_law_31 : decode cX12_law 31 = .ok (.invokestatic 269, 3) := by decide +kernel
theorem dX12_law_34 : decode cX12_law 34 = .ok (.ifCond .ne 5, 3) := by decide +kernel
theorem dX12_law_37 : decode cX12_law 37 = .ok (.iconst (-1), 1) := by decide +kernel
theorem dX12_law_38 : decode cX12_law 38 = .ok (.ireturn, 1) := by decide +kernel
theorem dX12_law_39 : decode cX12_law 39 = .ok (.aload_n 0, 1) := by decide +kernel
theorem dX12_law_40 : decode cX12_law 40 = .ok (.iconst 0, 1) := by decide +kernel
theorem dX12_law_41 : decode cX12_law 41 = .ok (.putfield 308, 3) := by decide +kernel
theorem dX12_law_44 : decode cX12_law 44 = .ok (.aload_n 0, 1) := by decide +kernel
theorem dX12_law_45 : decode cX12_law 45 = .ok (.iconst 0, 1) := by decide +kernel
theorem dX12_law_46 : decode cX12_law 46 = .ok (.putfield 305, 3) := by decide +kernel
theorem dX12_law_49 : decode cX12_law 49 = .ok (.aload_n 0, 1) := by decide +kernel
theorem dX12_law_50 : decode cX12_law 50 = .ok (.iconst 0, 1) := by decide +kernel
theorem dX12_law_51 : decode cX12_law 51 = .ok (.putfield 374, 3) := by decide +kernel
theorem dX12_law_54 : decode cX12_law 54 = .ok (.aload_n 0, 1) := by decide +kernel
theorem dX12_law_55 : decode cX12_law 55 = .ok (.iconst 0, 1) := by decide +kernel
theorem dX12_law_56 : decode cX12_law 56 = .ok (.putfield 359, 3) := by decide +kernel
theorem dX12_law_59 : decode cX12_law 59 = .ok (.aload_n 0, 1) := by decide +kernel
theorem dX12_law_60 : decode cX12_law 60 = .ok (.getfield 60, 3) := by decide +kernel
theorem dX12_law_63 : decode cX12_law 63 = .ok (.aload_n 0, 1) := by decide +kernel
theorem dX12_law_64 : decode cX12_law 64 = .ok (.getfield 356, 3) := by decide +kernel
theorem dX12_law_67 : decode cX12_law 67 = .ok (.iconst 0, 1) := by decide +kernel
theorem dX12_law_68 : decode cX12_law 68 = .ok (.iastore, 1) := by decide +kernel
theorem dX12_law_69 : decode cX12_law 69 = .ok (.iconst 1, 1) := by decide +kernel
theorem dX12_law_70 : decode cX12_law 70 = .ok (.istore_n 3, 1) := by decide +kernel
theorem dX12_law_71 : decode cX12_law 71 = .ok (.iload_n 3, 1) := by decide +kernel
theorem dX12_law_72 : decode cX12_law 72 = .ok (.ifCond .eq 51, 3) := by decide +kernel
theorem dX12_law_75 : decode cX12_law 75 = .ok (.aload_n 0, 1) := by decide +kernel
theorem dX12_law_76 : decode cX12_law 76 = .ok (.getfield 305, 3) := by decide +kernel
theorem dX12_law_79 : decode cX12_law 79 = .ok (.ifCond .ne 44, 3) := by decide +kernel
theorem dX12_law_82 : decode cX12_law 82 = .ok (.aload_n 0, 1) := by decide +kernel
theorem dX12_law_83 : decode cX12_law 83 = .ok (.invokevirtual 448, 3) := by decide +kernel
theorem dX12_law_86 : decode cX12_law 86 = .ok (.aload_n 0, 1) := by decide +kernel
theorem dX12_law_87 : decode cX12_law 87 = .ok (.getfield 305, 3) := by decide +kernel
theorem dX12_law_90 : decode cX12_law 90 = .ok (.ifCond .ne 18, 3) := by decide +kernel
theorem dX12_law_93 : decode cX12_law 93 = .ok (.aload_n 0, 1) := by decide +kernel
theorem dX12_law_94 : decode cX12_law 94 = .ok (.getfield 308, 3) := by decide +kernel
theorem dX12_law_97 : decode cX12_law 97 = .ok (.aload_n 0, 1) := by decide +kernel
theorem dX12_law_98 : decode cX12_law 98 = .ok (.getfield 298, 3) := by decide +kernel
theorem dX12_law_101 : decode cX12_law 101 = .ok (.if_icmp .ge 7, 3) := by decide +kernel
theorem dX12_law_104 : decode cX12_law 104 = .ok (.iconst 1, 1) := by decide +kernel
theorem dX12_law_105 : decode cX12_law 105 = .ok (.goto 4, 3) := by decide +kernel
theorem dX12_law_108 : decode cX12_law 108 = .ok (.iconst 0, 1) := by decide +kernel
theorem dX12_law_109 : decode cX12_law 109 = .ok (.istore_n 3, 1) := by decide +kernel
theorem dX12_law_110 : decode cX12_law 110 = .ok (.aload_n 0, 1) := by decide +kernel
theorem dX12_law_111 : decode cX12_law 111 = .ok (.dup, 1) := by decide +kernel
theorem dX12_law_112 : decode cX12_law 112 = .ok (.getfield 308, 3) := by decide +kernel
theorem dX12_law_115 : decode cX12_law 115 = .ok (.iconst 1, 1) := by decide +kernel
theorem dX12_law_116 : decode cX12_law 116 = .ok (.iadd, 1) := by decide +kernel
theorem dX12_law_117 : decode cX12_law 117 = .ok (.putfield 308, 3) := by decide +kernel
theorem dX12_law_120 : decode cX12_law 120 = .ok (.goto (-49), 3) := by decide +kernel
theorem dX12_law_123 : decode cX12_law 123 = .ok (.aload_n 0, 1) := by decide +kernel
theorem dX12_law_124 : decode cX12_law 124 = .ok (.iconst 0, 1) := by decide +kernel
theorem dX12_law_125 : decode cX12_law 125 = .ok (.putfield 298, 3) := by decide +kernel
theorem dX12_law_128 : decode cX12_law 128 = .ok (.aload_n 0, 1) := by decide +kernel
theorem dX12_law_129 : decode cX12_law 129 = .ok (.getfield 305, 3) := by decide +kernel
theorem dX12_law_132 : decode cX12_law 132 = .ok (.ifCond .le 21, 3) := by decide +kernel
theorem dX12_law_135 : decode cX12_law 135 = .ok (.aload_n 0, 1) := by decide +kernel
theorem dX12_law_136 : decode cX12_law 136 = .ok (.getfield 60, 3) := by decide +kernel
theorem dX12_law_139 : decode cX12_law 139 = .ok (.aload_n 0, 1) := by decide +kernel
theorem dX12_law_140 : decode cX12_law 140 = .ok (.getfield 356, 3) := by decide +kernel
theorem dX12_law_143 : decode cX12_law 143 = .ok (.iconst 0, 1) := by decide +kernel
theorem dX12_law_144 : decode cX12_law 144 = .ok (.iastore, 1) := by decide +kernel
theorem dX12_law_145 : decode cX12_law 145 = .ok (.bipush (-2), 2) := by decide +kernel
theorem dX12_law_147 : decode cX12_law 147 = .ok (.aload_n 0, 1) := by decide +kernel
theorem dX12_law_148 : decode cX12_law 148 = .ok (.getfield 305, 3) := by decide +kernel
theorem dX12_law_151 : decode cX12_law 151 = .ok (.isub, 1) := by decide +kernel
theorem dX12_law_152 : decode cX12_law 152 = .ok (.ireturn, 1) := by decide +kernel
theorem dX12_law_153 : decode cX12_law 153 = .ok (.aload_n 0, 1) := by decide +kernel
theorem dX12_law_154 : decode cX12_law 154 = .ok (.getfield 51, 3) := by decide +kernel
theorem dX12_law_157 : decode cX12_law 157 = .ok (.aload_n 0, 1) := by decide +kernel
theorem dX12_law_158 : decode cX12_law 158 = .ok (.getfield 356, 3) := by decide +kernel
theorem dX12_law_161 : decode cX12_law 161 = .ok (.iload_n 1, 1) := by decide +kernel
theorem dX12_law_162 : decode cX12_law 162 = .ok (.iastore, 1) := by decide +kernel
theorem dX12_law_163 : decode cX12_law 163 = .ok (.aload_n 0, 1) := by decide +kernel
theorem dX12_law_164 : decode cX12_law 164 = .ok (.getfield 57, 3) := by decide +kernel
theorem dX12_law_167 : decode cX12_law 167 = .ok (.aload_n 0, 1) := by decide +kernel
theorem dX12_law_168 : decode cX12_law 168 = .ok (.getfield 356, 3) := by decide +kernel
theorem dX12_law_171 : decode cX12_law 171 = .ok (.aload_n 0, 1) := by decide +kernel
theorem dX12_law_172 : decode cX12_law 172 = .ok (.getfield 273, 3) := by decide +kernel
theorem dX12_law_175 : decode cX12_law 175 = .ok (.iastore, 1) := by decide +kernel
theorem dX12_law_176 : decode cX12_law 176 = .ok (.aload_n 0, 1) := by decide +kernel
theorem dX12_law_177 : decode cX12_law 177 = .ok (.getfield 54, 3) := by decide +kernel
theorem dX12_law_180 : decode cX12_law 180 = .ok (.aload_n 0, 1) := by decide +kernel
theorem dX12_law_181 : decode cX12_law 181 = .ok (.getfield 356, 3) := by decide +kernel
theorem dX12_law_184 : decode cX12_law 184 = .ok (.iload_n 1, 1) := by decide +kernel
theorem dX12_law_185 : decode cX12_law 185 = .ok (.ifCond .ne 10, 3) := by decide +kernel
theorem dX12_law_188 : decode cX12_law 188 = .ok (.aload_n 0, 1) := by decide +kernel
theorem dX12_law_189 : decode cX12_law 189 = .ok (.getfield 273, 3) := by decide +kernel
theorem dX12_law_192 : decode cX12_law 192 = .ok (.goto 13, 3) := by decide +kernel
theorem dX12_law_195 : decode cX12_law 195 = .ok (.iload_n 1, 1) := by decide +kernel
theorem dX12_law_196 : decode cX12_law 196 = .ok (.iconst 1, 1) := by decide +kernel
theorem dX12_law_197 : decode cX12_law 197 = .ok (.if_icmp .ne 7, 3) := by decide +kernel
theorem dX12_law_200 : decode cX12_law 200 = .ok (.iload_n 2, 1) := by decide +kernel
theorem dX12_law_201 : decode cX12_law 201 = .ok (.goto 4, 3) := by decide +kernel
theorem dX12_law_204 : decode cX12_law 204 = .ok (.iconst (-1), 1) := by decide +kernel
theorem dX12_law_205 : decode cX12_law 205 = .ok (.iastore, 1) := by decide +kernel
theorem dX12_law_206 : decode cX12_law 206 = .ok (.aload_n 0, 1) := by decide +kernel
theorem dX12_law_207 : decode cX12_law 207 = .ok (.dup, 1) := by decide +kernel
theorem dX12_law_208 : decode cX12_law 208 = .ok (.getfield 356, 3) := by decide +kernel
theorem dX12_law_211 : decode cX12_law 211 = .ok (.iconst 1, 1) := by decide +kernel
theorem dX12_law_212 : decode cX12_law 212 = .ok (.iadd, 1) := by decide +kernel
theorem dX12_law_213 : decode cX12_law 213 = .ok (.putfield 356, 3) := by decide +kernel
theorem dX12_law_216 : decode cX12_law 216 = .ok (.aload_n 0, 1) := by decide +kernel
theorem dX12_law_217 : decode cX12_law 217 = .ok (.getfield 356, 3) := by decide +kernel
theorem dX12_law_220 : decode cX12_law 220 = .ok (.iconst 1, 1) := by decide +kernel
theorem dX12_law_221 : decode cX12_law 221 = .ok (.isub, 1) := by decide +kernel
theorem dX12_law_222 : decode cX12_law 222 = .ok (.ireturn, 1) := by decide +kernel
theorem dX12_read_0 : decode cX12_read 0 = .ok (.iload_n 1, 1) := by decide +kernel
theorem dX12_read_1 : decode cX12_read 1 = .ok (.iconst 0, 1) := by decide +kernel
theorem dX12_read_2 : decode cX12_read 2 = .ok (.aload_n 0, 1) := by decide +kernel
theorem dX12_read_3 : decode cX12_read 3 = .ok (.getfield 356, 3) := by decide +kernel
theorem dX12_read_6 : decode cX12_read 6 = .ok (.iconst 1, 1) := by decide +kernel
theorem dX12_read_7 : decode cX12_read 7 = .ok (.isub, 1) := by decide +kernel
theorem dX12_read_8 : decode cX12_read 8 = .ok (.invokestatic 269, 3) := by decide +kernel
theorem dX12_read_11 : decode cX12_read 11 = .ok (.ifCond .eq 23, 3) := by decide +kernel
theorem dX12_read_14 : decode cX12_read 14 = .ok (.aload_n 0, 1) := by decide +kernel
theorem dX12_read_15 : decode cX12_read 15 = .ok (.getfield 51, 3) := by decide +kernel
theorem dX12_read_18 : decode cX12_read 18 = .ok (.iload_n 1, 1) := by decide +kernel
theorem dX12_read_19 : decode cX12_read 19 = .ok (.iaload, 1) := by decide +kernel
theorem dX12_read_20 : decode cX12_read 20 = .ok (.iconst 2, 1) := by decide +kernel
theorem dX12_read_21 : decode cX12_read 21 = .ok (.if_icmp .ne 13, 3) := by decide +kernel
theorem dX12_read_24 : decode cX12_read 24 = .ok (.aload_n 0, 1) := by decide +kernel
theorem dX12_read_25 : decode cX12_read 25 = .ok (.getfield 54, 3) := by decide +kernel
theorem dX12_read_28 : decode cX12_read 28 = .ok (.iload_n 1, 1) := by decide +kernel
theorem dX12_read_29 : decode cX12_read 29 = .ok (.iaload, 1) := by decide +kernel
theorem dX12_read_30 : decode cX12_read 30 = .ok (.iconst (-1), 1) := by decide +kernel
theorem dX12_read_31 : decode cX12_read 31 = .ok (.if_icmp .eq 5, 3) := by decide +kernel
theorem dX12_read_34 : decode cX12_read 34 = .ok (.iconst 0, 1) := by decide +kernel
theorem dX12_read_35 : decode cX12_read 35 = .ok (.ireturn, 1) := by decide +kernel
theorem dX12_read_36 : decode cX12_read 36 = .ok (.aload_n 0, 1) := by decide +kernel
theorem dX12_read_37 : decode cX12_read 37 = .ok (.getfield 54, 3) := by decide +kernel
theorem dX12_read_40 : decode cX12_read 40 = .ok (.iload_n 1, 1) := by decide +kernel
theorem dX12_read_41 : decode cX12_read 41 = .ok (.aload_n 0, 1) := by decide +kernel
theorem dX12_read_42 : decode cX12_read 42 = .ok (.getfield 273, 3) := by decide +kernel
theorem dX12_read_45 : decode cX12_read 45 = .ok (.iastore, 1) := by decide +kernel
theorem dX12_read_46 : decode cX12_read 46 = .ok (.iconst 1, 1) := by decide +kernel
theorem dX12_read_47 : decode cX12_read 47 = .ok (.ireturn, 1) := by decide +kernel
theorem dX12_laws_0 : decode cX12_laws 0 = .ok (.iload_n 1, 1) := by decide +kernel
theorem dX12_laws_1 : decode cX12_laws 1 = .ok (.iconst 0, 1) := by decide +kernel
theorem dX12_laws_2 : decode cX12_laws 2 = .ok (.aload_n 0, 1) := by decide +kernel
theorem dX12_laws_3 : decode cX12_laws 3 = .ok (.getfield 356, 3) := by decide +kernel
theorem dX12_laws_6 : decode cX12_laws 6 = .ok (.iconst 1, 1) := by decide +kernel
theorem dX12_laws_7 : decode cX12_laws 7 = .ok (.isub, 1) := by decide +kernel
theorem dX12_laws_8 : decode cX12_laws 8 = .ok (.invokestatic 269, 3) := by decide +kernel
theorem dX12_laws_11 : decode cX12_laws 11 = .ok (.ifCond .ne 5, 3) := by decide +kernel
theorem dX12_laws_14 : decode cX12_laws 14 = .ok (.iconst (-1), 1) := by decide +kernel
theorem dX12_laws_15 : decode cX12_laws 15 = .ok (.ireturn, 1) := by decide +kernel
theorem dX12_laws_16 : decode cX12_laws 16 = .ok (.iload_n 2, 1) := by decide +kernel
theorem dX12_laws_17 : decode cX12_laws 17 = .ok (.tableswitch 59 0 3 #[31, 38, 45, 52], 31) := by decide +kernel
theorem dX12_laws_48 : decode cX12_laws 48 = .ok (.aload_n 0, 1) := by decide +kernel
theorem dX12_laws_49 : decode cX12_laws 49 = .ok (.getfield 51, 3) := by decide +kernel
theorem dX12_laws_52 : decode cX12_laws 52 = .ok (.iload_n 1, 1) := by decide +kernel
theorem dX12_laws_53 : decode cX12_laws 53 = .ok (.iaload, 1) := by decide +kernel
theorem dX12_laws_54 : decode cX12_laws 54 = .ok (.ireturn, 1) := by decide +kernel
theorem dX12_laws_55 : decode cX12_laws 55 = .ok (.aload_n 0, 1) := by decide +kernel
theorem dX12_laws_56 : decode cX12_laws 56 = .ok (.getfield 60, 3) := by decide +kernel
theorem dX12_laws_59 : decode cX12_laws 59 = .ok (.iload_n 1, 1) := by decide +kernel
theorem dX12_laws_60 : decode cX12_laws 60 = .ok (.iaload, 1) := by decide +kernel
theorem dX12_laws_61 : decode cX12_laws 61 = .ok (.ireturn, 1) := by decide +kernel
theorem dX12_laws_62 : decode cX12_laws 62 = .ok (.aload_n 0, 1) := by decide +kernel
theorem dX12_laws_63 : decode cX12_laws 63 = .ok (.getfield 54, 3) := by decide +kernel
theorem dX12_laws_66 : decode cX12_laws 66 = .ok (.iload_n 1, 1) := by decide +kernel
theorem dX12_laws_67 : decode cX12_laws 67 = .ok (.iaload, 1) := by decide +kernel
theorem dX12_laws_68 : decode cX12_laws 68 = .ok (.ireturn, 1) := by decide +kernel
theorem dX12_laws_69 : decode cX12_laws 69 = .ok (.aload_n 0, 1) := by decide +kernel
theorem dX12_laws_70 : decode cX12_laws 70 = .ok (.getfield 57, 3) := by decide +kernel
theorem dX12_laws_73 : decode cX12_laws 73 = .ok (.iload_n 1, 1) := by decide +kernel
theorem dX12_laws_74 : decode cX12_laws 74 = .ok (.iaload, 1) := by decide +kernel
theorem dX12_laws_75 : decode cX12_laws 75 = .ok (.ireturn, 1) := by decide +kernel
theorem dX12_laws_76 : decode cX12_laws 76 = .ok (.iconst (-1), 1) := by decide +kernel
theorem dX12_laws_77 : decode cX12_laws 77 = .ok (.ireturn, 1) := by decide +kernel
theorem dX12_inForce_0 : decode cX12_inForce 0 = .ok (.iconst (-1), 1) := by decide +kernel
theorem dX12_inForce_1 : decode cX12_inForce 1 = .ok (.istore_n 3, 1) := by decide +kernel
theorem dX12_inForce_2 : decode cX12_inForce 2 = .ok (.iconst 0, 1) := by decide +kernel
theorem dX12_inForce_3 : decode cX12_inForce 3 = .ok (.istore 4, 2) := by decide +kernel
theorem dX12_inForce_5 : decode cX12_inForce 5 = .ok (.iload 4, 2) := by decide +kernel
theorem dX12_inForce_7 : decode cX12_inForce 7 = .ok (.aload_n 0, 1) := by decide +kernel
theorem dX12_inForce_8 : decode cX12_inForce 8 = .ok (.getfield 356, 3) := by decide +kernel
theorem dX12_inForce_11 : decode cX12_inForce 11 = .ok (.if_icmp .ge 66, 3) := by decide +kernel
theorem dX12_inForce_14 : decode cX12_inForce 14 = .ok (.aload_n 0, 1) := by decide +kernel
theorem dX12_inForce_15 : decode cX12_inForce 15 = .ok (.getfield 51, 3) := by decide +kernel
theorem dX12_inForce_18 : decode cX12_inForce 18 = .ok (.iload 4, 2) := by decide +kernel
theorem dX12_inForce_20 : decode cX12_inForce 20 = .ok (.iaload, 1) := by decide +kernel
theorem dX12_inForce_21 : decode cX12_inForce 21 = .ok (.iload_n 1, 1) := by decide +kernel
theorem dX12_inForce_22 : decode cX12_inForce 22 = .ok (.if_icmp .ne 49, 3) := by decide +kernel
theorem dX12_inForce_25 : decode cX12_inForce 25 = .ok (.aload_n 0, 1) := by decide +kernel
theorem dX12_inForce_26 : decode cX12_inForce 26 = .ok (.getfield 54, 3) := by decide +kernel
theorem dX12_inForce_29 : decode cX12_inForce 29 = .ok (.iload 4, 2) := by decide +kernel
theorem dX12_inForce_31 : decode cX12_inForce 31 = .ok (.iaload, 1) := by decide +kernel
theorem dX12_inForce_32 : decode cX12_inForce 32 = .ok (.iconst (-1), 1) := by decide +kernel
theorem dX12_inForce_33 : decode cX12_inForce 33 = .ok (.if_icmp .eq 38, 3) := by decide +kernel
theorem dX12_inForce_36 : decode cX12_inForce 36 = .ok (.aload_n 0, 1) := by decide +kernel
theorem dX12_inForce_37 : decode cX12_inForce 37 = .ok (.getfield 54, 3) := by decide +kernel
theorem dX12_inForce_40 : decode cX12_inForce 40 = .ok (.iload 4, 2) := by decide +kernel
theorem dX12_inForce_42 : decode cX12_inForce 42 = .ok (.iaload, 1) := by decide +kernel
theorem dX12_inForce_43 : decode cX12_inForce 43 = .ok (.iload_n 2, 1) := by decide +kernel
theorem dX12_inForce_44 : decode cX12_inForce 44 = .ok (.if_icmp .gt 27, 3) := by decide +kernel
theorem dX12_inForce_47 : decode cX12_inForce 47 = .ok (.iload_n 3, 1) := by decide +kernel
theorem dX12_inForce_48 : decode cX12_inForce 48 = .ok (.iconst (-1), 1) := by decide +kernel
theorem dX12_inForce_49 : decode cX12_inForce 49 = .ok (.if_icmp .eq 19, 3) := by decide +kernel
theorem dX12_inForce_52 : decode cX12_inForce 52 = .ok (.aload_n 0, 1) := by decide +kernel
theorem dX12_inForce_53 : decode cX12_inForce 53 = .ok (.getfield 54, 3) := by decide +kernel
theorem dX12_inForce_56 : decode cX12_inForce 56 = .ok (.iload 4, 2) := by decide +kernel
theorem dX12_inForce_58 : decode cX12_inForce 58 = .ok (.iaload, 1) := by decide +kernel
theorem dX12_inForce_59 : decode cX12_inForce 59 = .ok (.aload_n 0, 1) := by decide +kernel
theorem dX12_inForce_60 : decode cX12_inForce 60 = .ok (.getfield 54, 3) := by decide +kernel
theorem dX12_inForce_63 : decode cX12_inForce 63 = .ok (.iload_n 3, 1) := by decide +kernel
theorem dX12_inForce_64 : decode cX12_inForce 64 = .ok (.iaload, 1) := by decide +kernel
theorem dX12_inForce_65 : decode cX12_inForce 65 = .ok (.if_icmp .lt 6, 3) := by decide +kernel
theorem dX12_inForce_68 : decode cX12_inForce 68 = .ok (.iload 4, 2) := by decide +kernel
