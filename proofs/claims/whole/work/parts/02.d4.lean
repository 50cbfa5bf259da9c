theorem dX12_inForce_70 : decode cX12_inForce 70 = .ok (.istore_n 3, 1) := by decide +kernel
theorem dX12_inForce_71 : decode cX12_inForce 71 = .ok (.iinc 4 1, 3) := by decide +kernel
theorem dX12_inForce_74 : decode cX12_inForce 74 = .ok (.goto (-69), 3) := by decide +kernel
theorem dX12_inForce_77 : decode cX12_inForce 77 = .ok (.iload_n 3, 1) := by decide +kernel
theorem dX12_inForce_78 : decode cX12_inForce 78 = .ok (.ireturn, 1) := by decide +kernel
theorem dX12_force_0 : decode cX12_force 0 = .ok (.iload_n 1, 1) := by decide +kernel
theorem dX12_force_1 : decode cX12_force 1 = .ok (.iconst 0, 1) := by decide +kernel
theorem dX12_force_2 : decode cX12_force 2 = .ok (.iconst 2, 1) := by decide +kernel
theorem dX12_force_3 : decode cX12_force 3 = .ok (.invokestatic 269, 3) := by decide +kernel
theorem dX12_force_6 : decode cX12_force 6 = .ok (.ifCond .eq 19, 3) := by decide +kernel
theorem dX12_force_9 : decode cX12_force 9 = .ok (.iload_n 2, 1) := by decide +kernel
theorem dX12_force_10 : decode cX12_force 10 = .ok (.invokestatic 451, 3) := by decide +kernel
theorem dX12_force_13 : decode cX12_force 13 = .ok (.ifCond .eq 12, 3) := by decide +kernel
theorem dX12_force_16 : decode cX12_force 16 = .ok (.aload_n 0, 1) := by decide +kernel
theorem dX12_force_17 : decode cX12_force 17 = .ok (.iload_n 1, 1) := by decide +kernel
theorem dX12_force_18 : decode cX12_force 18 = .ok (.iload_n 2, 1) := by decide +kernel
theorem dX12_force_19 : decode cX12_force 19 = .ok (.invokevirtual 454, 3) := by decide +kernel
theorem dX12_force_22 : decode cX12_force 22 = .ok (.goto 4, 3) := by decide +kernel
theorem dX12_force_25 : decode cX12_force 25 = .ok (.iconst (-1), 1) := by decide +kernel
theorem dX12_force_26 : decode cX12_force 26 = .ok (.ireturn, 1) := by decide +kernel
theorem dX12_truth_0 : decode cX12_truth 0 = .ok (.iload_n 0, 1) := by decide +kernel
theorem dX12_truth_1 : decode cX12_truth 1 = .ok (.ifCond .eq 7, 3) := by decide +kernel
theorem dX12_truth_4 : decode cX12_truth 4 = .ok (.lconst 1, 1) := by decide +kernel
theorem dX12_truth_5 : decode cX12_truth 5 = .ok (.goto 4, 3) := by decide +kernel
theorem dX12_truth_8 : decode cX12_truth 8 = .ok (.lconst 0, 1) := by decide +kernel
theorem dX12_truth_9 : decode cX12_truth 9 = .ok (.lreturn, 1) := by decide +kernel
theorem dX12_isTrue_0 : decode cX12_isTrue 0 = .ok (.iconst 0, 1) := by decide +kernel
theorem dX12_isTrue_1 : decode cX12_isTrue 1 = .ok (.istore_n 2, 1) := by decide +kernel
theorem dX12_isTrue_2 : decode cX12_isTrue 2 = .ok (.iload_n 1, 1) := by decide +kernel
theorem dX12_isTrue_3 : decode cX12_isTrue 3 = .ok (.bipush 10, 2) := by decide +kernel
theorem dX12_isTrue_5 : decode cX12_isTrue 5 = .ok (.idiv, 1) := by decide +kernel
theorem dX12_isTrue_6 : decode cX12_isTrue 6 = .ok (.istore_n 3, 1) := by decide +kernel
theorem dX12_isTrue_7 : decode cX12_isTrue 7 = .ok (.aload_n 0, 1) := by decide +kernel
theorem dX12_isTrue_8 : decode cX12_isTrue 8 = .ok (.getfield 66, 3) := by decide +kernel
theorem dX12_isTrue_11 : decode cX12_isTrue 11 = .ok (.iload_n 1, 1) := by decide +kernel
theorem dX12_isTrue_12 : decode cX12_isTrue 12 = .ok (.iaload, 1) := by decide +kernel
theorem dX12_isTrue_13 : decode cX12_isTrue 13 = .ok (.istore 4, 2) := by decide +kernel
theorem dX12_isTrue_15 : decode cX12_isTrue 15 = .ok (.iload 4, 2) := by decide +kernel
theorem dX12_isTrue_17 : decode cX12_isTrue 17 = .ok (.aload_n 0, 1) := by decide +kernel
theorem dX12_isTrue_18 : decode cX12_isTrue 18 = .ok (.getfield 69, 3) := by decide +kernel
theorem dX12_isTrue_21 : decode cX12_isTrue 21 = .ok (.iload_n 1, 1) := by decide +kernel
theorem dX12_isTrue_22 : decode cX12_isTrue 22 = .ok (.iaload, 1) := by decide +kernel
theorem dX12_isTrue_23 : decode cX12_isTrue 23 = .ok (.if_icmp .ge 138, 3) := by decide +kernel
theorem dX12_isTrue_26 : decode cX12_isTrue 26 = .ok (.aload_n 0, 1) := by decide +kernel
theorem dX12_isTrue_27 : decode cX12_isTrue 27 = .ok (.getfield 72, 3) := by decide +kernel
theorem dX12_isTrue_30 : decode cX12_isTrue 30 = .ok (.sipush 400, 3) := by decide +kernel
theorem dX12_isTrue_33 : decode cX12_isTrue 33 = .ok (.iload_n 3, 1) := by decide +kernel
theorem dX12_isTrue_34 : decode cX12_isTrue 34 = .ok (.imul, 1) := by decide +kernel
theorem dX12_isTrue_35 : decode cX12_isTrue 35 = .ok (.iload 4, 2) := by decide +kernel
theorem dX12_isTrue_37 : decode cX12_isTrue 37 = .ok (.iadd, 1) := by decide +kernel
theorem dX12_isTrue_38 : decode cX12_isTrue 38 = .ok (.iaload, 1) := by decide +kernel
theorem dX12_isTrue_39 : decode cX12_isTrue 39 = .ok (.istore 5, 2) := by decide +kernel
theorem dX12_isTrue_41 : decode cX12_isTrue 41 = .ok (.aload_n 0, 1) := by decide +kernel
theorem dX12_isTrue_42 : decode cX12_isTrue 42 = .ok (.getfield 75, 3) := by decide +kernel
theorem dX12_isTrue_45 : decode cX12_isTrue 45 = .ok (.sipush 400, 3) := by decide +kernel
theorem dX12_isTrue_48 : decode cX12_isTrue 48 = .ok (.iload_n 3, 1) := by decide +kernel
theorem dX12_isTrue_49 : decode cX12_isTrue 49 = .ok (.imul, 1) := by decide +kernel
theorem dX12_isTrue_50 : decode cX12_isTrue 50 = .ok (.iload 4, 2) := by decide +kernel
theorem dX12_isTrue_52 : decode cX12_isTrue 52 = .ok (.iadd, 1) := by decide +kernel
theorem dX12_isTrue_53 : decode cX12_isTrue 53 = .ok (.iaload, 1) := by decide +kernel
theorem dX12_isTrue_54 : decode cX12_isTrue 54 = .ok (.istore 6, 2) := by decide +kernel
theorem dX12_isTrue_56 : decode cX12_isTrue 56 = .ok (.iload 5, 2) := by decide +kernel
theorem dX12_isTrue_58 : decode cX12_isTrue 58 = .ok (.ifCond .eq 9, 3) := by decide +kernel
theorem dX12_isTrue_61 : decode cX12_isTrue 61 = .ok (.iload 5, 2) := by decide +kernel
theorem dX12_isTrue_63 : decode cX12_isTrue 63 = .ok (.iconst 1, 1) := by decide +kernel
theorem dX12_isTrue_64 : decode cX12_isTrue 64 = .ok (.if_icmp .ne 33, 3) := by decide +kernel
theorem dX12_isTrue_67 : decode cX12_isTrue 67 = .ok (.aload_n 0, 1) := by decide +kernel
theorem dX12_isTrue_68 : decode cX12_isTrue 68 = .ok (.getfield 81, 3) := by decide +kernel
theorem dX12_isTrue_71 : decode cX12_isTrue 71 = .ok (.iload_n 2, 1) := by decide +kernel
theorem dX12_isTrue_72 : decode cX12_isTrue 72 = .ok (.iload 5, 2) := by decide +kernel
theorem dX12_isTrue_74 : decode cX12_isTrue 74 = .ok (.ifCond .ne 9, 3) := by decide +kernel
theorem dX12_isTrue_77 : decode cX12_isTrue 77 = .ok (.iload 6, 2) := by decide +kernel
theorem dX12_isTrue_79 : decode cX12_isTrue 79 = .ok (.i2l, 1) := by decide +kernel
theorem dX12_isTrue_80 : decode cX12_isTrue 80 = .ok (.goto 10, 3) := by decide +kernel
theorem dX12_isTrue_83 : decode cX12_isTrue 83 = .ok (.aload_n 0, 1) := by decide +kernel
theorem dX12_isTrue_84 : decode cX12_isTrue 84 = .ok (.getfield 85, 3) := by decide +kernel
theorem dX12_isTrue_87 : decode cX12_isTrue 87 = .ok (.iload 6, 2) := by decide +kernel
theorem dX12_isTrue_89 : decode cX12_isTrue 89 = .ok (.laload, 1) := by decide +kernel
theorem dX12_isTrue_90 : decode cX12_isTrue 90 = .ok (.lastore, 1) := by decide +kernel
theorem dX12_isTrue_91 : decode cX12_isTrue 91 = .ok (.iinc 2 1, 3) := by decide +kernel
theorem dX12_isTrue_94 : decode cX12_isTrue 94 = .ok (.goto 61, 3) := by decide +kernel
theorem dX12_isTrue_97 : decode cX12_isTrue 97 = .ok (.iload 5, 2) := by decide +kernel
theorem dX12_isTrue_99 : decode cX12_isTrue 99 = .ok (.bipush 14, 2) := by decide +kernel
theorem dX12_isTrue_101 : decode cX12_isTrue 101 = .ok (.if_icmp .ne 24, 3) := by decide +kernel
theorem dX12_isTrue_104 : decode cX12_isTrue 104 = .ok (.aload_n 0, 1) := by decide +kernel
theorem dX12_isTrue_105 : decode cX12_isTrue 105 = .ok (.getfield 81, 3) := by decide +kernel
theorem dX12_isTrue_108 : decode cX12_isTrue 108 = .ok (.iload_n 2, 1) := by decide +kernel
theorem dX12_isTrue_109 : decode cX12_isTrue 109 = .ok (.iconst 1, 1) := by decide +kernel
theorem dX12_isTrue_110 : decode cX12_isTrue 110 = .ok (.isub, 1) := by decide +kernel
theorem dX12_isTrue_111 : decode cX12_isTrue 111 = .ok (.lconst 1, 1) := by decide +kernel
theorem dX12_isTrue_112 : decode cX12_isTrue 112 = .ok (.aload_n 0, 1) := by decide +kernel
theorem dX12_isTrue_113 : decode cX12_isTrue 113 = .ok (.getfield 81, 3) := by decide +kernel
theorem dX12_isTrue_116 : decode cX12_isTrue 116 = .ok (.iload_n 2, 1) := by decide +kernel
theorem dX12_isTrue_117 : decode cX12_isTrue 117 = .ok (.iconst 1, 1) := by decide +kernel
theorem dX12_isTrue_118 : decode cX12_isTrue 118 = .ok (.isub, 1) := by decide +kernel
theorem dX12_isTrue_119 : decode cX12_isTrue 119 = .ok (.laload, 1) := by decide +kernel
theorem dX12_isTrue_120 : decode cX12_isTrue 120 = .ok (.lsub, 1) := by decide +kernel
theorem dX12_isTrue_121 : decode cX12_isTrue 121 = .ok (.lastore, 1) := by decide +kernel
theorem dX12_isTrue_122 : decode cX12_isTrue 122 = .ok (.goto 33, 3) := by decide +kernel
theorem dX12_isTrue_125 : decode cX12_isTrue 125 = .ok (.iinc 2 (-1), 3) := by decide +kernel
theorem dX12_isTrue_128 : decode cX12_isTrue 128 = .ok (.aload_n 0, 1) := by decide +kernel
theorem dX12_isTrue_129 : decode cX12_isTrue 129 = .ok (.getfield 81, 3) := by decide +kernel
theorem dX12_isTrue_132 : decode cX12_isTrue 132 = .ok (.iload_n 2, 1) := by decide +kernel
theorem dX12_isTrue_133 : decode cX12_isTrue 133 = .ok (.iconst 1, 1) := by decide +kernel
theorem dX12_isTrue_134 : decode cX12_isTrue 134 = .ok (.isub, 1) := by decide +kernel
theorem dX12_isTrue_135 : decode cX12_isTrue 135 = .ok (.iload 5, 2) := by decide +kernel
theorem dX12_isTrue_137 : decode cX12_isTrue 137 = .ok (.aload_n 0, 1) := by decide +kernel
theorem dX12_isTrue_138 : decode cX12_isTrue 138 = .ok (.getfield 81, 3) := by decide +kernel
theorem dX12_isTrue_141 : decode cX12_isTrue 141 = .ok (.iload_n 2, 1) := by decide +kernel
theorem dX12_isTrue_142 : decode cX12_isTrue 142 = .ok (.iconst 1, 1) := by decide +kernel
theorem dX12_isTrue_143 : decode cX12_isTrue 143 = .ok (.isub, 1) := by decide +kernel
theorem dX12_isTrue_144 : decode cX12_isTrue 144 = .ok (.laload, 1) := by decide +kernel
theorem dX12_isTrue_145 : decode cX12_isTrue 145 = .ok (.aload_n 0, 1) := by decide +kernel
theorem dX12_isTrue_146 : decode cX12_isTrue 146 = .ok (.getfield 81, 3) := by decide +kernel
theorem dX12_isTrue_149 : decode cX12_isTrue 149 = .ok (.iload_n 2, 1) := by decide +kernel
theorem dX12_isTrue_150 : decode cX12_isTrue 150 = .ok (.laload, 1) := by decide +kernel
theorem dX12_isTrue_151 : decode cX12_isTrue 151 = .ok (.invokestatic 458, 3) := by decide +kernel
theorem dX12_isTrue_154 : decode cX12_isTrue 154 = .ok (.lastore, 1) := by decide +kernel
theorem dX12_isTrue_155 : decode cX12_isTrue 155 = .ok (.iinc 4 1, 3) := by decide +kernel
theorem dX12_isTrue_158 : decode cX12_isTrue 158 = .ok (.goto (-143), 3) := by decide +kernel
theorem dX12_isTrue_161 : decode cX12_isTrue 161 = .ok (.aload_n 0, 1) := by decide +kernel
theorem dX12_isTrue_162 : decode cX12_isTrue 162 = .ok (.getfield 81, 3) := by decide +kernel
theorem dX12_isTrue_165 : decode cX12_isTrue 165 = .ok (.iconst 0, 1) := by decide +kernel
theorem dX12_isTrue_166 : decode cX12_isTrue 166 = .ok (.laload, 1) := by decide +kernel
theorem dX12_isTrue_167 : decode cX12_isTrue 167 = .ok (.lconst 1, 1) := by decide +kernel
theorem dX12_isTrue_168 : decode cX12_isTrue 168 = .ok (.lcmp, 1) := by decide +kernel
theorem dX12_isTrue_169 : decode cX12_isTrue 169 = .ok (.ifCond .ne 7, 3) := by decide +kernel
theorem dX12_isTrue_172 : decode cX12_isTrue 172 = .ok (.iconst 1, 1) := by decide +kernel
theorem dX12_isTrue_173 : decode cX12_isTrue 173 = .ok (.goto 4, 3) := by decide +kernel
theorem dX12_isTrue_176 : decode cX12_isTrue 176 = .ok (.iconst 0, 1) := by decide +kernel
theorem dX12_isTrue_177 : decode cX12_isTrue 177 = .ok (.ireturn, 1) := by decide +kernel
theorem dX12_joins_0 : decode cX12_joins 0 = .ok (.iload_n 0, 1) := by decide +kernel
theorem dX12_joins_1 : decode cX12_joins 1 = .ok (.tableswitch 146 3 12 #[55, 59, 63, 146, 67, 82, 97, 112, 127, 142], 55) := by decide +kernel
theorem dX12_joins_56 : decode cX12_joins 56 = .ok (.lload_n 1, 1) := by decide +kernel
theorem dX12_joins_57 : decode cX12_joins 57 = .ok (.lload_n 3, 1) := by decide +kernel
theorem dX12_joins_58 : decode cX12_joins 58 = .ok (.ladd, 1) := by decide +kernel
theorem dX12_joins_59 : decode cX12_joins 59 = .ok (.lreturn, 1) := by decide +kernel
theorem dX12_joins_60 : decode cX12_joins 60 = .ok (.lload_n 1, 1) := by decide +kernel
theorem dX12_joins_61 : decode cX12_joins 61 = .ok (.lload_n 3, 1) := by decide +kernel
theorem dX12_joins_62 : decode cX12_joins 62 = .ok (.lsub, 1) := by decide +kernel
theorem dX12_joins_63 : decode cX12_joins 63 = .ok (.lreturn, 1) := by decide +kernel
theorem dX12_joins_64 : decode cX12_joins 64 = .ok (.lload_n 1, 1) := by decide +kernel
theorem dX12_joins_65 : decode cX12_joins 65 = .ok (.lload_n 3, 1) := by decide +kernel
theorem dX12_joins_66 : decode cX12_joins 66 = .ok (.lmul, 1) := by decide +kernel
theorem dX12_joins_67 : decode cX12_joins 67 = .ok (.lreturn, 1) := by decide +kernel
theorem dX12_joins_68 : decode cX12_joins 68 = .ok (.lload_n 1, 1) := by decide +kernel
theorem dX12_joins_69 : decode cX12_joins 69 = .ok (.lload_n 3, 1) := by decide +kernel
theorem dX12_joins_70 : decode cX12_joins 70 = .ok (.lcmp, 1) := by decide +kernel
theorem dX12_joins_71 : decode cX12_joins 71 = .ok (.ifCond .ge 7, 3) := by decide +kernel
theorem dX12_joins_74 : decode cX12_joins 74 = .ok (.iconst 1, 1) := by decide +kernel
theorem dX12_joins_75 : decode cX12_joins 75 = .ok (.goto 4, 3) := by decide +kernel
theorem dX12_joins_78 : decode cX12_joins 78 = .ok (.iconst 0, 1) := by decide +kernel
theorem dX12_joins_79 : decode cX12_joins 79 = .ok (.invokestatic 462, 3) := by decide +kernel
theorem dX12_joins_82 : decode cX12_joins 82 = .ok (.lreturn, 1) := by decide +kernel
theorem dX12_joins_83 : decode cX12_joins 83 = .ok (.lload_n 1, 1) := by decide +kernel
theorem dX12_joins_84 : decode cX12_joins 84 = .ok (.lload_n 3, 1) := by decide +kernel
theorem dX12_joins_85 : decode cX12_joins 85 = .ok (.lcmp, 1) := by decide +kernel
theorem dX12_joins_86 : decode cX12_joins 86 = .ok (.ifCond .gt 7, 3) := by decide +kernel
theorem dX12_joins_89 : decode cX12_joins 89 = .ok (.iconst 1, 1) := by decide +kernel
theorem dX12_joins_90 : decode cX12_joins 90 = .ok (.goto 4, 3) := by decide +kernel
theorem dX12_joins_93 : decode cX12_joins 93 = .ok (.iconst 0, 1) := by decide +kernel
theorem dX12_joins_94 : decode cX12_joins 94 = .ok (.invokestatic 462, 3) := by decide +kernel
theorem dX12_joins_97 : decode cX12_joins 97 = .ok (.lreturn, 1) := by decide +kernel
theorem dX12_joins_98 : decode cX12_joins 98 = .ok (.lload_n 1, 1) := by decide +kernel
theorem dX12_joins_99 : decode cX12_joins 99 = .ok (.lload_n 3, 1) := by decide +kernel
theorem dX12_joins_100 : decode cX12_joins 100 = .ok (.lcmp, 1) := by decide +kernel
theorem dX12_joins_101 : decode cX12_joins 101 = .ok (.ifCond .ne 7, 3) := by decide +kernel
theorem dX12_joins_104 : decode cX12_joins 104 = .ok (.iconst 1, 1) := by decide +kernel
theorem dX12_joins_105 : decode cX12_joins 105 = .ok (.goto 4, 3) := by decide +kernel
theorem dX12_joins_108 : decode cX12_joins 108 = .ok (.iconst 0, 1) := by decide +kernel
theorem dX12_joins_109 : decode cX12_joins 109 = .ok (.invokestatic 462, 3) := by decide +kernel
theorem dX12_joins_112 : decode cX12_joins 112 = .ok (.lreturn, 1) := by decide +kernel
theorem dX12_joins_113 : decode cX12_joins 113 = .ok (.lload_n 1, 1) := by decide +kernel
theorem dX12_joins_114 : decode cX12_joins 114 = .ok (.lload_n 3, 1) := by decide +kernel
theorem dX12_joins_115 : decode cX12_joins 115 = .ok (.lcmp, 1) := by decide +kernel
theorem dX12_joins_116 : decode cX12_joins 116 = .ok (.ifCond .lt 7, 3) := by decide +kernel
theorem dX12_joins_119 : decode cX12_joins 119 = .ok (.iconst 1, 1) := by decide +kernel
theorem dX12_joins_120 : decode cX12_joins 120 = .ok (.goto 4, 3) := by decide +kernel
theorem dX12_joins_123 : decode cX12_joins 123 = .ok (.iconst 0, 1) := by decide +kernel
theorem dX12_joins_124 : decode cX12_joins 124 = .ok (.invokestatic 462, 3) := by decide +kernel
theorem dX12_joins_127 : decode cX12_joins 127 = .ok (.lreturn, 1) := by decide +kernel
theorem dX12_joins_128 : decode cX12_joins 128 = .ok (.lload_n 1, 1) := by decide +kernel
theorem dX12_joins_129 : decode cX12_joins 129 = .ok (.lload_n 3, 1) := by decide +kernel
theorem dX12_joins_130 : decode cX12_joins 130 = .ok (.lcmp, 1) := by decide +kernel
theorem dX12_joins_131 : decode cX12_joins 131 = .ok (.ifCond .le 7, 3) := by decide +kernel
theorem dX12_joins_134 : decode cX12_joins 134 = .ok (.iconst 1, 1) := by decide +kernel
theorem dX12_joins_135 : decode cX12_joins 135 = .ok (.goto 4, 3) := by decide +kernel
theorem dX12_joins_138 : decode cX12_joins 138 = .ok (.iconst 0, 1) := by decide +kernel
theorem dX12_joins_139 : decode cX12_joins 139 = .ok (.invokestatic 462, 3) := by decide +kernel
theorem dX12_joins_142 : decode cX12_joins 142 = .ok (.lreturn, 1) := by decide +kernel
theorem dX12_joins_143 : decode cX12_joins 143 = .ok (.lload_n 1, 1) := by decide +kernel
theorem dX12_joins_144 : decode cX12_joins 144 = .ok (.lload_n 3, 1) := by decide +kernel
theorem dX12_joins_145 : decode cX12_joins 145 = .ok (.land, 1) := by decide +kernel
theorem dX12_joins_146 : decode cX12_joins 146 = .ok (.lreturn, 1) := by decide +kernel
theorem dX12_joins_147 : decode cX12_joins 147 = .ok (.lload_n 1, 1) := by decide +kernel
theorem dX12_joins_148 : decode cX12_joins 148 = .ok (.lload_n 3, 1) := by decide +kernel
theorem dX12_joins_149 : decode cX12_joins 149 = .ok (.lor, 1) := by decide +kernel
theorem dX12_joins_150 : decode cX12_joins 150 = .ok (.lreturn, 1) := by decide +kernel
theorem dX12_shut_0 : decode cX12_shut 0 = .ok (.aload_n 0, 1) := by decide +kernel
theorem dX12_shut_1 : decode cX12_shut 1 = .ok (.getfield 466, 3) := by decide +kernel
theorem dX12_shut_4 : decode cX12_shut 4 = .ok (.bipush 20, 2) := by decide +kernel
theorem dX12_shut_6 : decode cX12_shut 6 = .ok (.if_icmp .eq 31, 3) := by decide +kernel
theorem dX12_shut_9 : decode cX12_shut 9 = .ok (.iload_n 1, 1) := by decide +kernel
theorem dX12_shut_10 : decode cX12_shut 10 = .ok (.iconst 0, 1) := by decide +kernel
theorem dX12_shut_11 : decode cX12_shut 11 = .ok (.bipush 7, 2) := by decide +kernel
theorem dX12_shut_13 : decode cX12_shut 13 = .ok (.invokestatic 269, 3) := by decide +kernel
theorem dX12_shut_16 : decode cX12_shut 16 = .ok (.ifCond .eq 21, 3) := by decide +kernel
theorem dX12_shut_19 : decode cX12_shut 19 = .ok (.iload_n 2, 1) := by decide +kernel
theorem dX12_shut_20 : decode cX12_shut 20 = .ok (.invokestatic 451, 3) := by decide +kernel
theorem dX12_shut_23 : decode cX12_shut 23 = .ok (.ifCond .eq 14, 3) := by decide +kernel
theorem dX12_shut_26 : decode cX12_shut 26 = .ok (.iload_n 3, 1) := by decide +kernel
theorem dX12_shut_27 : decode cX12_shut 27 = .ok (.iload_n 2, 1) := by decide +kernel
theorem dX12_shut_28 : decode cX12_shut 28 = .ok (.sipush 3999, 3) := by decide +kernel
theorem dX12_shut_31 : decode cX12_shut 31 = .ok (.invokestatic 269, 3) := by decide +kernel
theorem dX12_shut_34 : decode cX12_shut 34 = .ok (.ifCond .ne 5, 3) := by decide +kernel
theorem dX12_shut_37 : decode cX12_shut 37 = .ok (.iconst (-1), 1) := by decide +kernel
theorem dX12_shut_38 : decode cX12_shut 38 = .ok (.ireturn, 1) := by decide +kernel
theorem dX12_shut_39 : decode cX12_shut 39 = .ok (.aload_n 0, 1) := by decide +kernel
theorem dX12_shut_40 : decode cX12_shut 40 = .ok (.getfield 88, 3) := by decide +kernel
theorem dX12_shut_43 : decode cX12_shut 43 = .ok (.aload_n 0, 1) := by decide +kernel
theorem dX12_shut_44 : decode cX12_shut 44 = .ok (.getfield 466, 3) := by decide +kernel
theorem dX12_shut_47 : decode cX12_shut 47 = .ok (.iload_n 1, 1) := by decide +kernel
theorem dX12_shut_48 : decode cX12_shut 48 = .ok (.iastore, 1) := by decide +kernel
theorem dX12_shut_49 : decode cX12_shut 49 = .ok (.aload_n 0, 1) := by decide +kernel
theorem dX12_shut_50 : decode cX12_shut 50 = .ok (.getfield 91, 3) := by decide +kernel
theorem dX12_shut_53 : decode cX12_shut 53 = .ok (.aload_n 0, 1) := by decide +kernel
theorem dX12_shut_54 : decode cX12_shut 54 = .ok (.getfield 466, 3) := by decide +kernel
theorem dX12_shut_57 : decode cX12_shut 57 = .ok (.iload_n 2, 1) := by decide +kernel
theorem dX12_shut_58 : decode cX12_shut 58 = .ok (.iastore, 1) := by decide +kernel
theorem dX12_shut_59 : decode cX12_shut 59 = .ok (.aload_n 0, 1) := by decide +kernel
theorem dX12_shut_60 : decode cX12_shut 60 = .ok (.getfield 94, 3) := by decide +kernel
theorem dX12_shut_63 : decode cX12_shut 63 = .ok (.aload_n 0, 1) := by decide +kernel
theorem dX12_shut_64 : decode cX12_shut 64 = .ok (.getfield 466, 3) := by decide +kernel
theorem dX12_shut_67 : decode cX12_shut 67 = .ok (.iload_n 3, 1) := by decide +kernel
theorem dX12_shut_68 : decode cX12_shut 68 = .ok (.iastore, 1) := by decide +kernel
theorem dX12_shut_69 : decode cX12_shut 69 = .ok (.aload_n 0, 1) := by decide +kernel
theorem dX12_shut_70 : decode cX12_shut 70 = .ok (.getfield 97, 3) := by decide +kernel
theorem dX12_shut_73 : decode cX12_shut 73 = .ok (.aload_n 0, 1) := by decide +kernel
theorem dX12_shut_74 : decode cX12_shut 74 = .ok (.getfield 466, 3) := by decide +kernel
theorem dX12_shut_77 : decode cX12_shut 77 = .ok (.ldc_w 280, 3) := by decide +kernel
theorem dX12_shut_80 : decode cX12_shut 80 = .ok (.iastore, 1) := by decide +kernel
theorem dX12_shut_81 : decode cX12_shut 81 = .ok (.aload_n 0, 1) := by decide +kernel
theorem dX12_shut_82 : decode cX12_shut 82 = .ok (.dup, 1) := by decide +kernel
theorem dX12_shut_83 : decode cX12_shut 83 = .ok (.getfield 466, 3) := by decide +kernel
theorem dX12_shut_86 : decode cX12_shut 86 = .ok (.iconst 1, 1) := by decide +kernel
theorem dX12_shut_87 : decode cX12_shut 87 = .ok (.iadd, 1) := by decide +kernel
theorem dX12_shut_88 : decode cX12_shut 88 = .ok (.putfield 466, 3) := by decide +kernel
theorem dX12_shut_91 : decode cX12_shut 91 = .ok (.aload_n 0, 1) := by decide +kernel
theorem dX12_shut_92 : decode cX12_shut 92 = .ok (.getfield 466, 3) := by decide +kernel
theorem dX12_shut_95 : decode cX12_shut 95 = .ok (.iconst 1, 1) := by decide +kernel
theorem dX12_shut_96 : decode cX12_shut 96 = .ok (.isub, 1) := by decide +kernel
theorem dX12_shut_97 : decode cX12_shut 97 = .ok (.ireturn, 1) := by decide +kernel
theorem dX12_readShut_0 : decode cX12_readShut 0 = .ok (.iload_n 1, 1) := by decide +kernel
theorem dX12_readShut_1 : decode cX12_readShut 1 = .ok (.iconst 0, 1) := by decide +kernel
theorem dX12_readShut_2 : decode cX12_readShut 2 = .ok (.aload_n 0, 1) := by decide +kernel
theorem dX12_readShut_3 : decode cX12_readShut 3 = .ok (.getfield 466, 3) := by decide +kernel
theorem dX12_readShut_6 : decode cX12_readShut 6 = .ok (.iconst 1, 1) := by decide +kernel
theorem dX12_readShut_7 : decode cX12_readShut 7 = .ok (.isub, 1) := by decide +kernel
theorem dX12_readShut_8 : decode cX12_readShut 8 = .ok (.invokestatic 269, 3) := by decide +kernel
theorem dX12_readShut_11 : decode cX12_readShut 11 = .ok (.ifCond .eq 15, 3) := by decide +kernel
theorem dX12_readShut_14 : decode cX12_readShut 14 = .ok (.aload_n 0, 1) := by decide +kernel
theorem dX12_readShut_15 : decode cX12_readShut 15 = .ok (.getfield 97, 3) := by decide +kernel
theorem dX12_readShut_18 : decode cX12_readShut 18 = .ok (.iload_n 1, 1) := by decide +kernel
theorem dX12_readShut_19 : decode cX12_readShut 19 = .ok (.iaload, 1) := by decide +kernel
theorem dX12_readShut_20 : decode cX12_readShut 20 = .ok (.ldc_w 280, 3) := by decide +kernel
theorem dX12_readShut_23 : decode cX12_readShut 23 = .ok (.if_icmp .eq 5, 3) := by decide +kernel
theorem dX12_readShut_26 : decode cX12_readShut 26 = .ok (.iconst 0, 1) := by decide +kernel
theorem dX12_readShut_27 : decode cX12_readShut 27 = .ok (.ireturn, 1) := by decide +kernel
theorem dX12_readShut_28 : decode cX12_readShut 28 = .ok (.aload_n 0, 1) := by decide +kernel
theorem dX12_readShut_29 : decode cX12_readShut 29 = .ok (.getfield 97, 3) := by decide +kernel
theorem dX12_readShut_32 : decode cX12_readShut 32 = .ok (.iload_n 1, 1) := by decide +kernel
theorem dX12_readShut_33 : decode cX12_readShut 33 = .ok (.aload_n 0, 1) := by decide +kernel
theorem dX12_readShut_34 : decode cX12_readShut 34 = .ok (.getfield 273, 3) := by decide +kernel
theorem dX12_readShut_37 : decode cX12_readShut 37 = .ok (.iastore, 1) := by decide +kernel
theorem dX12_readShut_38 : decode cX12_readShut 38 = .ok (.iconst 1, 1) := by decide +kernel
theorem dX12_readShut_39 : decode cX12_readShut 39 = .ok (.ireturn, 1) := by decide +kernel
theorem dX12_shuts_0 : decode cX12_shuts 0 = .ok (.iconst 0, 1) := by decide +kernel
theorem dX12_shuts_1 : decode cX12_shuts 1 = .ok (.istore 4, 2) := by decide +kernel
theorem dX12_shuts_3 : decode cX12_shuts 3 = .ok (.iconst 0, 1) := by decide +kernel
theorem dX12_shuts_4 : decode cX12_shuts 4 = .ok (.istore 5, 2) := by decide +kernel
theorem dX12_shuts_6 : decode cX12_shuts 6 = .ok (.iload 5, 2) := by decide +kernel
theorem dX12_shuts_8 : decode cX12_shuts 8 = .ok (.aload_n 0, 1) := by decide +kernel
theorem dX12_shuts_9 : decode cX12_shuts 9 = .ok (.getfield 466, 3) := by decide +kernel
theorem dX12_shuts_12 : decode cX12_shuts 12 = .ok (.if_icmp .ge 64, 3) := by decide +kernel
theorem dX12_shuts_15 : decode cX12_shuts 15 = .ok (.iload 4, 2) := by decide +kernel
theorem dX12_shuts_17 : decode cX12_shuts 17 = .ok (.ifCond .ne 46, 3) := by decide +kernel
theorem dX12_shuts_20 : decode cX12_shuts 20 = .ok (.aload_n 0, 1) := by decide +kernel
theorem dX12_shuts_21 : decode cX12_shuts 21 = .ok (.getfield 88, 3) := by decide +kernel
theorem dX12_shuts_24 : decode cX12_shuts 24 = .ok (.iload 5, 2) := by decide +kernel
theorem dX12_shuts_26 : decode cX12_shuts 26 = .ok (.iaload, 1) := by decide +kernel
theorem dX12_shuts_27 : decode cX12_shuts 27 = .ok (.iload_n 1, 1) := by decide +kernel
theorem dX12_shuts_28 : decode cX12_shuts 28 = .ok (.if_icmp .ne 39, 3) := by decide +kernel
theorem dX12_shuts_31 : decode cX12_shuts 31 = .ok (.iload_n 2, 1) := by decide +kernel
theorem dX12_shuts_32 : decode cX12_shuts 32 = .ok (.aload_n 0, 1) := by decide +kernel
theorem dX12_shuts_33 : decode cX12_shuts 33 = .ok (.getfield 91, 3) := by decide +kernel
theorem dX12_shuts_36 : decode cX12_shuts 36 = .ok (.iload 5, 2) := by decide +kernel
theorem dX12_shuts_38 : decode cX12_shuts 38 = .ok (.iaload, 1) := by decide +kernel
theorem dX12_shuts_39 : decode cX12_shuts 39 = .ok (.aload_n 0, 1) := by decide +kernel
theorem dX12_shuts_40 : decode cX12_shuts 40 = .ok (.getfield 94, 3) := by decide +kernel
theorem dX12_shuts_43 : decode cX12_shuts 43 = .ok (.iload 5, 2) := by decide +kernel
theorem dX12_shuts_45 : decode cX12_shuts 45 = .ok (.iaload, 1) := by decide +kernel
theorem dX12_shuts_46 : decode cX12_shuts 46 = .ok (.invokestatic 269, 3) := by decide +kernel
theorem dX12_shuts_49 : decode cX12_shuts 49 = .ok (.ifCond .eq 18, 3) := by decide +kernel
theorem dX12_shuts_52 : decode cX12_shuts 52 = .ok (.aload_n 0, 1) := by decide +kernel
theorem dX12_shuts_53 : decode cX12_shuts 53 = .ok (.getfield 97, 3) := by decide +kernel
theorem dX12_shuts_56 : decode cX12_shuts 56 = .ok (.iload 5, 2) := by decide +kernel
theorem dX12_shuts_58 : decode cX12_shuts 58 = .ok (.iaload, 1) := by decide +kernel
theorem dX12_shuts_59 : decode cX12_shuts 59 = .ok (.iload_n 3, 1) := by decide +kernel
theorem dX12_shuts_60 : decode cX12_shuts 60 = .ok (.if_icmp .gt 7, 3) := by decide +kernel
theorem dX12_shuts_63 : decode cX12_shuts 63 = .ok (.iconst 1, 1) := by decide +kernel
theorem dX12_shuts_64 : decode cX12_shuts 64 = .ok (.goto 4, 3) := by decide +kernel
theorem dX12_shuts_67 : decode cX12_shuts 67 = .ok (.iconst 0, 1) := by decide +kernel
theorem dX12_shuts_68 : decode cX12_shuts 68 = .ok (.istore 4, 2) := by decide +kernel
theorem dX12_shuts_70 : decode cX12_shuts 70 = .ok (.iinc 5 1, 3) := by decide +kernel
theorem dX12_shuts_73 : decode cX12_shuts 73 = .ok (.goto (-67), 3) := by decide +kernel
theorem dX12_shuts_76 : decode cX12_shuts 76 = .ok (.iload 4, 2) := by decide +kernel
theorem dX12_shuts_78 : decode cX12_shuts 78 = .ok (.ireturn, 1) := by decide +kernel
theorem dX12_isShut_0 : decode cX12_isShut 0 = .ok (.iload_n 1, 1) := by decide +kernel
theorem dX12_isShut_1 : decode cX12_isShut 1 = .ok (.iconst 0, 1) := by decide +kernel
theorem dX12_isShut_2 : decode cX12_isShut 2 = .ok (.bipush 7, 2) := by decide +kernel
theorem dX12_isShut_4 : decode cX12_isShut 4 = .ok (.invokestatic 269, 3) := by decide +kernel
theorem dX12_isShut_7 : decode cX12_isShut 7 = .ok (.ifCond .eq 35, 3) := by decide +kernel
theorem dX12_isShut_10 : decode cX12_isShut 10 = .ok (.iload_n 2, 1) := by decide +kernel
theorem dX12_isShut_11 : decode cX12_isShut 11 = .ok (.invokestatic 451, 3) := by decide +kernel
theorem dX12_isShut_14 : decode cX12_isShut 14 = .ok (.ifCond .eq 28, 3) := by decide +kernel
theorem dX12_isShut_17 : decode cX12_isShut 17 = .ok (.iload_n 3, 1) := by decide +kernel
theorem dX12_isShut_18 : decode cX12_isShut 18 = .ok (.invokestatic 451, 3) := by decide +kernel
theorem dX12_isShut_21 : decode cX12_isShut 21 = .ok (.ifCond .eq 21, 3) := by decide +kernel
theorem dX12_isShut_24 : decode cX12_isShut 24 = .ok (.aload_n 0, 1) := by decide +kernel
theorem dX12_isShut_25 : decode cX12_isShut 25 = .ok (.iload_n 1, 1) := by decide +kernel
theorem dX12_isShut_26 : decode cX12_isShut 26 = .ok (.iload_n 2, 1) := by decide +kernel
theorem dX12_isShut_27 : decode cX12_isShut 27 = .ok (.iload_n 3, 1) := by decide +kernel
theorem dX12_isShut_28 : decode cX12_isShut 28 = .ok (.invokevirtual 469, 3) := by decide +kernel
theorem dX12_isShut_31 : decode cX12_isShut 31 = .ok (.ifCond .eq 7, 3) := by decide +kernel
theorem dX12_isShut_34 : decode cX12_isShut 34 = .ok (.iconst 1, 1) := by decide +kernel
theorem dX12_isShut_35 : decode cX12_isShut 35 = .ok (.goto 8, 3) := by decide +kernel
theorem dX12_isShut_38 : decode cX12_isShut 38 = .ok (.iconst 0, 1) := by decide +kernel
theorem dX12_isShut_39 : decode cX12_isShut 39 = .ok (.goto 4, 3) := by decide +kernel
theorem dX12_isShut_42 : decode cX12_isShut 42 = .ok (.iconst (-1), 1) := by decide +kernel
theorem dX12_isShut_43 : decode cX12_isShut 43 = .ok (.ireturn, 1) := by decide +kernel
theorem dX12_owes_0 : decode cX12_owes 0 = .ok (.iconst 0, 1) := by decide +kernel
theorem dX12_owes_1 : decode cX12_owes 1 = .ok (.istore_n 3, 1) := by decide +kernel
theorem dX12_owes_2 : decode cX12_owes 2 = .ok (.iconst 0, 1) := by decide +kernel
theorem dX12_owes_3 : decode cX12_owes 3 = .ok (.istore 4, 2) := by decide +kernel
theorem dX12_owes_5 : decode cX12_owes 5 = .ok (.iload 4, 2) := by decide +kernel
theorem dX12_owes_7 : decode cX12_owes 7 = .ok (.aload_n 0, 1) := by decide +kernel
theorem dX12_owes_8 : decode cX12_owes 8 = .ok (.getfield 472, 3) := by decide +kernel
theorem dX12_owes_11 : decode cX12_owes 11 = .ok (.if_icmp .ge 91, 3) := by decide +kernel
theorem dX12_owes_14 : decode cX12_owes 14 = .ok (.aload_n 0, 1) := by decide +kernel
theorem dX12_owes_15 : decode cX12_owes 15 = .ok (.getfield 103, 3) := by decide +kernel
theorem dX12_owes_18 : decode cX12_owes 18 = .ok (.iload 4, 2) := by decide +kernel
theorem dX12_owes_20 : decode cX12_owes 20 = .ok (.iaload, 1) := by decide +kernel
theorem dX12_owes_21 : decode cX12_owes 21 = .ok (.iload_n 1, 1) := by decide +kernel
theorem dX12_owes_22 : decode cX12_owes 22 = .ok (.if_icmp .eq 6, 3) := by decide +kernel
theorem dX12_owes_25 : decode cX12_owes 25 = .ok (.goto 71, 3) := by decide +kernel
theorem dX12_owes_28 : decode cX12_owes 28 = .ok (.iload_n 3, 1) := by decide +kernel
theorem dX12_owes_29 : decode cX12_owes 29 = .ok (.iload_n 2, 1) := by decide +kernel
theorem dX12_owes_30 : decode cX12_owes 30 = .ok (.ifCond .eq 17, 3) := by decide +kernel
theorem dX12_owes_33 : decode cX12_owes 33 = .ok (.aload_n 0, 1) := by decide +kernel
theorem dX12_owes_34 : decode cX12_owes 34 = .ok (.getfield 115, 3) := by decide +kernel
theorem dX12_owes_37 : decode cX12_owes 37 = .ok (.iload 4, 2) := by decide +kernel
theorem dX12_owes_39 : decode cX12_owes 39 = .ok (.iaload, 1) := by decide +kernel
theorem dX12_owes_40 : decode cX12_owes 40 = .ok (.aload_n 0, 1) := by decide +kernel
theorem dX12_owes_41 : decode cX12_owes 41 = .ok (.getfield 273, 3) := by decide +kernel
theorem dX12_owes_44 : decode cX12_owes 44 = .ok (.if_icmp .ge 13, 3) := by decide +kernel
theorem dX12_owes_47 : decode cX12_owes 47 = .ok (.aload_n 0, 1) := by decide +kernel
theorem dX12_owes_48 : decode cX12_owes 48 = .ok (.getfield 112, 3) := by decide +kernel
theorem dX12_owes_51 : decode cX12_owes 51 = .ok (.iload 4, 2) := by decide +kernel
theorem dX12_owes_53 : decode cX12_owes 53 = .ok (.iaload, 1) := by decide +kernel
theorem dX12_owes_54 : decode cX12_owes 54 = .ok (.goto 4, 3) := by decide +kernel
theorem dX12_owes_57 : decode cX12_owes 57 = .ok (.iconst 0, 1) := by decide +kernel
theorem dX12_owes_58 : decode cX12_owes 58 = .ok (.iadd, 1) := by decide +kernel
theorem dX12_owes_59 : decode cX12_owes 59 = .ok (.istore_n 3, 1) := by decide +kernel
theorem dX12_owes_60 : decode cX12_owes 60 = .ok (.iconst 0, 1) := by decide +kernel
theorem dX12_owes_61 : decode cX12_owes 61 = .ok (.istore 5, 2) := by decide +kernel
theorem dX12_owes_63 : decode cX12_owes 63 = .ok (.iload 5, 2) := by decide +kernel
theorem dX12_owes_65 : decode cX12_owes 65 = .ok (.aload_n 0, 1) := by decide +kernel
theorem dX12_owes_66 : decode cX12_owes 66 = .ok (.getfield 130, 3) := by decide +kernel
theorem dX12_owes_69 : decode cX12_owes 69 = .ok (.iload 4, 2) := by decide +kernel
theorem dX12_owes_71 : decode cX12_owes 71 = .ok (.iaload, 1) := by decide +kernel
theorem dX12_owes_72 : decode cX12_owes 72 = .ok (.if_icmp .ge 24, 3) := by decide +kernel
theorem dX12_owes_75 : decode cX12_owes 75 = .ok (.iload_n 3, 1) := by decide +kernel
theorem dX12_owes_76 : decode cX12_owes 76 = .ok (.aload_n 0, 1) := by decide +kernel
theorem dX12_owes_77 : decode cX12_owes 77 = .ok (.getfield 136, 3) := by decide +kernel
theorem dX12_owes_80 : decode cX12_owes 80 = .ok (.iconst 3, 1) := by decide +kernel
theorem dX12_owes_81 : decode cX12_owes 81 = .ok (.iload 4, 2) := by decide +kernel
theorem dX12_owes_83 : decode cX12_owes 83 = .ok (.imul, 1) := by decide +kernel
theorem dX12_owes_84 : decode cX12_owes 84 = .ok (.iload 5, 2) := by decide +kernel
theorem dX12_owes_86 : decode cX12_owes 86 = .ok (.iadd, 1) := by decide +kernel
theorem dX12_owes_87 : decode cX12_owes 87 = .ok (.iaload, 1) := by decide +kernel
theorem dX12_owes_88 : decode cX12_owes 88 = .ok (.iadd, 1) := by decide +kernel
theorem dX12_owes_89 : decode cX12_owes 89 = .ok (.istore_n 3, 1) := by decide +kernel
theorem dX12_owes_90 : decode cX12_owes 90 = .ok (.iinc 5 1, 3) := by decide +kernel
theorem dX12_owes_93 : decode cX12_owes 93 = .ok (.goto (-30), 3) := by decide +kernel
theorem dX12_owes_96 : decode cX12_owes 96 = .ok (.iinc 4 1, 3) := by decide +kernel
theorem dX12_owes_99 : decode cX12_owes 99 = .ok (.goto (-94), 3) := by decide +kernel
theorem dX12_owes_102 : decode cX12_owes 102 = .ok (.iload_n 3, 1) := by decide +kernel
theorem dX12_owes_103 : decode cX12_owes 103 = .ok (.ireturn, 1) := by decide +kernel
theorem dX12_asked_0 : decode cX12_asked 0 = .ok (.aload_n 0, 1) := by decide +kernel
theorem dX12_asked_1 : decode cX12_asked 1 = .ok (.iload_n 1, 1) := by decide +kernel
theorem dX12_asked_2 : decode cX12_asked 2 = .ok (.invokevirtual 285, 3) := by decide +kernel
theorem dX12_asked_5 : decode cX12_asked 5 = .ok (.ifCond .eq 16, 3) := by decide +kernel
theorem dX12_asked_8 : decode cX12_asked 8 = .ok (.aload_n 0, 1) := by decide +kernel
theorem dX12_asked_9 : decode cX12_asked 9 = .ok (.iload_n 2, 1) := by decide +kernel
theorem dX12_asked_10 : decode cX12_asked 10 = .ok (.invokevirtual 285, 3) := by decide +kernel
theorem dX12_asked_13 : decode cX12_asked 13 = .ok (.ifCond .eq 8, 3) := by decide +kernel
theorem dX12_asked_16 : decode cX12_asked 16 = .ok (.iload_n 1, 1) := by decide +kernel
theorem dX12_asked_17 : decode cX12_asked 17 = .ok (.iload_n 2, 1) := by decide +kernel
theorem dX12_asked_18 : decode cX12_asked 18 = .ok (.if_icmp .ne 5, 3) := by decide +kernel
theorem dX12_asked_21 : decode cX12_asked 21 = .ok (.iconst 1, 1) := by decide +kernel
theorem dX12_asked_22 : decode cX12_asked 22 = .ok (.ireturn, 1) := by decide +kernel
theorem dX12_asked_23 : decode cX12_asked 23 = .ok (.aload_n 0, 1) := by decide +kernel
theorem dX12_asked_24 : decode cX12_asked 24 = .ok (.iload_n 3, 1) := by decide +kernel
theorem dX12_asked_25 : decode cX12_asked 25 = .ok (.invokevirtual 295, 3) := by decide +kernel
theorem dX12_asked_28 : decode cX12_asked 28 = .ok (.ifCond .eq 28, 3) := by decide +kernel
theorem dX12_asked_31 : decode cX12_asked 31 = .ok (.aload_n 0, 1) := by decide +kernel
theorem dX12_asked_32 : decode cX12_asked 32 = .ok (.getfield 38, 3) := by decide +kernel
theorem dX12_asked_35 : decode cX12_asked 35 = .ok (.iload_n 3, 1) := by decide +kernel
theorem dX12_asked_36 : decode cX12_asked 36 = .ok (.iaload, 1) := by decide +kernel
theorem dX12_asked_37 : decode cX12_asked 37 = .ok (.iload_n 1, 1) := by decide +kernel
theorem dX12_asked_38 : decode cX12_asked 38 = .ok (.if_icmp .ne 18, 3) := by decide +kernel
theorem dX12_asked_41 : decode cX12_asked 41 = .ok (.iload 4, 2) := by decide +kernel
theorem dX12_asked_43 : decode cX12_asked 43 = .ok (.iconst 1, 1) := by decide +kernel
theorem dX12_asked_44 : decode cX12_asked 44 = .ok (.aload_n 0, 1) := by decide +kernel
theorem dX12_asked_45 : decode cX12_asked 45 = .ok (.getfield 35, 3) := by decide +kernel
theorem dX12_asked_48 : decode cX12_asked 48 = .ok (.iload_n 3, 1) := by decide +kernel
theorem dX12_asked_49 : decode cX12_asked 49 = .ok (.iaload, 1) := by decide +kernel
theorem dX12_asked_50 : decode cX12_asked 50 = .ok (.invokestatic 269, 3) := by decide +kernel
theorem dX12_asked_53 : decode cX12_asked 53 = .ok (.ifCond .ne 5, 3) := by decide +kernel
theorem dX12_asked_56 : decode cX12_asked 56 = .ok (.iconst 2, 1) := by decide +kernel
theorem dX12_asked_57 : decode cX12_asked 57 = .ok (.ireturn, 1) := by decide +kernel
theorem dX12_asked_58 : decode cX12_asked 58 = .ok (.iload 5, 2) := by decide +kernel
theorem dX12_asked_60 : decode cX12_asked 60 = .ok (.iconst 0, 1) := by decide +kernel
theorem dX12_asked_61 : decode cX12_asked 61 = .ok (.ldc_w 279, 3) := by decide +kernel
theorem dX12_asked_64 : decode cX12_asked 64 = .ok (.invokestatic 269, 3) := by decide +kernel
theorem dX12_asked_67 : decode cX12_asked 67 = .ok (.ifCond .eq 26, 3) := by decide +kernel
theorem dX12_asked_70 : decode cX12_asked 70 = .ok (.iload 6, 2) := by decide +kernel
theorem dX12_asked_72 : decode cX12_asked 72 = .ok (.iconst 0, 1) := by decide +kernel
theorem dX12_asked_73 : decode cX12_asked 73 = .ok (.sipush 720, 3) := by decide +kernel
theorem dX12_asked_76 : decode cX12_asked 76 = .ok (.invokestatic 269, 3) := by decide +kernel
theorem dX12_asked_79 : decode cX12_asked 79 = .ok (.ifCond .eq 14, 3) := by decide +kernel
theorem dX12_asked_82 : decode cX12_asked 82 = .ok (.iload 7, 2) := by decide +kernel
theorem dX12_asked_84 : decode cX12_asked 84 = .ok (.iconst 0, 1) := by decide +kernel
theorem dX12_asked_85 : decode cX12_asked 85 = .ok (.bipush 23, 2) := by decide +kernel
theorem dX12_asked_87 : decode cX12_asked 87 = .ok (.invokestatic 269, 3) := by decide +kernel
theorem dX12_asked_90 : decode cX12_asked 90 = .ok (.ifCond .ne 7, 3) := by decide +kernel
theorem dX12_asked_93 : decode cX12_asked 93 = .ok (.iconst 3, 1) := by decide +kernel
theorem dX12_asked_94 : decode cX12_asked 94 = .ok (.goto 4, 3) := by decide +kernel
theorem dX12_asked_97 : decode cX12_asked 97 = .ok (.iconst 0, 1) := by decide +kernel
theorem dX12_asked_98 : decode cX12_asked 98 = .ok (.ireturn, 1) := by decide +kernel
theorem dX12_isShutTo_0 : decode cX12_isShutTo 0 = .ok (.aload_n 0, 1) := by decide +kernel
theorem dX12_isShutTo_1 : decode cX12_isShutTo 1 = .ok (.getfield 9, 3) := by decide +kernel
theorem dX12_isShutTo_4 : decode cX12_isShutTo 4 = .ok (.iload_n 1, 1) := by decide +kernel
theorem dX12_isShutTo_5 : decode cX12_isShutTo 5 = .ok (.iaload, 1) := by decide +kernel
theorem dX12_isShutTo_6 : decode cX12_isShutTo 6 = .ok (.bipush 8, 2) := by decide +kernel
theorem dX12_isShutTo_8 : decode cX12_isShutTo 8 = .ok (.if_icmp .ge 28, 3) := by decide +kernel
theorem dX12_isShutTo_11 : decode cX12_isShutTo 11 = .ok (.aload_n 0, 1) := by decide +kernel
theorem dX12_isShutTo_12 : decode cX12_isShutTo 12 = .ok (.aload_n 0, 1) := by decide +kernel
theorem dX12_isShutTo_13 : decode cX12_isShutTo 13 = .ok (.getfield 9, 3) := by decide +kernel
theorem dX12_isShutTo_16 : decode cX12_isShutTo 16 = .ok (.iload_n 1, 1) := by decide +kernel
theorem dX12_isShutTo_17 : decode cX12_isShutTo 17 = .ok (.iaload, 1) := by decide +kernel
theorem dX12_isShutTo_18 : decode cX12_isShutTo 18 = .ok (.aload_n 0, 1) := by decide +kernel
theorem dX12_isShutTo_19 : decode cX12_isShutTo 19 = .ok (.getfield 273, 3) := by decide +kernel
theorem dX12_isShutTo_22 : decode cX12_isShutTo 22 = .ok (.aload_n 0, 1) := by decide +kernel
theorem dX12_isShutTo_23 : decode cX12_isShutTo 23 = .ok (.getfield 273, 3) := by decide +kernel
theorem dX12_isShutTo_26 : decode cX12_isShutTo 26 = .ok (.invokevirtual 469, 3) := by decide +kernel
theorem dX12_isShutTo_29 : decode cX12_isShutTo 29 = .ok (.ifCond .eq 7, 3) := by decide +kernel
theorem dX12_isShutTo_32 : decode cX12_isShutTo 32 = .ok (.iconst 1, 1) := by decide +kernel
theorem dX12_isShutTo_33 : decode cX12_isShutTo 33 = .ok (.goto 4, 3) := by decide +kernel
theorem dX12_isShutTo_36 : decode cX12_isShutTo 36 = .ok (.iconst 0, 1) := by decide +kernel
theorem dX12_isShutTo_37 : decode cX12_isShutTo 37 = .ok (.ireturn, 1) := by decide +kernel
theorem dX12_weighs_0 : decode cX12_weighs 0 = .ok (.aload_n 0, 1) := by decide +kernel
theorem dX12_weighs_1 : decode cX12_weighs 1 = .ok (.aload_n 0, 1) := by decide +kernel
theorem dX12_weighs_2 : decode cX12_weighs 2 = .ok (.getfield 273, 3) := by decide +kernel
theorem dX12_weighs_5 : decode cX12_weighs 5 = .ok (.invokevirtual 475, 3) := by decide +kernel
theorem dX12_weighs_8 : decode cX12_weighs 8 = .ok (.istore 8, 2) := by decide +kernel
theorem dX12_weighs_10 : decode cX12_weighs 10 = .ok (.aload_n 0, 1) := by decide +kernel
theorem dX12_weighs_11 : decode cX12_weighs 11 = .ok (.getfield 85, 3) := by decide +kernel
theorem dX12_weighs_14 : decode cX12_weighs 14 = .ok (.iconst 0, 1) := by decide +kernel
theorem dX12_weighs_15 : decode cX12_weighs 15 = .ok (.aload_n 0, 1) := by decide +kernel
theorem dX12_weighs_16 : decode cX12_weighs 16 = .ok (.getfield 9, 3) := by decide +kernel
theorem dX12_weighs_19 : decode cX12_weighs 19 = .ok (.iload_n 1, 1) := by decide +kernel
theorem dX12_weighs_20 : decode cX12_weighs 20 = .ok (.iaload, 1) := by decide +kernel
theorem dX12_weighs_21 : decode cX12_weighs 21 = .ok (.i2l, 1) := by decide +kernel
theorem dX12_weighs_22 : decode cX12_weighs 22 = .ok (.lastore, 1) := by decide +kernel
theorem dX12_weighs_23 : decode cX12_weighs 23 = .ok (.aload_n 0, 1) := by decide +kernel
theorem dX12_weighs_24 : decode cX12_weighs 24 = .ok (.getfield 85, 3) := by decide +kernel
theorem dX12_weighs_27 : decode cX12_weighs 27 = .ok (.iconst 1, 1) := by decide +kernel
theorem dX12_weighs_28 : decode cX12_weighs 28 = .ok (.aload_n 0, 1) := by decide +kernel
theorem dX12_weighs_29 : decode cX12_weighs 29 = .ok (.getfield 9, 3) := by decide +kernel
theorem dX12_weighs_32 : decode cX12_weighs 32 = .ok (.iload_n 2, 1) := by decide +kernel
theorem dX12_weighs_33 : decode cX12_weighs 33 = .ok (.iaload, 1) := by decide +kernel
theorem dX12_weighs_34 : decode cX12_weighs 34 = .ok (.i2l, 1) := by decide +kernel
theorem dX12_weighs_35 : decode cX12_weighs 35 = .ok (.lastore, 1) := by decide +kernel
theorem dX12_weighs_36 : decode cX12_weighs 36 = .ok (.aload_n 0, 1) := by decide +kernel
theorem dX12_weighs_37 : decode cX12_weighs 37 = .ok (.getfield 85, 3) := by decide +kernel
theorem dX12_weighs_40 : decode cX12_weighs 40 = .ok (.iconst 2, 1) := by decide +kernel
theorem dX12_weighs_41 : decode cX12_weighs 41 = .ok (.aload_n 0, 1) := by decide +kernel
theorem dX12_weighs_42 : decode cX12_weighs 42 = .ok (.getfield 32, 3) := by decide +kernel
theorem dX12_weighs_45 : decode cX12_weighs 45 = .ok (.iload_n 3, 1) := by decide +kernel
theorem dX12_weighs_46 : decode cX12_weighs 46 = .ok (.iaload, 1) := by decide +kernel
theorem dX12_weighs_47 : decode cX12_weighs 47 = .ok (.i2l, 1) := by decide +kernel
theorem dX12_weighs_48 : decode cX12_weighs 48 = .ok (.lastore, 1) := by decide +kernel
theorem dX12_weighs_49 : decode cX12_weighs 49 = .ok (.aload_n 0, 1) := by decide +kernel
theorem dX12_weighs_50 : decode cX12_weighs 50 = .ok (.getfield 85, 3) := by decide +kernel
theorem dX12_weighs_53 : decode cX12_weighs 53 = .ok (.iconst 3, 1) := by decide +kernel
theorem dX12_weighs_54 : decode cX12_weighs 54 = .ok (.iload 4, 2) := by decide +kernel
theorem dX12_weighs_56 : decode cX12_weighs 56 = .ok (.i2l, 1) := by decide +kernel
theorem dX12_weighs_57 : decode cX12_weighs 57 = .ok (.lastore, 1) := by decide +kernel
theorem dX12_weighs_58 : decode cX12_weighs 58 = .ok (.aload_n 0, 1) := by decide +kernel
theorem dX12_weighs_59 : decode cX12_weighs 59 = .ok (.getfield 85, 3) := by decide +kernel
theorem dX12_weighs_62 : decode cX12_weighs 62 = .ok (.iconst 4, 1) := by decide +kernel
theorem dX12_weighs_63 : decode cX12_weighs 63 = .ok (.iload 5, 2) := by decide +kernel
theorem dX12_weighs_65 : decode cX12_weighs 65 = .ok (.i2l, 1) := by decide +kernel
theorem dX12_weighs_66 : decode cX12_weighs 66 = .ok (.lastore, 1) := by decide +kernel
theorem dX12_weighs_67 : decode cX12_weighs 67 = .ok (.aload_n 0, 1) := by decide +kernel
theorem dX12_weighs_68 : decode cX12_weighs 68 = .ok (.getfield 85, 3) := by decide +kernel
theorem dX12_weighs_71 : decode cX12_weighs 71 = .ok (.iconst 5, 1) := by decide +kernel
theorem dX12_weighs_72 : decode cX12_weighs 72 = .ok (.iload 6, 2) := by decide +kernel
theorem dX12_weighs_74 : decode cX12_weighs 74 = .ok (.i2l, 1) := by decide +kernel
theorem dX12_weighs_75 : decode cX12_weighs 75 = .ok (.lastore, 1) := by decide +kernel
theorem dX12_weighs_76 : decode cX12_weighs 76 = .ok (.aload_n 0, 1) := by decide +kernel
theorem dX12_weighs_77 : decode cX12_weighs 77 = .ok (.getfield 85, 3) := by decide +kernel
theorem dX12_weighs_80 : decode cX12_weighs 80 = .ok (.bipush 6, 2) := by decide +kernel
theorem dX12_weighs_82 : decode cX12_weighs 82 = .ok (.iload 7, 2) := by decide +kernel
theorem dX12_weighs_84 : decode cX12_weighs 84 = .ok (.i2l, 1) := by decide +kernel
theorem dX12_weighs_85 : decode cX12_weighs 85 = .ok (.lastore, 1) := by decide +kernel
theorem dX12_weighs_86 : decode cX12_weighs 86 = .ok (.aload_n 0, 1) := by decide +kernel
theorem dX12_weighs_87 : decode cX12_weighs 87 = .ok (.getfield 85, 3) := by decide +kernel
theorem dX12_weighs_90 : decode cX12_weighs 90 = .ok (.bipush 7, 2) := by decide +kernel
theorem dX12_weighs_92 : decode cX12_weighs 92 = .ok (.aload_n 0, 1) := by decide +kernel
theorem dX12_weighs_93 : decode cX12_weighs 93 = .ok (.getfield 273, 3) := by decide +kernel
theorem dX12_weighs_96 : decode cX12_weighs 96 = .ok (.i2l, 1) := by decide +kernel
theorem dX12_weighs_97 : decode cX12_weighs 97 = .ok (.lastore, 1) := by decide +kernel
theorem dX12_weighs_98 : decode cX12_weighs 98 = .ok (.aload_n 0, 1) := by decide +kernel
theorem dX12_weighs_99 : decode cX12_weighs 99 = .ok (.getfield 85, 3) := by decide +kernel
theorem dX12_weighs_102 : decode cX12_weighs 102 = .ok (.bipush 8, 2) := by decide +kernel
theorem dX12_weighs_104 : decode cX12_weighs 104 = .ok (.aload_n 0, 1) := by decide +kernel
theorem dX12_weighs_105 : decode cX12_weighs 105 = .ok (.getfield 28, 3) := by decide +kernel
theorem dX12_weighs_108 : decode cX12_weighs 108 = .ok (.iload_n 1, 1) := by decide +kernel
theorem dX12_weighs_109 : decode cX12_weighs 109 = .ok (.baload, 1) := by decide +kernel
theorem dX12_weighs_110 : decode cX12_weighs 110 = .ok (.ifCond .ne 12, 3) := by decide +kernel
theorem dX12_weighs_113 : decode cX12_weighs 113 = .ok (.aload_n 0, 1) := by decide +kernel
theorem dX12_weighs_114 : decode cX12_weighs 114 = .ok (.getfield 28, 3) := by decide +kernel
theorem dX12_weighs_117 : decode cX12_weighs 117 = .ok (.iload_n 2, 1) := by decide +kernel
theorem dX12_weighs_118 : decode cX12_weighs 118 = .ok (.baload, 1) := by decide +kernel
theorem dX12_weighs_119 : decode cX12_weighs 119 = .ok (.ifCond .eq 7, 3) := by decide +kernel
theorem dX12_weighs_122 : decode cX12_weighs 122 = .ok (.iconst 1, 1) := by decide +kernel
theorem dX12_weighs_123 : decode cX12_weighs 123 = .ok (.goto 4, 3) := by decide +kernel
theorem dX12_weighs_126 : decode cX12_weighs 126 = .ok (.iconst 0, 1) := by decide +kernel
theorem dX12_weighs_127 : decode cX12_weighs 127 = .ok (.invokestatic 462, 3) := by decide +kernel
theorem dX12_weighs_130 : decode cX12_weighs 130 = .ok (.lastore, 1) := by decide +kernel
theorem dX12_weighs_131 : decode cX12_weighs 131 = .ok (.aload_n 0, 1) := by decide +kernel
theorem dX12_weighs_132 : decode cX12_weighs 132 = .ok (.getfield 85, 3) := by decide +kernel
theorem dX12_weighs_135 : decode cX12_weighs 135 = .ok (.bipush 9, 2) := by decide +kernel
theorem dX12_weighs_137 : decode cX12_weighs 137 = .ok (.iload 8, 2) := by decide +kernel
theorem dX12_weighs_139 : decode cX12_weighs 139 = .ok (.iload_n 1, 1) := by decide +kernel
theorem dX12_weighs_140 : decode cX12_weighs 140 = .ok (.if_icmp .eq 9, 3) := by decide +kernel
theorem dX12_weighs_143 : decode cX12_weighs 143 = .ok (.iload 8, 2) := by decide +kernel
theorem dX12_weighs_145 : decode cX12_weighs 145 = .ok (.iload_n 2, 1) := by decide +kernel
theorem dX12_weighs_146 : decode cX12_weighs 146 = .ok (.if_icmp .ne 7, 3) := by decide +kernel
theorem dX12_weighs_149 : decode cX12_weighs 149 = .ok (.iconst 1, 1) := by decide +kernel
theorem dX12_weighs_150 : decode cX12_weighs 150 = .ok (.goto 4, 3) := by decide +kernel
theorem dX12_weighs_153 : decode cX12_weighs 153 = .ok (.iconst 0, 1) := by decide +kernel
theorem dX12_weighs_154 : decode cX12_weighs 154 = .ok (.invokestatic 462, 3) := by decide +kernel
theorem dX12_weighs_157 : decode cX12_weighs 157 = .ok (.lastore, 1) := by decide +kernel
theorem dX12_weighs_158 : decode cX12_weighs 158 = .ok (.aload_n 0, 1) := by decide +kernel
theorem dX12_weighs_159 : decode cX12_weighs 159 = .ok (.getfield 85, 3) := by decide +kernel
theorem dX12_weighs_162 : decode cX12_weighs 162 = .ok (.bipush 10, 2) := by decide +kernel
theorem dX12_weighs_164 : decode cX12_weighs 164 = .ok (.aload_n 0, 1) := by decide +kernel
theorem dX12_weighs_165 : decode cX12_weighs 165 = .ok (.iload_n 2, 1) := by decide +kernel
theorem dX12_weighs_166 : decode cX12_weighs 166 = .ok (.iconst 0, 1) := by decide +kernel
theorem dX12_weighs_167 : decode cX12_weighs 167 = .ok (.invokevirtual 478, 3) := by decide +kernel
theorem dX12_weighs_170 : decode cX12_weighs 170 = .ok (.i2l, 1) := by decide +kernel
theorem dX12_weighs_171 : decode cX12_weighs 171 = .ok (.lastore, 1) := by decide +kernel
theorem dX12_weighs_172 : decode cX12_weighs 172 = .ok (.aload_n 0, 1) := by decide +kernel
theorem dX12_weighs_173 : decode cX12_weighs 173 = .ok (.getfield 85, 3) := by decide +kernel
theorem dX12_weighs_176 : decode cX12_weighs 176 = .ok (.bipush 11, 2) := by decide +kernel
theorem dX12_weighs_178 : decode cX12_weighs 178 = .ok (.aload_n 0, 1) := by decide +kernel
theorem dX12_weighs_179 : decode cX12_weighs 179 = .ok (.iload_n 2, 1) := by decide +kernel
theorem dX12_weighs_180 : decode cX12_weighs 180 = .ok (.iconst 1, 1) := by decide +kernel
theorem dX12_weighs_181 : decode cX12_weighs 181 = .ok (.invokevirtual 478, 3) := by decide +kernel
theorem dX12_weighs_184 : decode cX12_weighs 184 = .ok (.i2l, 1) := by decide +kernel
theorem dX12_weighs_185 : decode cX12_weighs 185 = .ok (.lastore, 1) := by decide +kernel
theorem dX12_weighs_186 : decode cX12_weighs 186 = .ok (.aload_n 0, 1) := by decide +kernel
theorem dX12_weighs_187 : decode cX12_weighs 187 = .ok (.getfield 85, 3) := by decide +kernel
theorem dX12_weighs_190 : decode cX12_weighs 190 = .ok (.bipush 12, 2) := by decide +kernel
theorem dX12_weighs_192 : decode cX12_weighs 192 = .ok (.aload_n 0, 1) := by decide +kernel
theorem dX12_weighs_193 : decode cX12_weighs 193 = .ok (.iload_n 1, 1) := by decide +kernel
theorem dX12_weighs_194 : decode cX12_weighs 194 = .ok (.invokevirtual 481, 3) := by decide +kernel
theorem dX12_weighs_197 : decode cX12_weighs 197 = .ok (.ifCond .ne 11, 3) := by decide +kernel
theorem dX12_weighs_200 : decode cX12_weighs 200 = .ok (.aload_n 0, 1) := by decide +kernel
theorem dX12_weighs_201 : decode cX12_weighs 201 = .ok (.iload_n 2, 1) := by decide +kernel
theorem dX12_weighs_202 : decode cX12_weighs 202 = .ok (.invokevirtual 481, 3) := by decide +kernel
theorem dX12_weighs_205 : decode cX12_weighs 205 = .ok (.ifCond .eq 7, 3) := by decide +kernel
theorem dX12_weighs_208 : decode cX12_weighs 208 = .ok (.iconst 1, 1) := by decide +kernel
theorem dX12_weighs_209 : decode cX12_weighs 209 = .ok (.goto 4, 3) := by decide +kernel
theorem dX12_weighs_212 : decode cX12_weighs 212 = .ok (.iconst 0, 1) := by decide +kernel
theorem dX12_weighs_213 : decode cX12_weighs 213 = .ok (.invokestatic 462, 3) := by decide +kernel
theorem dX12_weighs_216 : decode cX12_weighs 216 = .ok (.lastore, 1) := by decide +kernel
theorem dX12_weighs_217 : decode cX12_weighs 217 = .ok (.aload_n 0, 1) := by decide +kernel
theorem dX12_weighs_218 : decode cX12_weighs 218 = .ok (.getfield 85, 3) := by decide +kernel
theorem dX12_weighs_221 : decode cX12_weighs 221 = .ok (.bipush 13, 2) := by decide +kernel
theorem dX12_weighs_223 : decode cX12_weighs 223 = .ok (.aload_n 0, 1) := by decide +kernel
theorem dX12_weighs_224 : decode cX12_weighs 224 = .ok (.bipush 8, 2) := by decide +kernel
theorem dX12_weighs_226 : decode cX12_weighs 226 = .ok (.aload_n 0, 1) := by decide +kernel
theorem dX12_weighs_227 : decode cX12_weighs 227 = .ok (.getfield 32, 3) := by decide +kernel
theorem dX12_weighs_230 : decode cX12_weighs 230 = .ok (.iload_n 3, 1) := by decide +kernel
theorem dX12_weighs_231 : decode cX12_weighs 231 = .ok (.iaload, 1) := by decide +kernel
theorem dX12_weighs_232 : decode cX12_weighs 232 = .ok (.aload_n 0, 1) := by decide +kernel
theorem dX12_weighs_233 : decode cX12_weighs 233 = .ok (.getfield 273, 3) := by decide +kernel
theorem dX12_weighs_236 : decode cX12_weighs 236 = .ok (.iconst 0, 1) := by decide +kernel
theorem dX12_weighs_237 : decode cX12_weighs 237 = .ok (.invokevirtual 484, 3) := by decide +kernel
theorem dX12_weighs_240 : decode cX12_weighs 240 = .ok (.i2l, 1) := by decide +kernel
theorem dX12_weighs_241 : decode cX12_weighs 241 = .ok (.lastore, 1) := by decide +kernel
theorem dX12_weighs_242 : decode cX12_weighs 242 = .ok (.aload_n 0, 1) := by decide +kernel
theorem dX12_weighs_243 : decode cX12_weighs 243 = .ok (.iconst (-1), 1) := by decide +kernel
theorem dX12_weighs_244 : decode cX12_weighs 244 = .ok (.putfield 145, 3) := by decide +kernel
theorem dX12_weighs_247 : decode cX12_weighs 247 = .ok (.aload_n 0, 1) := by decide +kernel
theorem dX12_weighs_248 : decode cX12_weighs 248 = .ok (.iconst (-1), 1) := by decide +kernel
theorem dX12_weighs_249 : decode cX12_weighs 249 = .ok (.putfield 149, 3) := by decide +kernel
theorem dX12_weighs_252 : decode cX12_weighs 252 = .ok (.iconst 2, 1) := by decide +kernel
theorem dX12_weighs_253 : decode cX12_weighs 253 = .ok (.istore 9, 2) := by decide +kernel
theorem dX12_weighs_255 : decode cX12_weighs 255 = .ok (.iload 9, 2) := by decide +kernel
theorem dX12_weighs_257 : decode cX12_weighs 257 = .ok (.ifCond .lt 89, 3) := by decide +kernel
theorem dX12_weighs_260 : decode cX12_weighs 260 = .ok (.aload_n 0, 1) := by decide +kernel
theorem dX12_weighs_261 : decode cX12_weighs 261 = .ok (.iload 9, 2) := by decide +kernel
theorem dX12_weighs_263 : decode cX12_weighs 263 = .ok (.aload_n 0, 1) := by decide +kernel
theorem dX12_weighs_264 : decode cX12_weighs 264 = .ok (.getfield 273, 3) := by decide +kernel
theorem dX12_weighs_267 : decode cX12_weighs 267 = .ok (.invokevirtual 454, 3) := by decide +kernel
theorem dX12_weighs_270 : decode cX12_weighs 270 = .ok (.istore 10, 2) := by decide +kernel
theorem dX12_weighs_272 : decode cX12_weighs 272 = .ok (.iconst 0, 1) := by decide +kernel
theorem dX12_weighs_273 : decode cX12_weighs 273 = .ok (.istore 11, 2) := by decide +kernel
theorem dX12_weighs_275 : decode cX12_weighs 275 = .ok (.iload 10, 2) := by decide +kernel
theorem dX12_weighs_277 : decode cX12_weighs 277 = .ok (.iconst (-1), 1) := by decide +kernel
theorem dX12_weighs_278 : decode cX12_weighs 278 = .ok (.if_icmp .eq 62, 3) := by decide +kernel
theorem dX12_weighs_281 : decode cX12_weighs 281 = .ok (.iload 11, 2) := by decide +kernel
theorem dX12_weighs_283 : decode cX12_weighs 283 = .ok (.aload_n 0, 1) := by decide +kernel
theorem dX12_weighs_284 : decode cX12_weighs 284 = .ok (.getfield 60, 3) := by decide +kernel
theorem dX12_weighs_287 : decode cX12_weighs 287 = .ok (.iload 10, 2) := by decide +kernel
theorem dX12_weighs_289 : decode cX12_weighs 289 = .ok (.iaload, 1) := by decide +kernel
theorem dX12_weighs_290 : decode cX12_weighs 290 = .ok (.if_icmp .ge 50, 3) := by decide +kernel
theorem dX12_weighs_293 : decode cX12_weighs 293 = .ok (.aload_n 0, 1) := by decide +kernel
theorem dX12_weighs_294 : decode cX12_weighs 294 = .ok (.bipush 10, 2) := by decide +kernel
theorem dX12_weighs_296 : decode cX12_weighs 296 = .ok (.iload 10, 2) := by decide +kernel
theorem dX12_weighs_298 : decode cX12_weighs 298 = .ok (.imul, 1) := by decide +kernel
theorem dX12_weighs_299 : decode cX12_weighs 299 = .ok (.iload 11, 2) := by decide +kernel
theorem dX12_weighs_301 : decode cX12_weighs 301 = .ok (.iadd, 1) := by decide +kernel
theorem dX12_weighs_302 : decode cX12_weighs 302 = .ok (.invokevirtual 486, 3) := by decide +kernel
theorem dX12_weighs_305 : decode cX12_weighs 305 = .ok (.ifCond .eq 29, 3) := by decide +kernel
theorem dX12_weighs_308 : decode cX12_weighs 308 = .ok (.aload_n 0, 1) := by decide +kernel
theorem dX12_weighs_309 : decode cX12_weighs 309 = .ok (.iload 10, 2) := by decide +kernel
theorem dX12_weighs_311 : decode cX12_weighs 311 = .ok (.putfield 145, 3) := by decide +kernel
theorem dX12_weighs_314 : decode cX12_weighs 314 = .ok (.aload_n 0, 1) := by decide +kernel
theorem dX12_weighs_315 : decode cX12_weighs 315 = .ok (.iload 11, 2) := by decide +kernel
theorem dX12_weighs_317 : decode cX12_weighs 317 = .ok (.putfield 149, 3) := by decide +kernel
theorem dX12_weighs_320 : decode cX12_weighs 320 = .ok (.aload_n 0, 1) := by decide +kernel
theorem dX12_weighs_321 : decode cX12_weighs 321 = .ok (.getfield 63, 3) := by decide +kernel
theorem dX12_weighs_324 : decode cX12_weighs 324 = .ok (.bipush 10, 2) := by decide +kernel
theorem dX12_weighs_326 : decode cX12_weighs 326 = .ok (.iload 10, 2) := by decide +kernel
theorem dX12_weighs_328 : decode cX12_weighs 328 = .ok (.imul, 1) := by decide +kernel
theorem dX12_weighs_329 : decode cX12_weighs 329 = .ok (.iload 11, 2) := by decide +kernel
theorem dX12_weighs_331 : decode cX12_weighs 331 = .ok (.iadd, 1) := by decide +kernel
theorem dX12_weighs_332 : decode cX12_weighs 332 = .ok (.iaload, 1) := by decide +kernel
theorem dX12_weighs_333 : decode cX12_weighs 333 = .ok (.ireturn, 1) := by decide +kernel
theorem dX12_weighs_334 : decode cX12_weighs 334 = .ok (.iinc 11 1, 3) := by decide +kernel
theorem dX12_weighs_337 : decode cX12_weighs 337 = .ok (.goto (-62), 3) := by decide +kernel
theorem dX12_weighs_340 : decode cX12_weighs 340 = .ok (.iinc 9 (-1), 3) := by decide +kernel
theorem dX12_weighs_343 : decode cX12_weighs 343 = .ok (.goto (-88), 3) := by decide +kernel
theorem dX12_weighs_346 : decode cX12_weighs 346 = .ok (.iconst 0, 1) := by decide +kernel
theorem dX12_weighs_347 : decode cX12_weighs 347 = .ok (.ireturn, 1) := by decide +kernel
theorem dX12_verdict_0 : decode cX12_verdict 0 = .ok (.aload_n 0, 1) := by decide +kernel
theorem dX12_verdict_1 : decode cX12_verdict 1 = .ok (.iload_n 1, 1) := by decide +kernel
theorem dX12_verdict_2 : decode cX12_verdict 2 = .ok (.iload_n 2, 1) := by decide +kernel
theorem dX12_verdict_3 : decode cX12_verdict 3 = .ok (.iload_n 3, 1) := by decide +kernel
theorem dX12_verdict_4 : decode cX12_verdict 4 = .ok (.iload 4, 2) := by decide +kernel
theorem dX12_verdict_6 : decode cX12_verdict 6 = .ok (.iload 5, 2) := by decide +kernel
theorem dX12_verdict_8 : decode cX12_verdict 8 = .ok (.iload 6, 2) := by decide +kernel
theorem dX12_verdict_10 : decode cX12_verdict 10 = .ok (.iload 7, 2) := by decide +kernel
theorem dX12_verdict_12 : decode cX12_verdict 12 = .ok (.invokevirtual 489, 3) := by decide +kernel
theorem dX12_verdict_15 : decode cX12_verdict 15 = .ok (.ifCond .le 7, 3) := by decide +kernel
theorem dX12_verdict_18 : decode cX12_verdict 18 = .ok (.iconst (-1), 1) := by decide +kernel
theorem dX12_verdict_19 : decode cX12_verdict 19 = .ok (.goto 18, 3) := by decide +kernel
theorem dX12_verdict_22 : decode cX12_verdict 22 = .ok (.aload_n 0, 1) := by decide +kernel
theorem dX12_verdict_23 : decode cX12_verdict 23 = .ok (.iload_n 1, 1) := by decide +kernel
theorem dX12_verdict_24 : decode cX12_verdict 24 = .ok (.iload_n 2, 1) := by decide +kernel
theorem dX12_verdict_25 : decode cX12_verdict 25 = .ok (.iload_n 3, 1) := by decide +kernel
theorem dX12_verdict_26 : decode cX12_verdict 26 = .ok (.iload 4, 2) := by decide +kernel
theorem dX12_verdict_28 : decode cX12_verdict 28 = .ok (.iload 5, 2) := by decide +kernel
theorem dX12_verdict_30 : decode cX12_verdict 30 = .ok (.iload 6, 2) := by decide +kernel
theorem dX12_verdict_32 : decode cX12_verdict 32 = .ok (.iload 7, 2) := by decide +kernel
theorem dX12_verdict_34 : decode cX12_verdict 34 = .ok (.invokevirtual 493, 3) := by decide +kernel
theorem dX12_verdict_37 : decode cX12_verdict 37 = .ok (.ireturn, 1) := by decide +kernel
theorem dX12_told_0 : decode cX12_told 0 = .ok (.iload_n 1, 1) := by decide +kernel
theorem dX12_told_1 : decode cX12_told 1 = .ok (.ifCond .ne 10, 3) := by decide +kernel
theorem dX12_told_4 : decode cX12_told 4 = .ok (.aload_n 0, 1) := by decide +kernel
theorem dX12_told_5 : decode cX12_told 5 = .ok (.getfield 145, 3) := by decide +kernel
theorem dX12_told_8 : decode cX12_told 8 = .ok (.goto 16, 3) := by decide +kernel
theorem dX12_told_11 : decode cX12_told 11 = .ok (.iload_n 1, 1) := by decide +kernel
theorem dX12_told_12 : decode cX12_told 12 = .ok (.iconst 1, 1) := by decide +kernel
theorem dX12_told_13 : decode cX12_told 13 = .ok (.if_icmp .ne 10, 3) := by decide +kernel
theorem dX12_told_16 : decode cX12_told 16 = .ok (.aload_n 0, 1) := by decide +kernel
theorem dX12_told_17 : decode cX12_told 17 = .ok (.getfield 149, 3) := by decide +kernel
theorem dX12_told_20 : decode cX12_told 20 = .ok (.goto 4, 3) := by decide +kernel
theorem dX12_told_23 : decode cX12_told 23 = .ok (.iconst (-1), 1) := by decide +kernel
theorem dX12_told_24 : decode cX12_told 24 = .ok (.ireturn, 1) := by decide +kernel
theorem dX12_deal_0 : decode cX12_deal 0 = .ok (.aload_n 0, 1) := by decide +kernel
theorem dX12_deal_1 : decode cX12_deal 1 = .ok (.iload_n 1, 1) := by decide +kernel
theorem dX12_deal_2 : decode cX12_deal 2 = .ok (.iload_n 2, 1) := by decide +kernel
theorem dX12_deal_3 : decode cX12_deal 3 = .ok (.iload_n 3, 1) := by decide +kernel
theorem dX12_deal_4 : decode cX12_deal 4 = .ok (.iload 4, 2) := by decide +kernel
theorem dX12_deal_6 : decode cX12_deal 6 = .ok (.iload 5, 2) := by decide +kernel
theorem dX12_deal_8 : decode cX12_deal 8 = .ok (.iload 6, 2) := by decide +kernel
theorem dX12_deal_10 : decode cX12_deal 10 = .ok (.iload 7, 2) := by decide +kernel
theorem dX12_deal_12 : decode cX12_deal 12 = .ok (.invokevirtual 489, 3) := by decide +kernel
theorem dX12_deal_15 : decode cX12_deal 15 = .ok (.istore 8, 2) := by decide +kernel
theorem dX12_deal_17 : decode cX12_deal 17 = .ok (.iload 8, 2) := by decide +kernel
theorem dX12_deal_19 : decode cX12_deal 19 = .ok (.ifCond .le 6, 3) := by decide +kernel
theorem dX12_deal_22 : decode cX12_deal 22 = .ok (.iload 8, 2) := by decide +kernel
theorem dX12_deal_24 : decode cX12_deal 24 = .ok (.ireturn, 1) := by decide +kernel
theorem dX12_deal_25 : decode cX12_deal 25 = .ok (.aload_n 0, 1) := by decide +kernel
theorem dX12_deal_26 : decode cX12_deal 26 = .ok (.getfield 288, 3) := by decide +kernel
theorem dX12_deal_29 : decode cX12_deal 29 = .ok (.sipush 200, 3) := by decide +kernel
theorem dX12_deal_32 : decode cX12_deal 32 = .ok (.if_icmp .eq 13, 3) := by decide +kernel
theorem dX12_deal_35 : decode cX12_deal 35 = .ok (.aload_n 0, 1) := by decide +kernel
theorem dX12_deal_36 : decode cX12_deal 36 = .ok (.getfield 472, 3) := by decide +kernel
theorem dX12_deal_39 : decode cX12_deal 39 = .ok (.sipush 300, 3) := by decide +kernel
theorem dX12_deal_42 : decode cX12_deal 42 = .ok (.if_icmp .ne 5, 3) := by decide +kernel
theorem dX12_deal_45 : decode cX12_deal 45 = .ok (.iconst 4, 1) := by decide +kernel
theorem dX12_deal_46 : decode cX12_deal 46 = .ok (.ireturn, 1) := by decide +kernel
theorem dX12_deal_47 : decode cX12_deal 47 = .ok (.aload_n 0, 1) := by decide +kernel
theorem dX12_deal_48 : decode cX12_deal 48 = .ok (.iload_n 1, 1) := by decide +kernel
theorem dX12_deal_49 : decode cX12_deal 49 = .ok (.iload_n 2, 1) := by decide +kernel
theorem dX12_deal_50 : decode cX12_deal 50 = .ok (.iload_n 3, 1) := by decide +kernel
theorem dX12_deal_51 : decode cX12_deal 51 = .ok (.iload 4, 2) := by decide +kernel
theorem dX12_deal_53 : decode cX12_deal 53 = .ok (.iload 5, 2) := by decide +kernel
theorem dX12_deal_55 : decode cX12_deal 55 = .ok (.iload 6, 2) := by decide +kernel
theorem dX12_deal_57 : decode cX12_deal 57 = .ok (.iload 7, 2) := by decide +kernel
theorem dX12_deal_59 : decode cX12_deal 59 = .ok (.invokevirtual 493, 3) := by decide +kernel
theorem dX12_deal_62 : decode cX12_deal 62 = .ok (.istore 9, 2) := by decide +kernel
theorem dX12_deal_64 : decode cX12_deal 64 = .ok (.iload 9, 2) := by decide +kernel
theorem dX12_deal_66 : decode cX12_deal 66 = .ok (.iconst 1, 1) := by decide +kernel
theorem dX12_deal_67 : decode cX12_deal 67 = .ok (.if_icmp .ne 5, 3) := by decide +kernel
theorem dX12_deal_70 : decode cX12_deal 70 = .ok (.iconst 5, 1) := by decide +kernel
theorem dX12_deal_71 : decode cX12_deal 71 = .ok (.ireturn, 1) := by decide +kernel
theorem dX12_deal_72 : decode cX12_deal 72 = .ok (.iload 6, 2) := by decide +kernel
theorem dX12_deal_74 : decode cX12_deal 74 = .ok (.ifCond .ne 17, 3) := by decide +kernel
theorem dX12_deal_77 : decode cX12_deal 77 = .ok (.aload_n 0, 1) := by decide +kernel
theorem dX12_deal_78 : decode cX12_deal 78 = .ok (.getfield 13, 3) := by decide +kernel
theorem dX12_deal_81 : decode cX12_deal 81 = .ok (.iload_n 2, 1) := by decide +kernel
theorem dX12_deal_82 : decode cX12_deal 82 = .ok (.iaload, 1) := by decide +kernel
theorem dX12_deal_83 : decode cX12_deal 83 = .ok (.iload 5, 2) := by decide +kernel
theorem dX12_deal_85 : decode cX12_deal 85 = .ok (.if_icmp .ge 6, 3) := by decide +kernel
theorem dX12_deal_88 : decode cX12_deal 88 = .ok (.bipush 6, 2) := by decide +kernel
theorem dX12_deal_90 : decode cX12_deal 90 = .ok (.ireturn, 1) := by decide +kernel
theorem dX12_deal_91 : decode cX12_deal 91 = .ok (.aload_n 0, 1) := by decide +kernel
theorem dX12_deal_92 : decode cX12_deal 92 = .ok (.getfield 35, 3) := by decide +kernel
theorem dX12_deal_95 : decode cX12_deal 95 = .ok (.iload_n 3, 1) := by decide +kernel
theorem dX12_deal_96 : decode cX12_deal 96 = .ok (.dup2, 1) := by decide +kernel
theorem dX12_deal_97 : decode cX12_deal 97 = .ok (.iaload, 1) := by decide +kernel
theorem dX12_deal_98 : decode cX12_deal 98 = .ok (.iload 4, 2) := by decide +kernel
theorem dX12_deal_100 : decode cX12_deal 100 = .ok (.isub, 1) := by decide +kernel
theorem dX12_deal_101 : decode cX12_deal 101 = .ok (.iastore, 1) := by decide +kernel
theorem dX12_deal_102 : decode cX12_deal 102 = .ok (.aload_n 0, 1) := by decide +kernel
theorem dX12_deal_103 : decode cX12_deal 103 = .ok (.getfield 472, 3) := by decide +kernel
theorem dX12_deal_106 : decode cX12_deal 106 = .ok (.istore 10, 2) := by decide +kernel
theorem dX12_deal_108 : decode cX12_deal 108 = .ok (.aload_n 0, 1) := by decide +kernel
theorem dX12_deal_109 : decode cX12_deal 109 = .ok (.dup, 1) := by decide +kernel
theorem dX12_deal_110 : decode cX12_deal 110 = .ok (.getfield 472, 3) := by decide +kernel
theorem dX12_deal_113 : decode cX12_deal 113 = .ok (.iconst 1, 1) := by decide +kernel
theorem dX12_deal_114 : decode cX12_deal 114 = .ok (.iadd, 1) := by decide +kernel
theorem dX12_deal_115 : decode cX12_deal 115 = .ok (.putfield 472, 3) := by decide +kernel
theorem dX12_deal_118 : decode cX12_deal 118 = .ok (.aload_n 0, 1) := by decide +kernel
theorem dX12_deal_119 : decode cX12_deal 119 = .ok (.getfield 100, 3) := by decide +kernel
theorem dX12_deal_122 : decode cX12_deal 122 = .ok (.iload 10, 2) := by decide +kernel
theorem dX12_deal_124 : decode cX12_deal 124 = .ok (.iload_n 1, 1) := by decide +kernel
theorem dX12_deal_125 : decode cX12_deal 125 = .ok (.iastore, 1) := by decide +kernel
theorem dX12_deal_126 : decode cX12_deal 126 = .ok (.aload_n 0, 1) := by decide +kernel
theorem dX12_deal_127 : decode cX12_deal 127 = .ok (.getfield 103, 3) := by decide +kernel
theorem dX12_deal_130 : decode cX12_deal 130 = .ok (.iload 10, 2) := by decide +kernel
theorem dX12_deal_132 : decode cX12_deal 132 = .ok (.iload_n 2, 1) := by decide +kernel
theorem dX12_deal_133 : decode cX12_deal 133 = .ok (.iastore, 1) := by decide +kernel
theorem dX12_deal_134 : decode cX12_deal 134 = .ok (.aload_n 0, 1) := by decide +kernel
theorem dX12_deal_135 : decode cX12_deal 135 = .ok (.getfield 106, 3) := by decide +kernel
theorem dX12_deal_138 : decode cX12_deal 138 = .ok (.iload 10, 2) := by decide +kernel
theorem dX12_deal_140 : decode cX12_deal 140 = .ok (.aload_n 0, 1) := by decide +kernel
theorem dX12_deal_141 : decode cX12_deal 141 = .ok (.iload_n 2, 1) := by decide +kernel
theorem dX12_deal_142 : decode cX12_deal 142 = .ok (.aload_n 0, 1) := by decide +kernel
theorem dX12_deal_143 : decode cX12_deal 143 = .ok (.getfield 32, 3) := by decide +kernel
theorem dX12_deal_146 : decode cX12_deal 146 = .ok (.iload_n 3, 1) := by decide +kernel
theorem dX12_deal_147 : decode cX12_deal 147 = .ok (.iaload, 1) := by decide +kernel
theorem dX12_deal_148 : decode cX12_deal 148 = .ok (.iload 4, 2) := by decide +kernel
theorem dX12_deal_150 : decode cX12_deal 150 = .ok (.iload_n 3, 1) := by decide +kernel
theorem dX12_deal_151 : decode cX12_deal 151 = .ok (.invokevirtual 291, 3) := by decide +kernel
theorem dX12_deal_154 : decode cX12_deal 154 = .ok (.iastore, 1) := by decide +kernel
theorem dX12_deal_155 : decode cX12_deal 155 = .ok (.aload_n 0, 1) := by decide +kernel
theorem dX12_deal_156 : decode cX12_deal 156 = .ok (.getfield 109, 3) := by decide +kernel
theorem dX12_deal_159 : decode cX12_deal 159 = .ok (.iload 10, 2) := by decide +kernel
theorem dX12_deal_161 : decode cX12_deal 161 = .ok (.iload 5, 2) := by decide +kernel
theorem dX12_deal_163 : decode cX12_deal 163 = .ok (.iastore, 1) := by decide +kernel
theorem dX12_deal_164 : decode cX12_deal 164 = .ok (.aload_n 0, 1) := by decide +kernel
theorem dX12_deal_165 : decode cX12_deal 165 = .ok (.getfield 112, 3) := by decide +kernel
theorem dX12_deal_168 : decode cX12_deal 168 = .ok (.iload 10, 2) := by decide +kernel
theorem dX12_deal_170 : decode cX12_deal 170 = .ok (.iload 6, 2) := by decide +kernel
theorem dX12_deal_172 : decode cX12_deal 172 = .ok (.ifCond .ne 7, 3) := by decide +kernel
theorem dX12_deal_175 : decode cX12_deal 175 = .ok (.iconst 0, 1) := by decide +kernel
theorem dX12_deal_176 : decode cX12_deal 176 = .ok (.goto 5, 3) := by decide +kernel
theorem dX12_deal_179 : decode cX12_deal 179 = .ok (.iload 5, 2) := by decide +kernel
theorem dX12_deal_181 : decode cX12_deal 181 = .ok (.iastore, 1) := by decide +kernel
theorem dX12_deal_182 : decode cX12_deal 182 = .ok (.aload_n 0, 1) := by decide +kernel
theorem dX12_deal_183 : decode cX12_deal 183 = .ok (.getfield 115, 3) := by decide +kernel
theorem dX12_deal_186 : decode cX12_deal 186 = .ok (.iload 10, 2) := by decide +kernel
theorem dX12_deal_188 : decode cX12_deal 188 = .ok (.iload 6, 2) := by decide +kernel
theorem dX12_deal_190 : decode cX12_deal 190 = .ok (.ifCond .ne 7, 3) := by decide +kernel
theorem dX12_deal_193 : decode cX12_deal 193 = .ok (.iconst (-1), 1) := by decide +kernel
theorem dX12_deal_194 : decode cX12_deal 194 = .ok (.goto 10, 3) := by decide +kernel
theorem dX12_deal_197 : decode cX12_deal 197 = .ok (.aload_n 0, 1) := by decide +kernel
theorem dX12_deal_198 : decode cX12_deal 198 = .ok (.getfield 273, 3) := by decide +kernel
theorem dX12_deal_201 : decode cX12_deal 201 = .ok (.iload 6, 2) := by decide +kernel
theorem dX12_deal_203 : decode cX12_deal 203 = .ok (.iadd, 1) := by decide +kernel
theorem dX12_deal_204 : decode cX12_deal 204 = .ok (.iastore, 1) := by decide +kernel
theorem dX12_deal_205 : decode cX12_deal 205 = .ok (.aload_n 0, 1) := by decide +kernel
theorem dX12_deal_206 : decode cX12_deal 206 = .ok (.getfield 121, 3) := by decide +kernel
theorem dX12_deal_209 : decode cX12_deal 209 = .ok (.iload 10, 2) := by decide +kernel
theorem dX12_deal_211 : decode cX12_deal 211 = .ok (.aload_n 0, 1) := by decide +kernel
theorem dX12_deal_212 : decode cX12_deal 212 = .ok (.getfield 273, 3) := by decide +kernel
theorem dX12_deal_215 : decode cX12_deal 215 = .ok (.iastore, 1) := by decide +kernel
theorem dX12_deal_216 : decode cX12_deal 216 = .ok (.aload_n 0, 1) := by decide +kernel
theorem dX12_deal_217 : decode cX12_deal 217 = .ok (.getfield 124, 3) := by decide +kernel
theorem dX12_deal_220 : decode cX12_deal 220 = .ok (.iload 10, 2) := by decide +kernel
theorem dX12_deal_222 : decode cX12_deal 222 = .ok (.iload_n 1, 1) := by decide +kernel
theorem dX12_deal_223 : decode cX12_deal 223 = .ok (.iastore, 1) := by decide +kernel
theorem dX12_deal_224 : decode cX12_deal 224 = .ok (.aload_n 0, 1) := by decide +kernel
theorem dX12_deal_225 : decode cX12_deal 225 = .ok (.getfield 127, 3) := by decide +kernel
theorem dX12_deal_228 : decode cX12_deal 228 = .ok (.iload 10, 2) := by decide +kernel
theorem dX12_deal_230 : decode cX12_deal 230 = .ok (.aload_n 0, 1) := by decide +kernel
theorem dX12_deal_231 : decode cX12_deal 231 = .ok (.getfield 9, 3) := by decide +kernel
theorem dX12_deal_234 : decode cX12_deal 234 = .ok (.iload_n 1, 1) := by decide +kernel
theorem dX12_deal_235 : decode cX12_deal 235 = .ok (.iaload, 1) := by decide +kernel
theorem dX12_deal_236 : decode cX12_deal 236 = .ok (.iastore, 1) := by decide +kernel
theorem dX12_deal_237 : decode cX12_deal 237 = .ok (.iload 6, 2) := by decide +kernel
theorem dX12_deal_239 : decode cX12_deal 239 = .ok (.ifCond .ne 25, 3) := by decide +kernel
theorem dX12_deal_242 : decode cX12_deal 242 = .ok (.aload_n 0, 1) := by decide +kernel
theorem dX12_deal_243 : decode cX12_deal 243 = .ok (.getfield 13, 3) := by decide +kernel
theorem dX12_deal_246 : decode cX12_deal 246 = .ok (.iload_n 2, 1) := by decide +kernel
theorem dX12_deal_247 : decode cX12_deal 247 = .ok (.dup2, 1) := by decide +kernel
theorem dX12_deal_248 : decode cX12_deal 248 = .ok (.iaload, 1) := by decide +kernel
theorem dX12_deal_249 : decode cX12_deal 249 = .ok (.iload 5, 2) := by decide +kernel
theorem dX12_deal_251 : decode cX12_deal 251 = .ok (.isub, 1) := by decide +kernel
theorem dX12_deal_252 : decode cX12_deal 252 = .ok (.iastore, 1) := by decide +kernel
theorem dX12_deal_253 : decode cX12_deal 253 = .ok (.aload_n 0, 1) := by decide +kernel
theorem dX12_deal_254 : decode cX12_deal 254 = .ok (.getfield 13, 3) := by decide +kernel
theorem dX12_deal_257 : decode cX12_deal 257 = .ok (.iload_n 1, 1) := by decide +kernel
theorem dX12_deal_258 : decode cX12_deal 258 = .ok (.dup2, 1) := by decide +kernel
theorem dX12_deal_259 : decode cX12_deal 259 = .ok (.iaload, 1) := by decide +kernel
theorem dX12_deal_260 : decode cX12_deal 260 = .ok (.iload 5, 2) := by decide +kernel
theorem dX12_deal_262 : decode cX12_deal 262 = .ok (.iadd, 1) := by decide +kernel
theorem dX12_deal_263 : decode cX12_deal 263 = .ok (.iastore, 1) := by decide +kernel
theorem dX12_deal_264 : decode cX12_deal 264 = .ok (.iload 9, 2) := by decide +kernel
theorem dX12_deal_266 : decode cX12_deal 266 = .ok (.bipush 10, 2) := by decide +kernel
theorem dX12_deal_268 : decode cX12_deal 268 = .ok (.if_icmp .ge 7, 3) := by decide +kernel
theorem dX12_deal_271 : decode cX12_deal 271 = .ok (.iconst 0, 1) := by decide +kernel
theorem dX12_deal_272 : decode cX12_deal 272 = .ok (.goto 31, 3) := by decide +kernel
theorem dX12_deal_275 : decode cX12_deal 275 = .ok (.iload 9, 2) := by decide +kernel
theorem dX12_deal_277 : decode cX12_deal 277 = .ok (.bipush 10, 2) := by decide +kernel
theorem dX12_deal_279 : decode cX12_deal 279 = .ok (.isub, 1) := by decide +kernel
theorem dX12_deal_280 : decode cX12_deal 280 = .ok (.aload_n 0, 1) := by decide +kernel
theorem dX12_deal_281 : decode cX12_deal 281 = .ok (.getfield 13, 3) := by decide +kernel
theorem dX12_deal_284 : decode cX12_deal 284 = .ok (.iload_n 1, 1) := by decide +kernel
theorem dX12_deal_285 : decode cX12_deal 285 = .ok (.iaload, 1) := by decide +kernel
theorem dX12_deal_286 : decode cX12_deal 286 = .ok (.if_icmp .ge 11, 3) := by decide +kernel
theorem dX12_deal_289 : decode cX12_deal 289 = .ok (.iload 9, 2) := by decide +kernel
theorem dX12_deal_291 : decode cX12_deal 291 = .ok (.bipush 10, 2) := by decide +kernel
theorem dX12_deal_293 : decode cX12_deal 293 = .ok (.isub, 1) := by decide +kernel
theorem dX12_deal_294 : decode cX12_deal 294 = .ok (.goto 9, 3) := by decide +kernel
theorem dX12_deal_297 : decode cX12_deal 297 = .ok (.aload_n 0, 1) := by decide +kernel
theorem dX12_deal_298 : decode cX12_deal 298 = .ok (.getfield 13, 3) := by decide +kernel
theorem dX12_deal_301 : decode cX12_deal 301 = .ok (.iload_n 1, 1) := by decide +kernel
theorem dX12_deal_302 : decode cX12_deal 302 = .ok (.iaload, 1) := by decide +kernel
theorem dX12_deal_303 : decode cX12_deal 303 = .ok (.istore 11, 2) := by decide +kernel
theorem dX12_deal_305 : decode cX12_deal 305 = .ok (.aload_n 0, 1) := by decide +kernel
theorem dX12_deal_306 : decode cX12_deal 306 = .ok (.getfield 13, 3) := by decide +kernel
theorem dX12_deal_309 : decode cX12_deal 309 = .ok (.iload_n 1, 1) := by decide +kernel
theorem dX12_deal_310 : decode cX12_deal 310 = .ok (.dup2, 1) := by decide +kernel
theorem dX12_deal_311 : decode cX12_deal 311 = .ok (.iaload, 1) := by decide +kernel
theorem dX12_deal_312 : decode cX12_deal 312 = .ok (.iload 11, 2) := by decide +kernel
theorem dX12_deal_314 : decode cX12_deal 314 = .ok (.isub, 1) := by decide +kernel
theorem dX12_deal_315 : decode cX12_deal 315 = .ok (.iastore, 1) := by decide +kernel
theorem dX12_deal_316 : decode cX12_deal 316 = .ok (.aload_n 0, 1) := by decide +kernel
theorem dX12_deal_317 : decode cX12_deal 317 = .ok (.getfield 25, 3) := by decide +kernel
theorem dX12_deal_320 : decode cX12_deal 320 = .ok (.bipush 9, 2) := by decide +kernel
theorem dX12_deal_322 : decode cX12_deal 322 = .ok (.dup2, 1) := by decide +kernel
theorem dX12_deal_323 : decode cX12_deal 323 = .ok (.iaload, 1) := by decide +kernel
theorem dX12_deal_324 : decode cX12_deal 324 = .ok (.iload 11, 2) := by decide +kernel
theorem dX12_deal_326 : decode cX12_deal 326 = .ok (.iconst 1, 1) := by decide +kernel
theorem dX12_deal_327 : decode cX12_deal 327 = .ok (.iadd, 1) := by decide +kernel
theorem dX12_deal_328 : decode cX12_deal 328 = .ok (.iconst 2, 1) := by decide +kernel
theorem dX12_deal_329 : decode cX12_deal 329 = .ok (.idiv, 1) := by decide +kernel
theorem dX12_deal_330 : decode cX12_deal 330 = .ok (.iadd, 1) := by decide +kernel
theorem dX12_deal_331 : decode cX12_deal 331 = .ok (.iastore, 1) := by decide +kernel
theorem dX12_deal_332 : decode cX12_deal 332 = .ok (.aload_n 0, 1) := by decide +kernel
theorem dX12_deal_333 : decode cX12_deal 333 = .ok (.getfield 25, 3) := by decide +kernel
theorem dX12_deal_336 : decode cX12_deal 336 = .ok (.aload_n 0, 1) := by decide +kernel
theorem dX12_deal_337 : decode cX12_deal 337 = .ok (.getfield 9, 3) := by decide +kernel
theorem dX12_deal_340 : decode cX12_deal 340 = .ok (.iload_n 1, 1) := by decide +kernel
theorem dX12_deal_341 : decode cX12_deal 341 = .ok (.iaload, 1) := by decide +kernel
theorem dX12_deal_342 : decode cX12_deal 342 = .ok (.dup2, 1) := by decide +kernel
theorem dX12_deal_343 : decode cX12_deal 343 = .ok (.iaload, 1) := by decide +kernel
theorem dX12_deal_344 : decode cX12_deal 344 = .ok (.iload 11, 2) := by decide +kernel
theorem dX12_deal_346 : decode cX12_deal 346 = .ok (.iconst 2, 1) := by decide +kernel
theorem dX12_deal_347 : decode cX12_deal 347 = .ok (.idiv, 1) := by decide +kernel
theorem dX12_deal_348 : decode cX12_deal 348 = .ok (.iadd, 1) := by decide +kernel
theorem dX12_deal_349 : decode cX12_deal 349 = .ok (.iastore, 1) := by decide +kernel
theorem dX12_deal_350 : decode cX12_deal 350 = .ok (.aload_n 0, 1) := by decide +kernel
theorem dX12_deal_351 : decode cX12_deal 351 = .ok (.getfield 118, 3) := by decide +kernel
theorem dX12_deal_354 : decode cX12_deal 354 = .ok (.iload 10, 2) := by decide +kernel
theorem dX12_deal_356 : decode cX12_deal 356 = .ok (.iload 11, 2) := by decide +kernel
theorem dX12_deal_358 : decode cX12_deal 358 = .ok (.iastore, 1) := by decide +kernel
theorem dX12_deal_359 : decode cX12_deal 359 = .ok (.bipush 100, 2) := by decide +kernel
theorem dX12_deal_361 : decode cX12_deal 361 = .ok (.iload 10, 2) := by decide +kernel
theorem dX12_deal_363 : decode cX12_deal 363 = .ok (.iadd, 1) := by decide +kernel
theorem dX12_deal_364 : decode cX12_deal 364 = .ok (.ireturn, 1) := by decide +kernel
theorem dX12_isBargain_0 : decode cX12_isBargain 0 = .ok (.iload_n 1, 1) := by decide +kernel
theorem dX12_isBargain_1 : decode cX12_isBargain 1 = .ok (.iconst 0, 1) := by decide +kernel
theorem dX12_isBargain_2 : decode cX12_isBargain 2 = .ok (.aload_n 0, 1) := by decide +kernel
theorem dX12_isBargain_3 : decode cX12_isBargain 3 = .ok (.getfield 472, 3) := by decide +kernel
theorem dX12_isBargain_6 : decode cX12_isBargain 6 = .ok (.iconst 1, 1) := by decide +kernel
theorem dX12_isBargain_7 : decode cX12_isBargain 7 = .ok (.isub, 1) := by decide +kernel
theorem dX12_isBargain_8 : decode cX12_isBargain 8 = .ok (.invokestatic 269, 3) := by decide +kernel
theorem dX12_isBargain_11 : decode cX12_isBargain 11 = .ok (.ireturn, 1) := by decide +kernel
theorem dX12_bargain_0 : decode cX12_bargain 0 = .ok (.aload_n 0, 1) := by decide +kernel
theorem dX12_bargain_1 : decode cX12_bargain 1 = .ok (.iload_n 1, 1) := by decide +kernel
theorem dX12_bargain_2 : decode cX12_bargain 2 = .ok (.invokevirtual 496, 3) := by decide +kernel
theorem dX12_bargain_5 : decode cX12_bargain 5 = .ok (.ifCond .ne 5, 3) := by decide +kernel
theorem dX12_bargain_8 : decode cX12_bargain 8 = .ok (.iconst (-1), 1) := by decide +kernel
theorem dX12_bargain_9 : decode cX12_bargain 9 = .ok (.ireturn, 1) := by decide +kernel
theorem dX12_bargain_10 : decode cX12_bargain 10 = .ok (.iload_n 2, 1) := by decide +kernel
theorem dX12_bargain_11 : decode cX12_bargain 11 = .ok (.tableswitch 123 0 9 #[53, 60, 67, 74, 81, 88, 95, 102, 109, 116], 53) := by decide +kernel
theorem dX12_bargain_64 : decode cX12_bargain 64 = .ok (.aload_n 0, 1) := by decide +kernel
theorem dX12_bargain_65 : decode cX12_bargain 65 = .ok (.getfield 100, 3) := by decide +kernel
theorem dX12_bargain_68 : decode cX12_bargain 68 = .ok (.iload_n 1, 1) := by decide +kernel
theorem dX12_bargain_69 : decode cX12_bargain 69 = .ok (.iaload, 1) := by decide +kernel
theorem dX12_bargain_70 : decode cX12_bargain 70 = .ok (.ireturn, 1) := by decide +kernel
theorem dX12_bargain_71 : decode cX12_bargain 71 = .ok (.aload_n 0, 1) := by decide +kernel
theorem dX12_bargain_72 : decode cX12_bargain 72 = .ok (.getfield 103, 3) := by decide +kernel
theorem dX12_bargain_75 : decode cX12_bargain 75 = .ok (.iload_n 1, 1) := by decide +kernel
theorem dX12_bargain_76 : decode cX12_bargain 76 = .ok (.iaload, 1) := by decide +kernel
theorem dX12_bargain_77 : decode cX12_bargain 77 = .ok (.ireturn, 1) := by decide +kernel
theorem dX12_bargain_78 : decode cX12_bargain 78 = .ok (.aload_n 0, 1) := by decide +kernel
theorem dX12_bargain_79 : decode cX12_bargain 79 = .ok (.getfield 106, 3) := by decide +kernel
theorem dX12_bargain_82 : decode cX12_bargain 82 = .ok (.iload_n 1, 1) := by decide +kernel
theorem dX12_bargain_83 : decode cX12_bargain 83 = .ok (.iaload, 1) := by decide +kernel
theorem dX12_bargain_84 : decode cX12_bargain 84 = .ok (.ireturn, 1) := by decide +kernel
theorem dX12_bargain_85 : decode cX12_bargain 85 = .ok (.aload_n 0, 1) := by decide +kernel
theorem dX12_bargain_86 : decode cX12_bargain 86 = .ok (.getfield 109, 3) := by decide +kernel
theorem dX12_bargain_89 : decode cX12_bargain 89 = .ok (.iload_n 1, 1) := by decide +kernel
theorem dX12_bargain_90 : decode cX12_bargain 90 = .ok (.iaload, 1) := by decide +kernel
theorem dX12_bargain_91 : decode cX12_bargain 91 = .ok (.ireturn, 1) := by decide +kernel
theorem dX12_bargain_92 : decode cX12_bargain 92 = .ok (.aload_n 0, 1) := by decide +kernel
theorem dX12_bargain_93 : decode cX12_bargain 93 = .ok (.getfield 112, 3) := by decide +kernel
theorem dX12_bargain_96 : decode cX12_bargain 96 = .ok (.iload_n 1, 1) := by decide +kernel
theorem dX12_bargain_97 : decode cX12_bargain 97 = .ok (.iaload, 1) := by decide +kernel
theorem dX12_bargain_98 : decode cX12_bargain 98 = .ok (.ireturn, 1) := by decide +kernel
theorem dX12_bargain_99 : decode cX12_bargain 99 = .ok (.aload_n 0, 1) := by decide +kernel
theorem dX12_bargain_100 : decode cX12_bargain 100 = .ok (.getfield 115, 3) := by decide +kernel
theorem dX12_bargain_103 : decode cX12_bargain 103 = .ok (.iload_n 1, 1) := by decide +kernel
theorem dX12_bargain_104 : decode cX12_bargain 104 = .ok (.iaload, 1) := by decide +kernel
theorem dX12_bargain_105 : decode cX12_bargain 105 = .ok (.ireturn, 1) := by decide +kernel
theorem dX12_bargain_106 : decode cX12_bargain 106 = .ok (.aload_n 0, 1) := by decide +kernel
theorem dX12_bargain_107 : decode cX12_bargain 107 = .ok (.getfield 130, 3) := by decide +kernel
theorem dX12_bargain_110 : decode cX12_bargain 110 = .ok (.iload_n 1, 1) := by decide +kernel
theorem dX12_bargain_111 : decode cX12_bargain 111 = .ok (.iaload, 1) := by decide +kernel
theorem dX12_bargain_112 : decode cX12_bargain 112 = .ok (.ireturn, 1) := by decide +kernel
theorem dX12_bargain_113 : decode cX12_bargain 113 = .ok (.aload_n 0, 1) := by decide +kernel
theorem dX12_bargain_114 : decode cX12_bargain 114 = .ok (.getfield 118, 3) := by decide +kernel
theorem dX12_bargain_117 : decode cX12_bargain 117 = .ok (.iload_n 1, 1) := by decide +kernel
theorem dX12_bargain_118 : decode cX12_bargain 118 = .ok (.iaload, 1) := by decide +kernel
theorem dX12_bargain_119 : decode cX12_bargain 119 = .ok (.ireturn, 1) := by decide +kernel
theorem dX12_bargain_120 : decode cX12_bargain 120 = .ok (.aload_n 0, 1) := by decide +kernel
theorem dX12_bargain_121 : decode cX12_bargain 121 = .ok (.getfield 121, 3) := by decide +kernel
theorem dX12_bargain_124 : decode cX12_bargain 124 = .ok (.iload_n 1, 1) := by decide +kernel
theorem dX12_bargain_125 : decode cX12_bargain 125 = .ok (.iaload, 1) := by decide +kernel
theorem dX12_bargain_126 : decode cX12_bargain 126 = .ok (.ireturn, 1) := by decide +kernel
theorem dX12_bargain_127 : decode cX12_bargain 127 = .ok (.aload_n 0, 1) := by decide +kernel
theorem dX12_bargain_128 : decode cX12_bargain 128 = .ok (.getfield 124, 3) := by decide +kernel
theorem dX12_bargain_131 : decode cX12_bargain 131 = .ok (.iload_n 1, 1) := by decide +kernel
theorem dX12_bargain_132 : decode cX12_bargain 132 = .ok (.iaload, 1) := by decide +kernel
theorem dX12_bargain_133 : decode cX12_bargain 133 = .ok (.ireturn, 1) := by decide +kernel
theorem dX12_bargain_134 : decode cX12_bargain 134 = .ok (.iconst (-1), 1) := by decide +kernel
theorem dX12_bargain_135 : decode cX12_bargain 135 = .ok (.ireturn, 1) := by decide +kernel
theorem dX12_surety_0 : decode cX12_surety 0 = .ok (.aload_n 0, 1) := by decide +kernel
theorem dX12_surety_1 : decode cX12_surety 1 = .ok (.iload_n 1, 1) := by decide +kernel
theorem dX12_surety_2 : decode cX12_surety 2 = .ok (.invokevirtual 496, 3) := by decide +kernel
theorem dX12_surety_5 : decode cX12_surety 5 = .ok (.ifCond .eq 50, 3) := by decide +kernel
theorem dX12_surety_8 : decode cX12_surety 8 = .ok (.aload_n 0, 1) := by decide +kernel
theorem dX12_surety_9 : decode cX12_surety 9 = .ok (.getfield 130, 3) := by decide +kernel
theorem dX12_surety_12 : decode cX12_surety 12 = .ok (.iload_n 1, 1) := by decide +kernel
theorem dX12_surety_13 : decode cX12_surety 13 = .ok (.iaload, 1) := by decide +kernel
theorem dX12_surety_14 : decode cX12_surety 14 = .ok (.iconst 3, 1) := by decide +kernel
theorem dX12_surety_15 : decode cX12_surety 15 = .ok (.if_icmp .eq 40, 3) := by decide +kernel
theorem dX12_surety_18 : decode cX12_surety 18 = .ok (.aload_n 0, 1) := by decide +kernel
theorem dX12_surety_19 : decode cX12_surety 19 = .ok (.getfield 112, 3) := by decide +kernel
theorem dX12_surety_22 : decode cX12_surety 22 = .ok (.iload_n 1, 1) := by decide +kernel
theorem dX12_surety_23 : decode cX12_surety 23 = .ok (.iaload, 1) := by decide +kernel
theorem dX12_surety_24 : decode cX12_surety 24 = .ok (.ifCond .eq 31, 3) := by decide +kernel
theorem dX12_surety_27 : decode cX12_surety 27 = .ok (.aload_n 0, 1) := by decide +kernel
theorem dX12_surety_28 : decode cX12_surety 28 = .ok (.iload_n 2, 1) := by decide +kernel
theorem dX12_surety_29 : decode cX12_surety 29 = .ok (.invokevirtual 285, 3) := by decide +kernel
theorem dX12_surety_32 : decode cX12_surety 32 = .ok (.ifCond .eq 23, 3) := by decide +kernel
theorem dX12_surety_35 : decode cX12_surety 35 = .ok (.iload_n 2, 1) := by decide +kernel
theorem dX12_surety_36 : decode cX12_surety 36 = .ok (.aload_n 0, 1) := by decide +kernel
theorem dX12_surety_37 : decode cX12_surety 37 = .ok (.getfield 100, 3) := by decide +kernel
theorem dX12_surety_40 : decode cX12_surety 40 = .ok (.iload_n 1, 1) := by decide +kernel
theorem dX12_surety_41 : decode cX12_surety 41 = .ok (.iaload, 1) := by decide +kernel
theorem dX12_surety_42 : decode cX12_surety 42 = .ok (.if_icmp .eq 13, 3) := by decide +kernel
theorem dX12_surety_45 : decode cX12_surety 45 = .ok (.iload_n 2, 1) := by decide +kernel
theorem dX12_surety_46 : decode cX12_surety 46 = .ok (.aload_n 0, 1) := by decide +kernel
theorem dX12_surety_47 : decode cX12_surety 47 = .ok (.getfield 103, 3) := by decide +kernel
theorem dX12_surety_50 : decode cX12_surety 50 = .ok (.iload_n 1, 1) := by decide +kernel
theorem dX12_surety_51 : decode cX12_surety 51 = .ok (.iaload, 1) := by decide +kernel
theorem dX12_surety_52 : decode cX12_surety 52 = .ok (.if_icmp .ne 5, 3) := by decide +kernel
theorem dX12_surety_55 : decode cX12_surety 55 = .ok (.iconst (-1), 1) := by decide +kernel
theorem dX12_surety_56 : decode cX12_surety 56 = .ok (.ireturn, 1) := by decide +kernel
theorem dX12_surety_57 : decode cX12_surety 57 = .ok (.iconst 0, 1) := by decide +kernel
theorem dX12_surety_58 : decode cX12_surety 58 = .ok (.istore_n 3, 1) := by decide +kernel
theorem dX12_surety_59 : decode cX12_surety 59 = .ok (.iload_n 3, 1) := by decide +kernel
theorem dX12_surety_60 : decode cX12_surety 60 = .ok (.aload_n 0, 1) := by decide +kernel
theorem dX12_surety_61 : decode cX12_surety 61 = .ok (.getfield 130, 3) := by decide +kernel
theorem dX12_surety_64 : decode cX12_surety 64 = .ok (.iload_n 1, 1) := by decide +kernel
theorem dX12_surety_65 : decode cX12_surety 65 = .ok (.iaload, 1) := by decide +kernel
theorem dX12_surety_66 : decode cX12_surety 66 = .ok (.if_icmp .ge 25, 3) := by decide +kernel
theorem dX12_surety_69 : decode cX12_surety 69 = .ok (.aload_n 0, 1) := by decide +kernel
theorem dX12_surety_70 : decode cX12_surety 70 = .ok (.getfield 133, 3) := by decide +kernel
theorem dX12_surety_73 : decode cX12_surety 73 = .ok (.iconst 3, 1) := by decide +kernel
theorem dX12_surety_74 : decode cX12_surety 74 = .ok (.iload_n 1, 1) := by decide +kernel
theorem dX12_surety_75 : decode cX12_surety 75 = .ok (.imul, 1) := by decide +kernel
theorem dX12_surety_76 : decode cX12_surety 76 = .ok (.iload_n 3, 1) := by decide +kernel
theorem dX12_surety_77 : decode cX12_surety 77 = .ok (.iadd, 1) := by decide +kernel
theorem dX12_surety_78 : decode cX12_surety 78 = .ok (.iaload, 1) := by decide +kernel
theorem dX12_surety_79 : decode cX12_surety 79 = .ok (.iload_n 2, 1) := by decide +kernel
theorem dX12_surety_80 : decode cX12_surety 80 = .ok (.if_icmp .ne 5, 3) := by decide +kernel
theorem dX12_surety_83 : decode cX12_surety 83 = .ok (.iconst (-1), 1) := by decide +kernel
theorem dX12_surety_84 : decode cX12_surety 84 = .ok (.ireturn, 1) := by decide +kernel
theorem dX12_surety_85 : decode cX12_surety 85 = .ok (.iinc 3 1, 3) := by decide +kernel
theorem dX12_surety_88 : decode cX12_surety 88 = .ok (.goto (-29), 3) := by decide +kernel
theorem dX12_surety_91 : decode cX12_surety 91 = .ok (.iconst 3, 1) := by decide +kernel
theorem dX12_surety_92 : decode cX12_surety 92 = .ok (.iload_n 1, 1) := by decide +kernel
theorem dX12_surety_93 : decode cX12_surety 93 = .ok (.imul, 1) := by decide +kernel
theorem dX12_surety_94 : decode cX12_surety 94 = .ok (.aload_n 0, 1) := by decide +kernel
theorem dX12_surety_95 : decode cX12_surety 95 = .ok (.getfield 130, 3) := by decide +kernel
theorem dX12_surety_98 : decode cX12_surety 98 = .ok (.iload_n 1, 1) := by decide +kernel
theorem dX12_surety_99 : decode cX12_surety 99 = .ok (.iaload, 1) := by decide +kernel
theorem dX12_surety_100 : decode cX12_surety 100 = .ok (.iadd, 1) := by decide +kernel
theorem dX12_surety_101 : decode cX12_surety 101 = .ok (.istore_n 3, 1) := by decide +kernel
theorem dX12_surety_102 : decode cX12_surety 102 = .ok (.aload_n 0, 1) := by decide +kernel
theorem dX12_surety_103 : decode cX12_surety 103 = .ok (.getfield 133, 3) := by decide +kernel
theorem dX12_surety_106 : decode cX12_surety 106 = .ok (.iload_n 3, 1) := by decide +kernel
theorem dX12_surety_107 : decode cX12_surety 107 = .ok (.iload_n 2, 1) := by decide +kernel
theorem dX12_surety_108 : decode cX12_surety 108 = .ok (.iastore, 1) := by decide +kernel
theorem dX12_surety_109 : decode cX12_surety 109 = .ok (.aload_n 0, 1) := by decide +kernel
theorem dX12_surety_110 : decode cX12_surety 110 = .ok (.getfield 136, 3) := by decide +kernel
theorem dX12_surety_113 : decode cX12_surety 113 = .ok (.iload_n 3, 1) := by decide +kernel
theorem dX12_surety_114 : decode cX12_surety 114 = .ok (.iconst 0, 1) := by decide +kernel
theorem dX12_surety_115 : decode cX12_surety 115 = .ok (.iastore, 1) := by decide +kernel
theorem dX12_surety_116 : decode cX12_surety 116 = .ok (.aload_n 0, 1) := by decide +kernel
theorem dX12_surety_117 : decode cX12_surety 117 = .ok (.getfield 139, 3) := by decide +kernel
theorem dX12_surety_120 : decode cX12_surety 120 = .ok (.iload_n 3, 1) := by decide +kernel
theorem dX12_surety_121 : decode cX12_surety 121 = .ok (.iload_n 2, 1) := by decide +kernel
theorem dX12_surety_122 : decode cX12_surety 122 = .ok (.iastore, 1) := by decide +kernel
theorem dX12_surety_123 : decode cX12_surety 123 = .ok (.aload_n 0, 1) := by decide +kernel
theorem dX12_surety_124 : decode cX12_surety 124 = .ok (.getfield 142, 3) := by decide +kernel
theorem dX12_surety_127 : decode cX12_surety 127 = .ok (.iload_n 3, 1) := by decide +kernel
theorem dX12_surety_128 : decode cX12_surety 128 = .ok (.aload_n 0, 1) := by decide +kernel
theorem dX12_surety_129 : decode cX12_surety 129 = .ok (.getfield 9, 3) := by decide +kernel
theorem dX12_surety_132 : decode cX12_surety 132 = .ok (.iload_n 2, 1) := by decide +kernel
theorem dX12_surety_133 : decode cX12_surety 133 = .ok (.iaload, 1) := by decide +kernel
theorem dX12_surety_134 : decode cX12_surety 134 = .ok (.iastore, 1) := by decide +kernel
theorem dX12_surety_135 : decode cX12_surety 135 = .ok (.aload_n 0, 1) := by decide +kernel
theorem dX12_surety_136 : decode cX12_surety 136 = .ok (.getfield 130, 3) := by decide +kernel
theorem dX12_surety_139 : decode cX12_surety 139 = .ok (.iload_n 1, 1) := by decide +kernel
theorem dX12_surety_140 : decode cX12_surety 140 = .ok (.dup2, 1) := by decide +kernel
theorem dX12_surety_141 : decode cX12_surety 141 = .ok (.iaload, 1) := by decide +kernel
theorem dX12_surety_142 : decode cX12_surety 142 = .ok (.iconst 1, 1) := by decide +kernel
theorem dX12_surety_143 : decode cX12_surety 143 = .ok (.iadd, 1) := by decide +kernel
theorem dX12_surety_144 : decode cX12_surety 144 = .ok (.iastore, 1) := by decide +kernel
theorem dX12_surety_145 : decode cX12_surety 145 = .ok (.aload_n 0, 1) := by decide +kernel
theorem dX12_surety_146 : decode cX12_surety 146 = .ok (.getfield 130, 3) := by decide +kernel
theorem dX12_surety_149 : decode cX12_surety 149 = .ok (.iload_n 1, 1) := by decide +kernel
theorem dX12_surety_150 : decode cX12_surety 150 = .ok (.iaload, 1) := by decide +kernel
theorem dX12_surety_151 : decode cX12_surety 151 = .ok (.ireturn, 1) := by decide +kernel
theorem dX12_sureties_0 : decode cX12_sureties 0 = .ok (.aload_n 0, 1) := by decide +kernel
theorem dX12_sureties_1 : decode cX12_sureties 1 = .ok (.iload_n 1, 1) := by decide +kernel
theorem dX12_sureties_2 : decode cX12_sureties 2 = .ok (.invokevirtual 496, 3) := by decide +kernel
theorem dX12_sureties_5 : decode cX12_sureties 5 = .ok (.ifCond .eq 19, 3) := by decide +kernel
theorem dX12_sureties_8 : decode cX12_sureties 8 = .ok (.iload_n 2, 1) := by decide +kernel
theorem dX12_sureties_9 : decode cX12_sureties 9 = .ok (.iconst 0, 1) := by decide +kernel
theorem dX12_sureties_10 : decode cX12_sureties 10 = .ok (.aload_n 0, 1) := by decide +kernel
theorem dX12_sureties_11 : decode cX12_sureties 11 = .ok (.getfield 130, 3) := by decide +kernel
theorem dX12_sureties_14 : decode cX12_sureties 14 = .ok (.iload_n 1, 1) := by decide +kernel
theorem dX12_sureties_15 : decode cX12_sureties 15 = .ok (.iaload, 1) := by decide +kernel
theorem dX12_sureties_16 : decode cX12_sureties 16 = .ok (.iconst 1, 1) := by decide +kernel
theorem dX12_sureties_17 : decode cX12_sureties 17 = .ok (.isub, 1) := by decide +kernel
theorem dX12_sureties_18 : decode cX12_sureties 18 = .ok (.invokestatic 269, 3) := by decide +kernel
theorem dX12_sureties_21 : decode cX12_sureties 21 = .ok (.ifCond .ne 7, 3) := by decide +kernel
theorem dX12_sureties_24 : decode cX12_sureties 24 = .ok (.iconst (-1), 1) := by decide +kernel
theorem dX12_sureties_25 : decode cX12_sureties 25 = .ok (.goto 57, 3) := by decide +kernel
theorem dX12_sureties_28 : decode cX12_sureties 28 = .ok (.iload_n 3, 1) := by decide +kernel
theorem dX12_sureties_29 : decode cX12_sureties 29 = .ok (.ifCond .ne 16, 3) := by decide +kernel
theorem dX12_sureties_32 : decode cX12_sureties 32 = .ok (.aload_n 0, 1) := by decide +kernel
theorem dX12_sureties_33 : decode cX12_sureties 33 = .ok (.getfield 133, 3) := by decide +kernel
theorem dX12_sureties_36 : decode cX12_sureties 36 = .ok (.iconst 3, 1) := by decide +kernel
theorem dX12_sureties_37 : decode cX12_sureties 37 = .ok (.iload_n 1, 1) := by decide +kernel
theorem dX12_sureties_38 : decode cX12_sureties 38 = .ok (.imul, 1) := by decide +kernel
theorem dX12_sureties_39 : decode cX12_sureties 39 = .ok (.iload_n 2, 1) := by decide +kernel
theorem dX12_sureties_40 : decode cX12_sureties 40 = .ok (.iadd, 1) := by decide +kernel
theorem dX12_sureties_41 : decode cX12_sureties 41 = .ok (.iaload, 1) := by decide +kernel
theorem dX12_sureties_42 : decode cX12_sureties 42 = .ok (.goto 40, 3) := by decide +kernel
theorem dX12_sureties_45 : decode cX12_sureties 45 = .ok (.iload_n 3, 1) := by decide +kernel
theorem dX12_sureties_46 : decode cX12_sureties 46 = .ok (.iconst 1, 1) := by decide +kernel
theorem dX12_sureties_47 : decode cX12_sureties 47 = .ok (.if_icmp .ne 16, 3) := by decide +kernel
theorem dX12_sureties_50 : decode cX12_sureties 50 = .ok (.aload_n 0, 1) := by decide +kernel
theorem dX12_sureties_51 : decode cX12_sureties 51 = .ok (.getfield 136, 3) := by decide +kernel
theorem dX12_sureties_54 : decode cX12_sureties 54 = .ok (.iconst 3, 1) := by decide +kernel
theorem dX12_sureties_55 : decode cX12_sureties 55 = .ok (.iload_n 1, 1) := by decide +kernel
theorem dX12_sureties_56 : decode cX12_sureties 56 = .ok (.imul, 1) := by decide +kernel
theorem dX12_sureties_57 : decode cX12_sureties 57 = .ok (.iload_n 2, 1) := by decide +kernel
theorem dX12_sureties_58 : decode cX12_sureties 58 = .ok (.iadd, 1) := by decide +kernel
theorem dX12_sureties_59 : decode cX12_sureties 59 = .ok (.iaload, 1) := by decide +kernel
theorem dX12_sureties_60 : decode cX12_sureties 60 = .ok (.goto 22, 3) := by decide +kernel
theorem dX12_sureties_63 : decode cX12_sureties 63 = .ok (.iload_n 3, 1) := by decide +kernel
theorem dX12_sureties_64 : decode cX12_sureties 64 = .ok (.iconst 2, 1) := by decide +kernel
theorem dX12_sureties_65 : decode cX12_sureties 65 = .ok (.if_icmp .ne 16, 3) := by decide +kernel
theorem dX12_sureties_68 : decode cX12_sureties 68 = .ok (.aload_n 0, 1) := by decide +kernel
theorem dX12_sureties_69 : decode cX12_sureties 69 = .ok (.getfield 139, 3) := by decide +kernel
theorem dX12_sureties_72 : decode cX12_sureties 72 = .ok (.iconst 3, 1) := by decide +kernel
theorem dX12_sureties_73 : decode cX12_sureties 73 = .ok (.iload_n 1, 1) := by decide +kernel
theorem dX12_sureties_74 : decode cX12_sureties 74 = .ok (.imul, 1) := by decide +kernel
theorem dX12_sureties_75 : decode cX12_sureties 75 = .ok (.iload_n 2, 1) := by decide +kernel
theorem dX12_sureties_76 : decode cX12_sureties 76 = .ok (.iadd, 1) := by decide +kernel
theorem dX12_sureties_77 : decode cX12_sureties 77 = .ok (.iaload, 1) := by decide +kernel
theorem dX12_sureties_78 : decode cX12_sureties 78 = .ok (.goto 4, 3) := by decide +kernel
theorem dX12_sureties_81 : decode cX12_sureties 81 = .ok (.iconst (-1), 1) := by decide +kernel
theorem dX12_sureties_82 : decode cX12_sureties 82 = .ok (.ireturn, 1) := by decide +kernel
theorem dX12_goes_0 : decode cX12_goes 0 = .ok (.iload_n 2, 1) := by decide +kernel
theorem dX12_goes_1 : decode cX12_goes 1 = .ok (.iconst (-1), 1) := by decide +kernel
theorem dX12_goes_2 : decode cX12_goes 2 = .ok (.if_icmp .ne 16, 3) := by decide +kernel
theorem dX12_goes_5 : decode cX12_goes 5 = .ok (.aload_n 0, 1) := by decide +kernel
theorem dX12_goes_6 : decode cX12_goes 6 = .ok (.getfield 25, 3) := by decide +kernel
theorem dX12_goes_9 : decode cX12_goes 9 = .ok (.iload_n 3, 1) := by decide +kernel
theorem dX12_goes_10 : decode cX12_goes 10 = .ok (.dup2, 1) := by decide +kernel
theorem dX12_goes_11 : decode cX12_goes 11 = .ok (.iaload, 1) := by decide +kernel
theorem dX12_goes_12 : decode cX12_goes 12 = .ok (.iload_n 1, 1) := by decide +kernel
theorem dX12_goes_13 : decode cX12_goes 13 = .ok (.iadd, 1) := by decide +kernel
theorem dX12_goes_14 : decode cX12_goes 14 = .ok (.iastore, 1) := by decide +kernel
theorem dX12_goes_15 : decode cX12_goes 15 = .ok (.goto 13, 3) := by decide +kernel
theorem dX12_goes_18 : decode cX12_goes 18 = .ok (.aload_n 0, 1) := by decide +kernel
theorem dX12_goes_19 : decode cX12_goes 19 = .ok (.getfield 13, 3) := by decide +kernel
theorem dX12_goes_22 : decode cX12_goes 22 = .ok (.iload_n 2, 1) := by decide +kernel
theorem dX12_goes_23 : decode cX12_goes 23 = .ok (.dup2, 1) := by decide +kernel
theorem dX12_goes_24 : decode cX12_goes 24 = .ok (.iaload, 1) := by decide +kernel
theorem dX12_goes_25 : decode cX12_goes 25 = .ok (.iload_n 1, 1) := by decide +kernel
theorem dX12_goes_26 : decode cX12_goes 26 = .ok (.iadd, 1) := by decide +kernel
theorem dX12_goes_27 : decode cX12_goes 27 = .ok (.iastore, 1) := by decide +kernel
theorem dX12_goes_28 : decode cX12_goes 28 = .ok (.return_, 1) := by decide +kernel
theorem dX12_pays_0 : decode cX12_pays 0 = .ok (.iload_n 2, 1) := by decide +kernel
theorem dX12_pays_1 : decode cX12_pays 1 = .ok (.aload_n 0, 1) := by decide +kernel
theorem dX12_pays_2 : decode cX12_pays 2 = .ok (.getfield 112, 3) := by decide +kernel
theorem dX12_pays_5 : decode cX12_pays 5 = .ok (.iload_n 1, 1) := by decide +kernel
theorem dX12_pays_6 : decode cX12_pays 6 = .ok (.iaload, 1) := by decide +kernel
theorem dX12_pays_7 : decode cX12_pays 7 = .ok (.if_icmp .ge 7, 3) := by decide +kernel
theorem dX12_pays_10 : decode cX12_pays 10 = .ok (.iload_n 2, 1) := by decide +kernel
theorem dX12_pays_11 : decode cX12_pays 11 = .ok (.goto 9, 3) := by decide +kernel
theorem dX12_pays_14 : decode cX12_pays 14 = .ok (.aload_n 0, 1) := by decide +kernel
theorem dX12_pays_15 : decode cX12_pays 15 = .ok (.getfield 112, 3) := by decide +kernel
theorem dX12_pays_18 : decode cX12_pays 18 = .ok (.iload_n 1, 1) := by decide +kernel
theorem dX12_pays_19 : decode cX12_pays 19 = .ok (.iaload, 1) := by decide +kernel
theorem dX12_pays_20 : decode cX12_pays 20 = .ok (.istore_n 3, 1) := by decide +kernel
theorem dX12_pays_21 : decode cX12_pays 21 = .ok (.iload_n 3, 1) := by decide +kernel
theorem dX12_pays_22 : decode cX12_pays 22 = .ok (.aload_n 0, 1) := by decide +kernel
theorem dX12_pays_23 : decode cX12_pays 23 = .ok (.getfield 13, 3) := by decide +kernel
theorem dX12_pays_26 : decode cX12_pays 26 = .ok (.aload_n 0, 1) := by decide +kernel
theorem dX12_pays_27 : decode cX12_pays 27 = .ok (.getfield 103, 3) := by decide +kernel
theorem dX12_pays_30 : decode cX12_pays 30 = .ok (.iload_n 1, 1) := by decide +kernel
theorem dX12_pays_31 : decode cX12_pays 31 = .ok (.iaload, 1) := by decide +kernel
theorem dX12_pays_32 : decode cX12_pays 32 = .ok (.iaload, 1) := by decide +kernel
theorem dX12_pays_33 : decode cX12_pays 33 = .ok (.if_icmp .ge 7, 3) := by decide +kernel
theorem dX12_pays_36 : decode cX12_pays 36 = .ok (.iload_n 3, 1) := by decide +kernel
theorem dX12_pays_37 : decode cX12_pays 37 = .ok (.goto 14, 3) := by decide +kernel
theorem dX12_pays_40 : decode cX12_pays 40 = .ok (.aload_n 0, 1) := by decide +kernel
theorem dX12_pays_41 : decode cX12_pays 41 = .ok (.getfield 13, 3) := by decide +kernel
theorem dX12_pays_44 : decode cX12_pays 44 = .ok (.aload_n 0, 1) := by decide +kernel
theorem dX12_pays_45 : decode cX12_pays 45 = .ok (.getfield 103, 3) := by decide +kernel
theorem dX12_pays_48 : decode cX12_pays 48 = .ok (.iload_n 1, 1) := by decide +kernel
theorem dX12_pays_49 : decode cX12_pays 49 = .ok (.iaload, 1) := by decide +kernel
theorem dX12_pays_50 : decode cX12_pays 50 = .ok (.iaload, 1) := by decide +kernel
theorem dX12_pays_51 : decode cX12_pays 51 = .ok (.istore_n 3, 1) := by decide +kernel
theorem dX12_pays_52 : decode cX12_pays 52 = .ok (.aload_n 0, 1) := by decide +kernel
theorem dX12_pays_53 : decode cX12_pays 53 = .ok (.getfield 13, 3) := by decide +kernel
theorem dX12_pays_56 : decode cX12_pays 56 = .ok (.aload_n 0, 1) := by decide +kernel
theorem dX12_pays_57 : decode cX12_pays 57 = .ok (.getfield 103, 3) := by decide +kernel
theorem dX12_pays_60 : decode cX12_pays 60 = .ok (.iload_n 1, 1) := by decide +kernel
theorem dX12_pays_61 : decode cX12_pays 61 = .ok (.iaload, 1) := by decide +kernel
theorem dX12_pays_62 : decode cX12_pays 62 = .ok (.dup2, 1) := by decide +kernel
theorem dX12_pays_63 : decode cX12_pays 63 = .ok (.iaload, 1) := by decide +kernel
theorem dX12_pays_64 : decode cX12_pays 64 = .ok (.iload_n 3, 1) := by decide +kernel
theorem dX12_pays_65 : decode cX12_pays 65 = .ok (.isub, 1) := by decide +kernel
theorem dX12_pays_66 : decode cX12_pays 66 = .ok (.iastore, 1) := by decide +kernel
theorem dX12_pays_67 : decode cX12_pays 67 = .ok (.aload_n 0, 1) := by decide +kernel
theorem dX12_pays_68 : decode cX12_pays 68 = .ok (.getfield 112, 3) := by decide +kernel
theorem dX12_pays_71 : decode cX12_pays 71 = .ok (.iload_n 1, 1) := by decide +kernel
theorem dX12_pays_72 : decode cX12_pays 72 = .ok (.dup2, 1) := by decide +kernel
theorem dX12_pays_73 : decode cX12_pays 73 = .ok (.iaload, 1) := by decide +kernel
theorem dX12_pays_74 : decode cX12_pays 74 = .ok (.iload_n 3, 1) := by decide +kernel
theorem dX12_pays_75 : decode cX12_pays 75 = .ok (.isub, 1) := by decide +kernel
theorem dX12_pays_76 : decode cX12_pays 76 = .ok (.iastore, 1) := by decide +kernel
theorem dX12_pays_77 : decode cX12_pays 77 = .ok (.aload_n 0, 1) := by decide +kernel
theorem dX12_pays_78 : decode cX12_pays 78 = .ok (.iload_n 3, 1) := by decide +kernel
theorem dX12_pays_79 : decode cX12_pays 79 = .ok (.aload_n 0, 1) := by decide +kernel
theorem dX12_pays_80 : decode cX12_pays 80 = .ok (.getfield 124, 3) := by decide +kernel
theorem dX12_pays_83 : decode cX12_pays 83 = .ok (.iload_n 1, 1) := by decide +kernel
theorem dX12_pays_84 : decode cX12_pays 84 = .ok (.iaload, 1) := by decide +kernel
theorem dX12_pays_85 : decode cX12_pays 85 = .ok (.aload_n 0, 1) := by decide +kernel
theorem dX12_pays_86 : decode cX12_pays 86 = .ok (.getfield 127, 3) := by decide +kernel
theorem dX12_pays_89 : decode cX12_pays 89 = .ok (.iload_n 1, 1) := by decide +kernel
theorem dX12_pays_90 : decode cX12_pays 90 = .ok (.iaload, 1) := by decide +kernel
theorem dX12_pays_91 : decode cX12_pays 91 = .ok (.invokevirtual 499, 3) := by decide +kernel
theorem dX12_pays_94 : decode cX12_pays 94 = .ok (.iload_n 3, 1) := by decide +kernel
theorem dX12_pays_95 : decode cX12_pays 95 = .ok (.ireturn, 1) := by decide +kernel
theorem dX12_pay_0 : decode cX12_pay 0 = .ok (.aload_n 0, 1) := by decide +kernel
theorem dX12_pay_1 : decode cX12_pay 1 = .ok (.iload_n 1, 1) := by decide +kernel
theorem dX12_pay_2 : decode cX12_pay 2 = .ok (.invokevirtual 496, 3) := by decide +kernel
theorem dX12_pay_5 : decode cX12_pay 5 = .ok (.ifCond .eq 17, 3) := by decide +kernel
theorem dX12_pay_8 : decode cX12_pay 8 = .ok (.aload_n 0, 1) := by decide +kernel
theorem dX12_pay_9 : decode cX12_pay 9 = .ok (.getfield 112, 3) := by decide +kernel
theorem dX12_pay_12 : decode cX12_pay 12 = .ok (.iload_n 1, 1) := by decide +kernel
theorem dX12_pay_13 : decode cX12_pay 13 = .ok (.iaload, 1) := by decide +kernel
theorem dX12_pay_14 : decode cX12_pay 14 = .ok (.ifCond .eq 8, 3) := by decide +kernel
theorem dX12_pay_17 : decode cX12_pay 17 = .ok (.iload_n 2, 1) := by decide +kernel
theorem dX12_pay_18 : decode cX12_pay 18 = .ok (.iconst 1, 1) := by decide +kernel
theorem dX12_pay_19 : decode cX12_pay 19 = .ok (.if_icmp .ge 7, 3) := by decide +kernel
theorem dX12_pay_22 : decode cX12_pay 22 = .ok (.iconst (-1), 1) := by decide +kernel
theorem dX12_pay_23 : decode cX12_pay 23 = .ok (.goto 9, 3) := by decide +kernel
theorem dX12_pay_26 : decode cX12_pay 26 = .ok (.aload_n 0, 1) := by decide +kernel
theorem dX12_pay_27 : decode cX12_pay 27 = .ok (.iload_n 1, 1) := by decide +kernel
theorem dX12_pay_28 : decode cX12_pay 28 = .ok (.iload_n 2, 1) := by decide +kernel
theorem dX12_pay_29 : decode cX12_pay 29 = .ok (.invokevirtual 503, 3) := by decide +kernel
theorem dX12_pay_32 : decode cX12_pay 32 = .ok (.ireturn, 1) := by decide +kernel
theorem dX12_call_0 : decode cX12_call 0 = .ok (.aload_n 0, 1) := by decide +kernel
theorem dX12_call_1 : decode cX12_call 1 = .ok (.iload_n 1, 1) := by decide +kernel
theorem dX12_call_2 : decode cX12_call 2 = .ok (.invokevirtual 496, 3) := by decide +kernel
theorem dX12_call_5 : decode cX12_call 5 = .ok (.ifCond .eq 25, 3) := by decide +kernel
theorem dX12_call_8 : decode cX12_call 8 = .ok (.aload_n 0, 1) := by decide +kernel
theorem dX12_call_9 : decode cX12_call 9 = .ok (.getfield 112, 3) := by decide +kernel
theorem dX12_call_12 : decode cX12_call 12 = .ok (.iload_n 1, 1) := by decide +kernel
theorem dX12_call_13 : decode cX12_call 13 = .ok (.iaload, 1) := by decide +kernel
theorem dX12_call_14 : decode cX12_call 14 = .ok (.ifCond .eq 16, 3) := by decide +kernel
theorem dX12_call_17 : decode cX12_call 17 = .ok (.aload_n 0, 1) := by decide +kernel
theorem dX12_call_18 : decode cX12_call 18 = .ok (.getfield 273, 3) := by decide +kernel
theorem dX12_call_21 : decode cX12_call 21 = .ok (.aload_n 0, 1) := by decide +kernel
theorem dX12_call_22 : decode cX12_call 22 = .ok (.getfield 115, 3) := by decide +kernel
theorem dX12_call_25 : decode cX12_call 25 = .ok (.iload_n 1, 1) := by decide +kernel
theorem dX12_call_26 : decode cX12_call 26 = .ok (.iaload, 1) := by decide +kernel
theorem dX12_call_27 : decode cX12_call 27 = .ok (.if_icmp .gt 5, 3) := by decide +kernel
theorem dX12_call_30 : decode cX12_call 30 = .ok (.iconst (-1), 1) := by decide +kernel
theorem dX12_call_31 : decode cX12_call 31 = .ok (.ireturn, 1) := by decide +kernel
theorem dX12_call_32 : decode cX12_call 32 = .ok (.aload_n 0, 1) := by decide +kernel
theorem dX12_call_33 : decode cX12_call 33 = .ok (.iload_n 1, 1) := by decide +kernel
theorem dX12_call_34 : decode cX12_call 34 = .ok (.aload_n 0, 1) := by decide +kernel
theorem dX12_call_35 : decode cX12_call 35 = .ok (.getfield 112, 3) := by decide +kernel
theorem dX12_call_38 : decode cX12_call 38 = .ok (.iload_n 1, 1) := by decide +kernel
theorem dX12_call_39 : decode cX12_call 39 = .ok (.iaload, 1) := by decide +kernel
theorem dX12_call_40 : decode cX12_call 40 = .ok (.invokevirtual 503, 3) := by decide +kernel
theorem dX12_call_43 : decode cX12_call 43 = .ok (.istore_n 2, 1) := by decide +kernel
theorem dX12_call_44 : decode cX12_call 44 = .ok (.iconst 0, 1) := by decide +kernel
theorem dX12_call_45 : decode cX12_call 45 = .ok (.istore_n 3, 1) := by decide +kernel
theorem dX12_call_46 : decode cX12_call 46 = .ok (.iload_n 3, 1) := by decide +kernel
theorem dX12_call_47 : decode cX12_call 47 = .ok (.aload_n 0, 1) := by decide +kernel
theorem dX12_call_48 : decode cX12_call 48 = .ok (.getfield 130, 3) := by decide +kernel
theorem dX12_call_51 : decode cX12_call 51 = .ok (.iload_n 1, 1) := by decide +kernel
theorem dX12_call_52 : decode cX12_call 52 = .ok (.iaload, 1) := by decide +kernel
theorem dX12_call_53 : decode cX12_call 53 = .ok (.if_icmp .ge 134, 3) := by decide +kernel
theorem dX12_call_56 : decode cX12_call 56 = .ok (.aload_n 0, 1) := by decide +kernel
theorem dX12_call_57 : decode cX12_call 57 = .ok (.getfield 130, 3) := by decide +kernel
theorem dX12_call_60 : decode cX12_call 60 = .ok (.iload_n 1, 1) := by decide +kernel
theorem dX12_call_61 : decode cX12_call 61 = .ok (.iaload, 1) := by decide +kernel
theorem dX12_call_62 : decode cX12_call 62 = .ok (.iload_n 3, 1) := by decide +kernel
theorem dX12_call_63 : decode cX12_call 63 = .ok (.isub, 1) := by decide +kernel
theorem dX12_call_64 : decode cX12_call 64 = .ok (.istore 4, 2) := by decide +kernel
theorem dX12_call_66 : decode cX12_call 66 = .ok (.aload_n 0, 1) := by decide +kernel
theorem dX12_call_67 : decode cX12_call 67 = .ok (.getfield 133, 3) := by decide +kernel
theorem dX12_call_70 : decode cX12_call 70 = .ok (.iconst 3, 1) := by decide +kernel
theorem dX12_call_71 : decode cX12_call 71 = .ok (.iload_n 1, 1) := by decide +kernel
theorem dX12_call_72 : decode cX12_call 72 = .ok (.imul, 1) := by decide +kernel
theorem dX12_call_73 : decode cX12_call 73 = .ok (.iload_n 3, 1) := by decide +kernel
theorem dX12_call_74 : decode cX12_call 74 = .ok (.iadd, 1) := by decide +kernel
theorem dX12_call_75 : decode cX12_call 75 = .ok (.iaload, 1) := by decide +kernel
theorem dX12_call_76 : decode cX12_call 76 = .ok (.istore 5, 2) := by decide +kernel
theorem dX12_call_78 : decode cX12_call 78 = .ok (.aload_n 0, 1) := by decide +kernel
theorem dX12_call_79 : decode cX12_call 79 = .ok (.getfield 112, 3) := by decide +kernel
theorem dX12_call_82 : decode cX12_call 82 = .ok (.iload_n 1, 1) := by decide +kernel
theorem dX12_call_83 : decode cX12_call 83 = .ok (.iaload, 1) := by decide +kernel
theorem dX12_call_84 : decode cX12_call 84 = .ok (.iload 4, 2) := by decide +kernel
theorem dX12_call_86 : decode cX12_call 86 = .ok (.iadd, 1) := by decide +kernel
theorem dX12_call_87 : decode cX12_call 87 = .ok (.iconst 1, 1) := by decide +kernel
theorem dX12_call_88 : decode cX12_call 88 = .ok (.isub, 1) := by decide +kernel
theorem dX12_call_89 : decode cX12_call 89 = .ok (.iload 4, 2) := by decide +kernel
theorem dX12_call_91 : decode cX12_call 91 = .ok (.idiv, 1) := by decide +kernel
theorem dX12_call_92 : decode cX12_call 92 = .ok (.istore 6, 2) := by decide +kernel
theorem dX12_call_94 : decode cX12_call 94 = .ok (.iload 6, 2) := by decide +kernel
theorem dX12_call_96 : decode cX12_call 96 = .ok (.aload_n 0, 1) := by decide +kernel
theorem dX12_call_97 : decode cX12_call 97 = .ok (.getfield 13, 3) := by decide +kernel
theorem dX12_call_100 : decode cX12_call 100 = .ok (.iload 5, 2) := by decide +kernel
theorem dX12_call_102 : decode cX12_call 102 = .ok (.iaload, 1) := by decide +kernel
theorem dX12_call_103 : decode cX12_call 103 = .ok (.if_icmp .ge 8, 3) := by decide +kernel
theorem dX12_call_106 : decode cX12_call 106 = .ok (.iload 6, 2) := by decide +kernel
theorem dX12_call_108 : decode cX12_call 108 = .ok (.goto 10, 3) := by decide +kernel
theorem dX12_call_111 : decode cX12_call 111 = .ok (.aload_n 0, 1) := by decide +kernel
theorem dX12_call_112 : decode cX12_call 112 = .ok (.getfield 13, 3) := by decide +kernel
theorem dX12_call_115 : decode cX12_call 115 = .ok (.iload 5, 2) := by decide +kernel
theorem dX12_call_117 : decode cX12_call 117 = .ok (.iaload, 1) := by decide +kernel
theorem dX12_call_118 : decode cX12_call 118 = .ok (.istore 6, 2) := by decide +kernel
theorem dX12_call_120 : decode cX12_call 120 = .ok (.aload_n 0, 1) := by decide +kernel
theorem dX12_call_121 : decode cX12_call 121 = .ok (.getfield 13, 3) := by decide +kernel
theorem dX12_call_124 : decode cX12_call 124 = .ok (.iload 5, 2) := by decide +kernel
theorem dX12_call_126 : decode cX12_call 126 = .ok (.dup2, 1) := by decide +kernel
theorem dX12_call_127 : decode cX12_call 127 = .ok (.iaload, 1) := by decide +kernel
theorem dX12_call_128 : decode cX12_call 128 = .ok (.iload 6, 2) := by decide +kernel
theorem dX12_call_130 : decode cX12_call 130 = .ok (.isub, 1) := by decide +kernel
theorem dX12_call_131 : decode cX12_call 131 = .ok (.iastore, 1) := by decide +kernel
theorem dX12_call_132 : decode cX12_call 132 = .ok (.aload_n 0, 1) := by decide +kernel
theorem dX12_call_133 : decode cX12_call 133 = .ok (.getfield 112, 3) := by decide +kernel
theorem dX12_call_136 : decode cX12_call 136 = .ok (.iload_n 1, 1) := by decide +kernel
theorem dX12_call_137 : decode cX12_call 137 = .ok (.dup2, 1) := by decide +kernel
theorem dX12_call_138 : decode cX12_call 138 = .ok (.iaload, 1) := by decide +kernel
theorem dX12_call_139 : decode cX12_call 139 = .ok (.iload 6, 2) := by decide +kernel
theorem dX12_call_141 : decode cX12_call 141 = .ok (.isub, 1) := by decide +kernel
theorem dX12_call_142 : decode cX12_call 142 = .ok (.iastore, 1) := by decide +kernel
theorem dX12_call_143 : decode cX12_call 143 = .ok (.aload_n 0, 1) := by decide +kernel
theorem dX12_call_144 : decode cX12_call 144 = .ok (.getfield 136, 3) := by decide +kernel
theorem dX12_call_147 : decode cX12_call 147 = .ok (.iconst 3, 1) := by decide +kernel
theorem dX12_call_148 : decode cX12_call 148 = .ok (.iload_n 1, 1) := by decide +kernel
theorem dX12_call_149 : decode cX12_call 149 = .ok (.imul, 1) := by decide +kernel
theorem dX12_call_150 : decode cX12_call 150 = .ok (.iload_n 3, 1) := by decide +kernel
theorem dX12_call_151 : decode cX12_call 151 = .ok (.iadd, 1) := by decide +kernel
theorem dX12_call_152 : decode cX12_call 152 = .ok (.dup2, 1) := by decide +kernel
theorem dX12_call_153 : decode cX12_call 153 = .ok (.iaload, 1) := by decide +kernel
theorem dX12_call_154 : decode cX12_call 154 = .ok (.iload 6, 2) := by decide +kernel
theorem dX12_call_156 : decode cX12_call 156 = .ok (.iadd, 1) := by decide +kernel
theorem dX12_call_157 : decode cX12_call 157 = .ok (.iastore, 1) := by decide +kernel
theorem dX12_call_158 : decode cX12_call 158 = .ok (.aload_n 0, 1) := by decide +kernel
theorem dX12_call_159 : decode cX12_call 159 = .ok (.iload 6, 2) := by decide +kernel
theorem dX12_call_161 : decode cX12_call 161 = .ok (.aload_n 0, 1) := by decide +kernel
theorem dX12_call_162 : decode cX12_call 162 = .ok (.getfield 124, 3) := by decide +kernel
theorem dX12_call_165 : decode cX12_call 165 = .ok (.iload_n 1, 1) := by decide +kernel
theorem dX12_call_166 : decode cX12_call 166 = .ok (.iaload, 1) := by decide +kernel
theorem dX12_call_167 : decode cX12_call 167 = .ok (.aload_n 0, 1) := by decide +kernel
theorem dX12_call_168 : decode cX12_call 168 = .ok (.getfield 127, 3) := by decide +kernel
theorem dX12_call_171 : decode cX12_call 171 = .ok (.iload_n 1, 1) := by decide +kernel
theorem dX12_call_172 : decode cX12_call 172 = .ok (.iaload, 1) := by decide +kernel
theorem dX12_call_173 : decode cX12_call 173 = .ok (.invokevirtual 499, 3) := by decide +kernel
theorem dX12_call_176 : decode cX12_call 176 = .ok (.iload_n 2, 1) := by decide +kernel
theorem dX12_call_177 : decode cX12_call 177 = .ok (.iload 6, 2) := by decide +kernel
theorem dX12_call_179 : decode cX12_call 179 = .ok (.iadd, 1) := by decide +kernel
theorem dX12_call_180 : decode cX12_call 180 = .ok (.istore_n 2, 1) := by decide +kernel
theorem dX12_call_181 : decode cX12_call 181 = .ok (.iinc 3 1, 3) := by decide +kernel
theorem dX12_call_184 : decode cX12_call 184 = .ok (.goto (-138), 3) := by decide +kernel
theorem dX12_call_187 : decode cX12_call 187 = .ok (.iload_n 2, 1) := by decide +kernel
theorem dX12_call_188 : decode cX12_call 188 = .ok (.ireturn, 1) := by decide +kernel
theorem dX12_claims_0 : decode cX12_claims 0 = .ok (.iconst 3, 1) := by decide +kernel
theorem dX12_claims_1 : decode cX12_claims 1 = .ok (.iload_n 1, 1) := by decide +kernel
theorem dX12_claims_2 : decode cX12_claims 2 = .ok (.imul, 1) := by decide +kernel
theorem dX12_claims_3 : decode cX12_claims 3 = .ok (.iload_n 2, 1) := by decide +kernel
theorem dX12_claims_4 : decode cX12_claims 4 = .ok (.iadd, 1) := by decide +kernel
theorem dX12_claims_5 : decode cX12_claims 5 = .ok (.istore 4, 2) := by decide +kernel
theorem dX12_claims_7 : decode cX12_claims 7 = .ok (.iload_n 3, 1) := by decide +kernel
theorem dX12_claims_8 : decode cX12_claims 8 = .ok (.aload_n 0, 1) := by decide +kernel
theorem dX12_claims_9 : decode cX12_claims 9 = .ok (.getfield 136, 3) := by decide +kernel
theorem dX12_claims_12 : decode cX12_claims 12 = .ok (.iload 4, 2) := by decide +kernel
theorem dX12_claims_14 : decode cX12_claims 14 = .ok (.iaload, 1) := by decide +kernel
theorem dX12_claims_15 : decode cX12_claims 15 = .ok (.if_icmp .ge 7, 3) := by decide +kernel
theorem dX12_claims_18 : decode cX12_claims 18 = .ok (.iload_n 3, 1) := by decide +kernel
theorem dX12_claims_19 : decode cX12_claims 19 = .ok (.goto 10, 3) := by decide +kernel
theorem dX12_claims_22 : decode cX12_claims 22 = .ok (.aload_n 0, 1) := by decide +kernel
theorem dX12_claims_23 : decode cX12_claims 23 = .ok (.getfield 136, 3) := by decide +kernel
theorem dX12_claims_26 : decode cX12_claims 26 = .ok (.iload 4, 2) := by decide +kernel
theorem dX12_claims_28 : decode cX12_claims 28 = .ok (.iaload, 1) := by decide +kernel
theorem dX12_claims_29 : decode cX12_claims 29 = .ok (.istore 5, 2) := by decide +kernel
theorem dX12_claims_31 : decode cX12_claims 31 = .ok (.iload 5, 2) := by decide +kernel
theorem dX12_claims_33 : decode cX12_claims 33 = .ok (.aload_n 0, 1) := by decide +kernel
theorem dX12_claims_34 : decode cX12_claims 34 = .ok (.getfield 13, 3) := by decide +kernel
theorem dX12_claims_37 : decode cX12_claims 37 = .ok (.aload_n 0, 1) := by decide +kernel
theorem dX12_claims_38 : decode cX12_claims 38 = .ok (.getfield 103, 3) := by decide +kernel
theorem dX12_claims_41 : decode cX12_claims 41 = .ok (.iload_n 1, 1) := by decide +kernel
theorem dX12_claims_42 : decode cX12_claims 42 = .ok (.iaload, 1) := by decide +kernel
theorem dX12_claims_43 : decode cX12_claims 43 = .ok (.iaload, 1) := by decide +kernel
theorem dX12_claims_44 : decode cX12_claims 44 = .ok (.if_icmp .ge 8, 3) := by decide +kernel
theorem dX12_claims_47 : decode cX12_claims 47 = .ok (.iload 5, 2) := by decide +kernel
theorem dX12_claims_49 : decode cX12_claims 49 = .ok (.goto 14, 3) := by decide +kernel
theorem dX12_claims_52 : decode cX12_claims 52 = .ok (.aload_n 0, 1) := by decide +kernel
theorem dX12_claims_53 : decode cX12_claims 53 = .ok (.getfield 13, 3) := by decide +kernel
theorem dX12_claims_56 : decode cX12_claims 56 = .ok (.aload_n 0, 1) := by decide +kernel
theorem dX12_claims_57 : decode cX12_claims 57 = .ok (.getfield 103, 3) := by decide +kernel
theorem dX12_claims_60 : decode cX12_claims 60 = .ok (.iload_n 1, 1) := by decide +kernel
theorem dX12_claims_61 : decode cX12_claims 61 = .ok (.iaload, 1) := by decide +kernel
theorem dX12_claims_62 : decode cX12_claims 62 = .ok (.iaload, 1) := by decide +kernel
theorem dX12_claims_63 : decode cX12_claims 63 = .ok (.istore 5, 2) := by decide +kernel
theorem dX12_claims_65 : decode cX12_claims 65 = .ok (.aload_n 0, 1) := by decide +kernel
theorem dX12_claims_66 : decode cX12_claims 66 = .ok (.getfield 13, 3) := by decide +kernel
theorem dX12_claims_69 : decode cX12_claims 69 = .ok (.aload_n 0, 1) := by decide +kernel
theorem dX12_claims_70 : decode cX12_claims 70 = .ok (.getfield 103, 3) := by decide +kernel
theorem dX12_claims_73 : decode cX12_claims 73 = .ok (.iload_n 1, 1) := by decide +kernel
theorem dX12_claims_74 : decode cX12_claims 74 = .ok (.iaload, 1) := by decide +kernel
theorem dX12_claims_75 : decode cX12_claims 75 = .ok (.dup2, 1) := by decide +kernel
theorem dX12_claims_76 : decode cX12_claims 76 = .ok (.iaload, 1) := by decide +kernel
theorem dX12_claims_77 : decode cX12_claims 77 = .ok (.iload 5, 2) := by decide +kernel
theorem dX12_claims_79 : decode cX12_claims 79 = .ok (.isub, 1) := by decide +kernel
theorem dX12_claims_80 : decode cX12_claims 80 = .ok (.iastore, 1) := by decide +kernel
theorem dX12_claims_81 : decode cX12_claims 81 = .ok (.aload_n 0, 1) := by decide +kernel
theorem dX12_claims_82 : decode cX12_claims 82 = .ok (.getfield 136, 3) := by decide +kernel
theorem dX12_claims_85 : decode cX12_claims 85 = .ok (.iload 4, 2) := by decide +kernel
theorem dX12_claims_87 : decode cX12_claims 87 = .ok (.dup2, 1) := by decide +kernel
theorem dX12_claims_88 : decode cX12_claims 88 = .ok (.iaload, 1) := by decide +kernel
theorem dX12_claims_89 : decode cX12_claims 89 = .ok (.iload 5, 2) := by decide +kernel
theorem dX12_claims_91 : decode cX12_claims 91 = .ok (.isub, 1) := by decide +kernel
theorem dX12_claims_92 : decode cX12_claims 92 = .ok (.iastore, 1) := by decide +kernel
theorem dX12_claims_93 : decode cX12_claims 93 = .ok (.aload_n 0, 1) := by decide +kernel
theorem dX12_claims_94 : decode cX12_claims 94 = .ok (.iload 5, 2) := by decide +kernel
theorem dX12_claims_96 : decode cX12_claims 96 = .ok (.aload_n 0, 1) := by decide +kernel
theorem dX12_claims_97 : decode cX12_claims 97 = .ok (.getfield 139, 3) := by decide +kernel
theorem dX12_claims_100 : decode cX12_claims 100 = .ok (.iload 4, 2) := by decide +kernel
theorem dX12_claims_102 : decode cX12_claims 102 = .ok (.iaload, 1) := by decide +kernel
theorem dX12_claims_103 : decode cX12_claims 103 = .ok (.aload_n 0, 1) := by decide +kernel
theorem dX12_claims_104 : decode cX12_claims 104 = .ok (.getfield 142, 3) := by decide +kernel
theorem dX12_claims_107 : decode cX12_claims 107 = .ok (.iload 4, 2) := by decide +kernel
theorem dX12_claims_109 : decode cX12_claims 109 = .ok (.iaload, 1) := by decide +kernel
theorem dX12_claims_110 : decode cX12_claims 110 = .ok (.invokevirtual 499, 3) := by decide +kernel
theorem dX12_claims_113 : decode cX12_claims 113 = .ok (.iload 5, 2) := by decide +kernel
theorem dX12_claims_115 : decode cX12_claims 115 = .ok (.ireturn, 1) := by decide +kernel
theorem dX12_claim_0 : decode cX12_claim 0 = .ok (.aload_n 0, 1) := by decide +kernel
theorem dX12_claim_1 : decode cX12_claim 1 = .ok (.iload_n 1, 1) := by decide +kernel
theorem dX12_claim_2 : decode cX12_claim 2 = .ok (.invokevirtual 496, 3) := by decide +kernel
theorem dX12_claim_5 : decode cX12_claim 5 = .ok (.ifCond .eq 37, 3) := by decide +kernel
theorem dX12_claim_8 : decode cX12_claim 8 = .ok (.iload_n 2, 1) := by decide +kernel
theorem dX12_claim_9 : decode cX12_claim 9 = .ok (.iconst 0, 1) := by decide +kernel
theorem dX12_claim_10 : decode cX12_claim 10 = .ok (.aload_n 0, 1) := by decide +kernel
theorem dX12_claim_11 : decode cX12_claim 11 = .ok (.getfield 130, 3) := by decide +kernel
theorem dX12_claim_14 : decode cX12_claim 14 = .ok (.iload_n 1, 1) := by decide +kernel
theorem dX12_claim_15 : decode cX12_claim 15 = .ok (.iaload, 1) := by decide +kernel
theorem dX12_claim_16 : decode cX12_claim 16 = .ok (.iconst 1, 1) := by decide +kernel
theorem dX12_claim_17 : decode cX12_claim 17 = .ok (.isub, 1) := by decide +kernel
theorem dX12_claim_18 : decode cX12_claim 18 = .ok (.invokestatic 269, 3) := by decide +kernel
theorem dX12_claim_21 : decode cX12_claim 21 = .ok (.ifCond .eq 21, 3) := by decide +kernel
theorem dX12_claim_24 : decode cX12_claim 24 = .ok (.aload_n 0, 1) := by decide +kernel
theorem dX12_claim_25 : decode cX12_claim 25 = .ok (.getfield 136, 3) := by decide +kernel
theorem dX12_claim_28 : decode cX12_claim 28 = .ok (.iconst 3, 1) := by decide +kernel
theorem dX12_claim_29 : decode cX12_claim 29 = .ok (.iload_n 1, 1) := by decide +kernel
theorem dX12_claim_30 : decode cX12_claim 30 = .ok (.imul, 1) := by decide +kernel
theorem dX12_claim_31 : decode cX12_claim 31 = .ok (.iload_n 2, 1) := by decide +kernel
theorem dX12_claim_32 : decode cX12_claim 32 = .ok (.iadd, 1) := by decide +kernel
theorem dX12_claim_33 : decode cX12_claim 33 = .ok (.iaload, 1) := by decide +kernel
theorem dX12_claim_34 : decode cX12_claim 34 = .ok (.ifCond .eq 8, 3) := by decide +kernel
theorem dX12_claim_37 : decode cX12_claim 37 = .ok (.iload_n 3, 1) := by decide +kernel
theorem dX12_claim_38 : decode cX12_claim 38 = .ok (.iconst 1, 1) := by decide +kernel
theorem dX12_claim_39 : decode cX12_claim 39 = .ok (.if_icmp .ge 7, 3) := by decide +kernel
theorem dX12_claim_42 : decode cX12_claim 42 = .ok (.iconst (-1), 1) := by decide +kernel
theorem dX12_claim_43 : decode cX12_claim 43 = .ok (.goto 10, 3) := by decide +kernel
theorem dX12_claim_46 : decode cX12_claim 46 = .ok (.aload_n 0, 1) := by decide +kernel
theorem dX12_claim_47 : decode cX12_claim 47 = .ok (.iload_n 1, 1) := by decide +kernel
theorem dX12_claim_48 : decode cX12_claim 48 = .ok (.iload_n 2, 1) := by decide +kernel
theorem dX12_claim_49 : decode cX12_claim 49 = .ok (.iload_n 3, 1) := by decide +kernel
theorem dX12_claim_50 : decode cX12_claim 50 = .ok (.invokevirtual 506, 3) := by decide +kernel
theorem dX12_claim_53 : decode cX12_claim 53 = .ok (.ireturn, 1) := by decide +kernel
theorem dX12_chest_0 : decode cX12_chest 0 = .ok (.iload_n 1, 1) := by decide +kernel
theorem dX12_chest_1 : decode cX12_chest 1 = .ok (.iconst 0, 1) := by decide +kernel
theorem dX12_chest_2 : decode cX12_chest 2 = .ok (.bipush 9, 2) := by decide +kernel
theorem dX12_chest_4 : decode cX12_chest 4 = .ok (.invokestatic 269, 3) := by decide +kernel
theorem dX12_chest_7 : decode cX12_chest 7 = .ok (.ifCond .eq 12, 3) := by decide +kernel
theorem dX12_chest_10 : decode cX12_chest 10 = .ok (.aload_n 0, 1) := by decide +kernel
theorem dX12_chest_11 : decode cX12_chest 11 = .ok (.getfield 25, 3) := by decide +kernel
theorem dX12_chest_14 : decode cX12_chest 14 = .ok (.iload_n 1, 1) := by decide +kernel
theorem dX12_chest_15 : decode cX12_chest 15 = .ok (.iaload, 1) := by decide +kernel
theorem dX12_chest_16 : decode cX12_chest 16 = .ok (.goto 4, 3) := by decide +kernel
theorem dX12_chest_19 : decode cX12_chest 19 = .ok (.iconst (-1), 1) := by decide +kernel
theorem dX12_chest_20 : decode cX12_chest 20 = .ok (.ireturn, 1) := by decide +kernel
theorem dX12_die_0 : decode cX12_die 0 = .ok (.aload_n 0, 1) := by decide +kernel
theorem dX12_die_1 : decode cX12_die 1 = .ok (.iload_n 1, 1) := by decide +kernel
theorem dX12_die_2 : decode cX12_die 2 = .ok (.invokevirtual 285, 3) := by decide +kernel
theorem dX12_die_5 : decode cX12_die 5 = .ok (.ifCond .ne 6, 3) := by decide +kernel
theorem dX12_die_8 : decode cX12_die 8 = .ok (.bipush (-2), 2) := by decide +kernel
theorem dX12_die_10 : decode cX12_die 10 = .ok (.ireturn, 1) := by decide +kernel
theorem dX12_die_11 : decode cX12_die 11 = .ok (.aload_n 0, 1) := by decide +kernel
theorem dX12_die_12 : decode cX12_die 12 = .ok (.getfield 19, 3) := by decide +kernel
theorem dX12_die_15 : decode cX12_die 15 = .ok (.iload_n 1, 1) := by decide +kernel
theorem dX12_die_16 : decode cX12_die 16 = .ok (.aload_n 0, 1) := by decide +kernel
theorem dX12_die_17 : decode cX12_die 17 = .ok (.getfield 273, 3) := by decide +kernel
theorem dX12_die_20 : decode cX12_die 20 = .ok (.iastore, 1) := by decide +kernel
theorem dX12_die_21 : decode cX12_die 21 = .ok (.iconst 1, 1) := by decide +kernel
theorem dX12_die_22 : decode cX12_die 22 = .ok (.istore_n 2, 1) := by decide +kernel
theorem dX12_die_23 : decode cX12_die 23 = .ok (.iconst 0, 1) := by decide +kernel
theorem dX12_die_24 : decode cX12_die 24 = .ok (.istore_n 3, 1) := by decide +kernel
theorem dX12_die_25 : decode cX12_die 25 = .ok (.iload_n 3, 1) := by decide +kernel
theorem dX12_die_26 : decode cX12_die 26 = .ok (.aload_n 0, 1) := by decide +kernel
theorem dX12_die_27 : decode cX12_die 27 = .ok (.getfield 472, 3) := by decide +kernel
theorem dX12_die_30 : decode cX12_die 30 = .ok (.if_icmp .ge 16, 3) := by decide +kernel
theorem dX12_die_33 : decode cX12_die 33 = .ok (.aload_n 0, 1) := by decide +kernel
theorem dX12_die_34 : decode cX12_die 34 = .ok (.getfield 224, 3) := by decide +kernel
theorem dX12_die_37 : decode cX12_die 37 = .ok (.iload_n 3, 1) := by decide +kernel
theorem dX12_die_38 : decode cX12_die 38 = .ok (.iconst 0, 1) := by decide +kernel
theorem dX12_die_39 : decode cX12_die 39 = .ok (.bastore, 1) := by decide +kernel
theorem dX12_die_40 : decode cX12_die 40 = .ok (.iinc 3 1, 3) := by decide +kernel
theorem dX12_die_43 : decode cX12_die 43 = .ok (.goto (-18), 3) := by decide +kernel
theorem dX12_die_46 : decode cX12_die 46 = .ok (.iload_n 2, 1) := by decide +kernel
theorem dX12_die_47 : decode cX12_die 47 = .ok (.ifCond .eq 115, 3) := by decide +kernel
theorem dX12_die_50 : decode cX12_die 50 = .ok (.iconst (-1), 1) := by decide +kernel
theorem dX12_die_51 : decode cX12_die 51 = .ok (.istore_n 3, 1) := by decide +kernel
theorem dX12_die_52 : decode cX12_die 52 = .ok (.iconst 0, 1) := by decide +kernel
theorem dX12_die_53 : decode cX12_die 53 = .ok (.istore 4, 2) := by decide +kernel
theorem dX12_die_55 : decode cX12_die 55 = .ok (.iload 4, 2) := by decide +kernel
theorem dX12_die_57 : decode cX12_die 57 = .ok (.aload_n 0, 1) := by decide +kernel
theorem dX12_die_58 : decode cX12_die 58 = .ok (.getfield 472, 3) := by decide +kernel
theorem dX12_die_61 : decode cX12_die 61 = .ok (.if_icmp .ge 64, 3) := by decide +kernel
theorem dX12_die_64 : decode cX12_die 64 = .ok (.aload_n 0, 1) := by decide +kernel
theorem dX12_die_65 : decode cX12_die 65 = .ok (.getfield 103, 3) := by decide +kernel
theorem dX12_die_68 : decode cX12_die 68 = .ok (.iload 4, 2) := by decide +kernel
theorem dX12_die_70 : decode cX12_die 70 = .ok (.iaload, 1) := by decide +kernel
theorem dX12_die_71 : decode cX12_die 71 = .ok (.iload_n 1, 1) := by decide +kernel
theorem dX12_die_72 : decode cX12_die 72 = .ok (.if_icmp .ne 47, 3) := by decide +kernel
theorem dX12_die_75 : decode cX12_die 75 = .ok (.aload_n 0, 1) := by decide +kernel
theorem dX12_die_76 : decode cX12_die 76 = .ok (.getfield 112, 3) := by decide +kernel
theorem dX12_die_79 : decode cX12_die 79 = .ok (.iload 4, 2) := by decide +kernel
theorem dX12_die_81 : decode cX12_die 81 = .ok (.iaload, 1) := by decide +kernel
theorem dX12_die_82 : decode cX12_die 82 = .ok (.ifCond .le 37, 3) := by decide +kernel
theorem dX12_die_85 : decode cX12_die 85 = .ok (.aload_n 0, 1) := by decide +kernel
theorem dX12_die_86 : decode cX12_die 86 = .ok (.getfield 224, 3) := by decide +kernel
theorem dX12_die_89 : decode cX12_die 89 = .ok (.iload 4, 2) := by decide +kernel
theorem dX12_die_91 : decode cX12_die 91 = .ok (.baload, 1) := by decide +kernel
theorem dX12_die_92 : decode cX12_die 92 = .ok (.ifCond .ne 27, 3) := by decide +kernel
theorem dX12_die_95 : decode cX12_die 95 = .ok (.iload_n 3, 1) := by decide +kernel
theorem dX12_die_96 : decode cX12_die 96 = .ok (.iconst (-1), 1) := by decide +kernel
theorem dX12_die_97 : decode cX12_die 97 = .ok (.if_icmp .eq 19, 3) := by decide +kernel
theorem dX12_die_100 : decode cX12_die 100 = .ok (.aload_n 0, 1) := by decide +kernel
theorem dX12_die_101 : decode cX12_die 101 = .ok (.getfield 115, 3) := by decide +kernel
theorem dX12_die_104 : decode cX12_die 104 = .ok (.iload 4, 2) := by decide +kernel
theorem dX12_die_106 : decode cX12_die 106 = .ok (.iaload, 1) := by decide +kernel
theorem dX12_die_107 : decode cX12_die 107 = .ok (.aload_n 0, 1) := by decide +kernel
theorem dX12_die_108 : decode cX12_die 108 = .ok (.getfield 115, 3) := by decide +kernel
theorem dX12_die_111 : decode cX12_die 111 = .ok (.iload_n 3, 1) := by decide +kernel
theorem dX12_die_112 : decode cX12_die 112 = .ok (.iaload, 1) := by decide +kernel
theorem dX12_die_113 : decode cX12_die 113 = .ok (.if_icmp .ge 6, 3) := by decide +kernel
theorem dX12_die_116 : decode cX12_die 116 = .ok (.iload 4, 2) := by decide +kernel
theorem dX12_die_118 : decode cX12_die 118 = .ok (.istore_n 3, 1) := by decide +kernel
theorem dX12_die_119 : decode cX12_die 119 = .ok (.iinc 4 1, 3) := by decide +kernel
theorem dX12_die_122 : decode cX12_die 122 = .ok (.goto (-67), 3) := by decide +kernel
theorem dX12_die_125 : decode cX12_die 125 = .ok (.iload_n 3, 1) := by decide +kernel
theorem dX12_die_126 : decode cX12_die 126 = .ok (.iconst (-1), 1) := by decide +kernel
theorem dX12_die_127 : decode cX12_die 127 = .ok (.if_icmp .eq 7, 3) := by decide +kernel
theorem dX12_die_130 : decode cX12_die 130 = .ok (.iconst 1, 1) := by decide +kernel
theorem dX12_die_131 : decode cX12_die 131 = .ok (.goto 4, 3) := by decide +kernel
theorem dX12_die_134 : decode cX12_die 134 = .ok (.iconst 0, 1) := by decide +kernel
theorem dX12_die_135 : decode cX12_die 135 = .ok (.istore_n 2, 1) := by decide +kernel
theorem dX12_die_136 : decode cX12_die 136 = .ok (.iload_n 2, 1) := by decide +kernel
theorem dX12_die_137 : decode cX12_die 137 = .ok (.ifCond .eq 22, 3) := by decide +kernel
theorem dX12_die_140 : decode cX12_die 140 = .ok (.aload_n 0, 1) := by decide +kernel
theorem dX12_die_141 : decode cX12_die 141 = .ok (.iload_n 3, 1) := by decide +kernel
theorem dX12_die_142 : decode cX12_die 142 = .ok (.aload_n 0, 1) := by decide +kernel
theorem dX12_die_143 : decode cX12_die 143 = .ok (.getfield 112, 3) := by decide +kernel
theorem dX12_die_146 : decode cX12_die 146 = .ok (.iload_n 3, 1) := by decide +kernel
theorem dX12_die_147 : decode cX12_die 147 = .ok (.iaload, 1) := by decide +kernel
theorem dX12_die_148 : decode cX12_die 148 = .ok (.invokevirtual 503, 3) := by decide +kernel
theorem dX12_die_151 : decode cX12_die 151 = .ok (.pop, 1) := by decide +kernel
theorem dX12_die_152 : decode cX12_die 152 = .ok (.aload_n 0, 1) := by decide +kernel
theorem dX12_die_153 : decode cX12_die 153 = .ok (.getfield 224, 3) := by decide +kernel
theorem dX12_die_156 : decode cX12_die 156 = .ok (.iload_n 3, 1) := by decide +kernel
theorem dX12_die_157 : decode cX12_die 157 = .ok (.iconst 1, 1) := by decide +kernel
theorem dX12_die_158 : decode cX12_die 158 = .ok (.bastore, 1) := by decide +kernel
theorem dX12_die_159 : decode cX12_die 159 = .ok (.goto (-113), 3) := by decide +kernel
theorem dX12_die_162 : decode cX12_die 162 = .ok (.iconst 0, 1) := by decide +kernel
theorem dX12_die_163 : decode cX12_die 163 = .ok (.istore_n 3, 1) := by decide +kernel
theorem dX12_die_164 : decode cX12_die 164 = .ok (.iload_n 3, 1) := by decide +kernel
theorem dX12_die_165 : decode cX12_die 165 = .ok (.aload_n 0, 1) := by decide +kernel
theorem dX12_die_166 : decode cX12_die 166 = .ok (.getfield 472, 3) := by decide +kernel
theorem dX12_die_169 : decode cX12_die 169 = .ok (.if_icmp .ge 58, 3) := by decide +kernel
theorem dX12_die_172 : decode cX12_die 172 = .ok (.iconst 0, 1) := by decide +kernel
theorem dX12_die_173 : decode cX12_die 173 = .ok (.istore 4, 2) := by decide +kernel
theorem dX12_die_175 : decode cX12_die 175 = .ok (.iload 4, 2) := by decide +kernel
theorem dX12_die_177 : decode cX12_die 177 = .ok (.aload_n 0, 1) := by decide +kernel
theorem dX12_die_178 : decode cX12_die 178 = .ok (.getfield 130, 3) := by decide +kernel
theorem dX12_die_181 : decode cX12_die 181 = .ok (.iload_n 3, 1) := by decide +kernel
theorem dX12_die_182 : decode cX12_die 182 = .ok (.iaload, 1) := by decide +kernel
theorem dX12_die_183 : decode cX12_die 183 = .ok (.if_icmp .ge 38, 3) := by decide +kernel
theorem dX12_die_186 : decode cX12_die 186 = .ok (.aload_n 0, 1) := by decide +kernel
theorem dX12_die_187 : decode cX12_die 187 = .ok (.getfield 103, 3) := by decide +kernel
theorem dX12_die_190 : decode cX12_die 190 = .ok (.iload_n 3, 1) := by decide +kernel
theorem dX12_die_191 : decode cX12_die 191 = .ok (.iaload, 1) := by decide +kernel
theorem dX12_die_192 : decode cX12_die 192 = .ok (.iload_n 1, 1) := by decide +kernel
theorem dX12_die_193 : decode cX12_die 193 = .ok (.if_icmp .ne 28, 3) := by decide +kernel
theorem dX12_die_196 : decode cX12_die 196 = .ok (.aload_n 0, 1) := by decide +kernel
theorem dX12_die_197 : decode cX12_die 197 = .ok (.iload_n 3, 1) := by decide +kernel
theorem dX12_die_198 : decode cX12_die 198 = .ok (.iload 4, 2) := by decide +kernel
theorem dX12_die_200 : decode cX12_die 200 = .ok (.aload_n 0, 1) := by decide +kernel
theorem dX12_die_201 : decode cX12_die 201 = .ok (.getfield 136, 3) := by decide +kernel
theorem dX12_die_204 : decode cX12_die 204 = .ok (.iconst 3, 1) := by decide +kernel
theorem dX12_die_205 : decode cX12_die 205 = .ok (.iload_n 3, 1) := by decide +kernel
theorem dX12_die_206 : decode cX12_die 206 = .ok (.imul, 1) := by decide +kernel
theorem dX12_die_207 : decode cX12_die 207 = .ok (.iload 4, 2) := by decide +kernel
theorem dX12_die_209 : decode cX12_die 209 = .ok (.iadd, 1) := by decide +kernel
theorem dX12_die_210 : decode cX12_die 210 = .ok (.iaload, 1) := by decide +kernel
theorem dX12_die_211 : decode cX12_die 211 = .ok (.invokevirtual 506, 3) := by decide +kernel
theorem dX12_die_214 : decode cX12_die 214 = .ok (.pop, 1) := by decide +kernel
theorem dX12_die_215 : decode cX12_die 215 = .ok (.iinc 4 1, 3) := by decide +kernel
theorem dX12_die_218 : decode cX12_die 218 = .ok (.goto (-43), 3) := by decide +kernel
theorem dX12_die_221 : decode cX12_die 221 = .ok (.iinc 3 1, 3) := by decide +kernel
theorem dX12_die_224 : decode cX12_die 224 = .ok (.goto (-60), 3) := by decide +kernel
theorem dX12_die_227 : decode cX12_die 227 = .ok (.iconst (-1), 1) := by decide +kernel
theorem dX12_die_228 : decode cX12_die 228 = .ok (.istore_n 3, 1) := by decide +kernel
theorem dX12_die_229 : decode cX12_die 229 = .ok (.iconst 0, 1) := by decide +kernel
theorem dX12_die_230 : decode cX12_die 230 = .ok (.istore 4, 2) := by decide +kernel
theorem dX12_die_232 : decode cX12_die 232 = .ok (.iload 4, 2) := by decide +kernel
theorem dX12_die_234 : decode cX12_die 234 = .ok (.aload_n 0, 1) := by decide +kernel
theorem dX12_die_235 : decode cX12_die 235 = .ok (.getfield 276, 3) := by decide +kernel
theorem dX12_die_238 : decode cX12_die 238 = .ok (.if_icmp .ge 46, 3) := by decide +kernel
theorem dX12_die_241 : decode cX12_die 241 = .ok (.iload_n 3, 1) := by decide +kernel
theorem dX12_die_242 : decode cX12_die 242 = .ok (.iconst (-1), 1) := by decide +kernel
theorem dX12_die_243 : decode cX12_die 243 = .ok (.if_icmp .ne 41, 3) := by decide +kernel
theorem dX12_die_246 : decode cX12_die 246 = .ok (.aload_n 0, 1) := by decide +kernel
theorem dX12_die_247 : decode cX12_die 247 = .ok (.iload 4, 2) := by decide +kernel
theorem dX12_die_249 : decode cX12_die 249 = .ok (.invokevirtual 285, 3) := by decide +kernel
theorem dX12_die_252 : decode cX12_die 252 = .ok (.ifCond .eq 24, 3) := by decide +kernel
theorem dX12_die_255 : decode cX12_die 255 = .ok (.aload_n 0, 1) := by decide +kernel
theorem dX12_die_256 : decode cX12_die 256 = .ok (.getfield 9, 3) := by decide +kernel
theorem dX12_die_259 : decode cX12_die 259 = .ok (.iload 4, 2) := by decide +kernel
theorem dX12_die_261 : decode cX12_die 261 = .ok (.iaload, 1) := by decide +kernel
theorem dX12_die_262 : decode cX12_die 262 = .ok (.aload_n 0, 1) := by decide +kernel
theorem dX12_die_263 : decode cX12_die 263 = .ok (.getfield 9, 3) := by decide +kernel
theorem dX12_die_266 : decode cX12_die 266 = .ok (.iload_n 1, 1) := by decide +kernel
theorem dX12_die_267 : decode cX12_die 267 = .ok (.iaload, 1) := by decide +kernel
theorem dX12_die_268 : decode cX12_die 268 = .ok (.if_icmp .ne 8, 3) := by decide +kernel
theorem dX12_die_271 : decode cX12_die 271 = .ok (.iload 4, 2) := by decide +kernel
theorem dX12_die_273 : decode cX12_die 273 = .ok (.goto 4, 3) := by decide +kernel
theorem dX12_die_276 : decode cX12_die 276 = .ok (.iconst (-1), 1) := by decide +kernel
theorem dX12_die_277 : decode cX12_die 277 = .ok (.istore_n 3, 1) := by decide +kernel
theorem dX12_die_278 : decode cX12_die 278 = .ok (.iinc 4 1, 3) := by decide +kernel
theorem dX12_die_281 : decode cX12_die 281 = .ok (.goto (-49), 3) := by decide +kernel
theorem dX12_die_284 : decode cX12_die 284 = .ok (.iconst 0, 1) := by decide +kernel
theorem dX12_die_285 : decode cX12_die 285 = .ok (.istore 4, 2) := by decide +kernel
theorem dX12_die_287 : decode cX12_die 287 = .ok (.iload 4, 2) := by decide +kernel
theorem dX12_die_289 : decode cX12_die 289 = .ok (.aload_n 0, 1) := by decide +kernel
theorem dX12_die_290 : decode cX12_die 290 = .ok (.getfield 472, 3) := by decide +kernel
theorem dX12_die_293 : decode cX12_die 293 = .ok (.if_icmp .ge 109, 3) := by decide +kernel
theorem dX12_die_296 : decode cX12_die 296 = .ok (.aload_n 0, 1) := by decide +kernel
theorem dX12_die_297 : decode cX12_die 297 = .ok (.getfield 124, 3) := by decide +kernel
theorem dX12_die_300 : decode cX12_die 300 = .ok (.iload 4, 2) := by decide +kernel
theorem dX12_die_302 : decode cX12_die 302 = .ok (.iaload, 1) := by decide +kernel
theorem dX12_die_303 : decode cX12_die 303 = .ok (.iload_n 1, 1) := by decide +kernel
theorem dX12_die_304 : decode cX12_die 304 = .ok (.if_icmp .ne 24, 3) := by decide +kernel
theorem dX12_die_307 : decode cX12_die 307 = .ok (.aload_n 0, 1) := by decide +kernel
theorem dX12_die_308 : decode cX12_die 308 = .ok (.getfield 124, 3) := by decide +kernel
theorem dX12_die_311 : decode cX12_die 311 = .ok (.iload 4, 2) := by decide +kernel
theorem dX12_die_313 : decode cX12_die 313 = .ok (.iload_n 3, 1) := by decide +kernel
theorem dX12_die_314 : decode cX12_die 314 = .ok (.iastore, 1) := by decide +kernel
theorem dX12_die_315 : decode cX12_die 315 = .ok (.aload_n 0, 1) := by decide +kernel
theorem dX12_die_316 : decode cX12_die 316 = .ok (.getfield 127, 3) := by decide +kernel
theorem dX12_die_319 : decode cX12_die 319 = .ok (.iload 4, 2) := by decide +kernel
theorem dX12_die_321 : decode cX12_die 321 = .ok (.aload_n 0, 1) := by decide +kernel
theorem dX12_die_322 : decode cX12_die 322 = .ok (.getfield 9, 3) := by decide +kernel
theorem dX12_die_325 : decode cX12_die 325 = .ok (.iload_n 1, 1) := by decide +kernel
theorem dX12_die_326 : decode cX12_die 326 = .ok (.iaload, 1) := by decide +kernel
theorem dX12_die_327 : decode cX12_die 327 = .ok (.iastore, 1) := by decide +kernel
theorem dX12_die_328 : decode cX12_die 328 = .ok (.iconst 0, 1) := by decide +kernel
theorem dX12_die_329 : decode cX12_die 329 = .ok (.istore 5, 2) := by decide +kernel
theorem dX12_die_331 : decode cX12_die 331 = .ok (.iload 5, 2) := by decide +kernel
theorem dX12_die_333 : decode cX12_die 333 = .ok (.aload_n 0, 1) := by decide +kernel
theorem dX12_die_334 : decode cX12_die 334 = .ok (.getfield 130, 3) := by decide +kernel
theorem dX12_die_337 : decode cX12_die 337 = .ok (.iload 4, 2) := by decide +kernel
theorem dX12_die_339 : decode cX12_die 339 = .ok (.iaload, 1) := by decide +kernel
theorem dX12_die_340 : decode cX12_die 340 = .ok (.if_icmp .ge 56, 3) := by decide +kernel
theorem dX12_die_343 : decode cX12_die 343 = .ok (.aload_n 0, 1) := by decide +kernel
theorem dX12_die_344 : decode cX12_die 344 = .ok (.getfield 139, 3) := by decide +kernel
theorem dX12_die_347 : decode cX12_die 347 = .ok (.iconst 3, 1) := by decide +kernel
theorem dX12_die_348 : decode cX12_die 348 = .ok (.iload 4, 2) := by decide +kernel
theorem dX12_die_350 : decode cX12_die 350 = .ok (.imul, 1) := by decide +kernel
theorem dX12_die_351 : decode cX12_die 351 = .ok (.iload 5, 2) := by decide +kernel
theorem dX12_die_353 : decode cX12_die 353 = .ok (.iadd, 1) := by decide +kernel
theorem dX12_die_354 : decode cX12_die 354 = .ok (.iaload, 1) := by decide +kernel
theorem dX12_die_355 : decode cX12_die 355 = .ok (.iload_n 1, 1) := by decide +kernel
theorem dX12_die_356 : decode cX12_die 356 = .ok (.if_icmp .ne 34, 3) := by decide +kernel
theorem dX12_die_359 : decode cX12_die 359 = .ok (.aload_n 0, 1) := by decide +kernel
theorem dX12_die_360 : decode cX12_die 360 = .ok (.getfield 139, 3) := by decide +kernel
theorem dX12_die_363 : decode cX12_die 363 = .ok (.iconst 3, 1) := by decide +kernel
theorem dX12_die_364 : decode cX12_die 364 = .ok (.iload 4, 2) := by decide +kernel
theorem dX12_die_366 : decode cX12_die 366 = .ok (.imul, 1) := by decide +kernel
theorem dX12_die_367 : decode cX12_die 367 = .ok (.iload 5, 2) := by decide +kernel
theorem dX12_die_369 : decode cX12_die 369 = .ok (.iadd, 1) := by decide +kernel
theorem dX12_die_370 : decode cX12_die 370 = .ok (.iload_n 3, 1) := by decide +kernel
theorem dX12_die_371 : decode cX12_die 371 = .ok (.iastore, 1) := by decide +kernel
theorem dX12_die_372 : decode cX12_die 372 = .ok (.aload_n 0, 1) := by decide +kernel
theorem dX12_die_373 : decode cX12_die 373 = .ok (.getfield 142, 3) := by decide +kernel
theorem dX12_die_376 : decode cX12_die 376 = .ok (.iconst 3, 1) := by decide +kernel
theorem dX12_die_377 : decode cX12_die 377 = .ok (.iload 4, 2) := by decide +kernel
theorem dX12_die_379 : decode cX12_die 379 = .ok (.imul, 1) := by decide +kernel
theorem dX12_die_380 : decode cX12_die 380 = .ok (.iload 5, 2) := by decide +kernel
theorem dX12_die_382 : decode cX12_die 382 = .ok (.iadd, 1) := by decide +kernel
theorem dX12_die_383 : decode cX12_die 383 = .ok (.aload_n 0, 1) := by decide +kernel
theorem dX12_die_384 : decode cX12_die 384 = .ok (.getfield 9, 3) := by decide +kernel
theorem dX12_die_387 : decode cX12_die 387 = .ok (.iload_n 1, 1) := by decide +kernel
theorem dX12_die_388 : decode cX12_die 388 = .ok (.iaload, 1) := by decide +kernel
theorem dX12_die_389 : decode cX12_die 389 = .ok (.iastore, 1) := by decide +kernel
theorem dX12_die_390 : decode cX12_die 390 = .ok (.iinc 5 1, 3) := by decide +kernel
theorem dX12_die_393 : decode cX12_die 393 = .ok (.goto (-62), 3) := by decide +kernel
theorem dX12_die_396 : decode cX12_die 396 = .ok (.iinc 4 1, 3) := by decide +kernel
theorem dX12_die_399 : decode cX12_die 399 = .ok (.goto (-112), 3) := by decide +kernel
theorem dX12_die_402 : decode cX12_die 402 = .ok (.aload_n 0, 1) := by decide +kernel
theorem dX12_die_403 : decode cX12_die 403 = .ok (.getfield 13, 3) := by decide +kernel
theorem dX12_die_406 : decode cX12_die 406 = .ok (.iload_n 1, 1) := by decide +kernel
theorem dX12_die_407 : decode cX12_die 407 = .ok (.iaload, 1) := by decide +kernel
theorem dX12_die_408 : decode cX12_die 408 = .ok (.istore 4, 2) := by decide +kernel
theorem dX12_die_410 : decode cX12_die 410 = .ok (.aload_n 0, 1) := by decide +kernel
theorem dX12_die_411 : decode cX12_die 411 = .ok (.getfield 13, 3) := by decide +kernel
theorem dX12_die_414 : decode cX12_die 414 = .ok (.iload_n 1, 1) := by decide +kernel
theorem dX12_die_415 : decode cX12_die 415 = .ok (.iconst 0, 1) := by decide +kernel
theorem dX12_die_416 : decode cX12_die 416 = .ok (.iastore, 1) := by decide +kernel
theorem dX12_die_417 : decode cX12_die 417 = .ok (.aload_n 0, 1) := by decide +kernel
theorem dX12_die_418 : decode cX12_die 418 = .ok (.iload 4, 2) := by decide +kernel
theorem dX12_die_420 : decode cX12_die 420 = .ok (.iload_n 3, 1) := by decide +kernel
theorem dX12_die_421 : decode cX12_die 421 = .ok (.aload_n 0, 1) := by decide +kernel
theorem dX12_die_422 : decode cX12_die 422 = .ok (.getfield 9, 3) := by decide +kernel
theorem dX12_die_425 : decode cX12_die 425 = .ok (.iload_n 1, 1) := by decide +kernel
theorem dX12_die_426 : decode cX12_die 426 = .ok (.iaload, 1) := by decide +kernel
theorem dX12_die_427 : decode cX12_die 427 = .ok (.invokevirtual 499, 3) := by decide +kernel
theorem dX12_die_430 : decode cX12_die 430 = .ok (.iconst 0, 1) := by decide +kernel
theorem dX12_die_431 : decode cX12_die 431 = .ok (.istore 5, 2) := by decide +kernel
theorem dX12_die_433 : decode cX12_die 433 = .ok (.iload 5, 2) := by decide +kernel
theorem dX12_die_435 : decode cX12_die 435 = .ok (.aload_n 0, 1) := by decide +kernel
theorem dX12_die_436 : decode cX12_die 436 = .ok (.getfield 288, 3) := by decide +kernel
theorem dX12_die_439 : decode cX12_die 439 = .ok (.if_icmp .ge 60, 3) := by decide +kernel
theorem dX12_die_442 : decode cX12_die 442 = .ok (.aload_n 0, 1) := by decide +kernel
theorem dX12_die_443 : decode cX12_die 443 = .ok (.getfield 38, 3) := by decide +kernel
theorem dX12_die_446 : decode cX12_die 446 = .ok (.iload 5, 2) := by decide +kernel
theorem dX12_die_448 : decode cX12_die 448 = .ok (.iaload, 1) := by decide +kernel
theorem dX12_die_449 : decode cX12_die 449 = .ok (.iload_n 1, 1) := by decide +kernel
theorem dX12_die_450 : decode cX12_die 450 = .ok (.if_icmp .ne 43, 3) := by decide +kernel
theorem dX12_die_453 : decode cX12_die 453 = .ok (.aload_n 0, 1) := by decide +kernel
theorem dX12_die_454 : decode cX12_die 454 = .ok (.getfield 38, 3) := by decide +kernel
theorem dX12_die_457 : decode cX12_die 457 = .ok (.iload 5, 2) := by decide +kernel
theorem dX12_die_459 : decode cX12_die 459 = .ok (.iload_n 3, 1) := by decide +kernel
theorem dX12_die_460 : decode cX12_die 460 = .ok (.iconst (-1), 1) := by decide +kernel
theorem dX12_die_461 : decode cX12_die 461 = .ok (.if_icmp .ne 7, 3) := by decide +kernel
theorem dX12_die_464 : decode cX12_die 464 = .ok (.iload_n 1, 1) := by decide +kernel
theorem dX12_die_465 : decode cX12_die 465 = .ok (.goto 4, 3) := by decide +kernel
theorem dX12_die_468 : decode cX12_die 468 = .ok (.iload_n 3, 1) := by decide +kernel
theorem dX12_die_469 : decode cX12_die 469 = .ok (.iastore, 1) := by decide +kernel
theorem dX12_die_470 : decode cX12_die 470 = .ok (.aload_n 0, 1) := by decide +kernel
theorem dX12_die_471 : decode cX12_die 471 = .ok (.getfield 35, 3) := by decide +kernel
theorem dX12_die_474 : decode cX12_die 474 = .ok (.iload 5, 2) := by decide +kernel
theorem dX12_die_476 : decode cX12_die 476 = .ok (.iload_n 3, 1) := by decide +kernel
theorem dX12_die_477 : decode cX12_die 477 = .ok (.iconst (-1), 1) := by decide +kernel
theorem dX12_die_478 : decode cX12_die 478 = .ok (.if_icmp .ne 7, 3) := by decide +kernel
theorem dX12_die_481 : decode cX12_die 481 = .ok (.iconst 0, 1) := by decide +kernel
theorem dX12_die_482 : decode cX12_die 482 = .ok (.goto 10, 3) := by decide +kernel
theorem dX12_die_485 : decode cX12_die 485 = .ok (.aload_n 0, 1) := by decide +kernel
theorem dX12_die_486 : decode cX12_die 486 = .ok (.getfield 35, 3) := by decide +kernel
theorem dX12_die_489 : decode cX12_die 489 = .ok (.iload 5, 2) := by decide +kernel
theorem dX12_die_491 : decode cX12_die 491 = .ok (.iaload, 1) := by decide +kernel
theorem dX12_die_492 : decode cX12_die 492 = .ok (.iastore, 1) := by decide +kernel
theorem dX12_die_493 : decode cX12_die 493 = .ok (.iinc 5 1, 3) := by decide +kernel
theorem dX12_die_496 : decode cX12_die 496 = .ok (.goto (-63), 3) := by decide +kernel
theorem dX12_die_499 : decode cX12_die 499 = .ok (.iload_n 3, 1) := by decide +kernel
theorem dX12_die_500 : decode cX12_die 500 = .ok (.ireturn, 1) := by decide +kernel
theorem dX12_men_0 : decode cX12_men 0 = .ok (.aload_n 0, 1) := by decide +kernel
theorem dX12_men_1 : decode cX12_men 1 = .ok (.iload_n 1, 1) := by decide +kernel
theorem dX12_men_2 : decode cX12_men 2 = .ok (.invokevirtual 281, 3) := by decide +kernel
theorem dX12_men_5 : decode cX12_men 5 = .ok (.ifCond .ne 5, 3) := by decide +kernel
theorem dX12_men_8 : decode cX12_men 8 = .ok (.iconst (-1), 1) := by decide +kernel
theorem dX12_men_9 : decode cX12_men 9 = .ok (.ireturn, 1) := by decide +kernel
theorem dX12_men_10 : decode cX12_men 10 = .ok (.iload_n 2, 1) := by decide +kernel
theorem dX12_men_11 : decode cX12_men 11 = .ok (.tableswitch 132 0 7 #[45, 52, 66, 73, 80, 87, 102, 109], 45) := by decide +kernel
theorem dX12_men_56 : decode cX12_men 56 = .ok (.aload_n 0, 1) := by decide +kernel
theorem dX12_men_57 : decode cX12_men 57 = .ok (.getfield 9, 3) := by decide +kernel
theorem dX12_men_60 : decode cX12_men 60 = .ok (.iload_n 1, 1) := by decide +kernel
theorem dX12_men_61 : decode cX12_men 61 = .ok (.iaload, 1) := by decide +kernel
theorem dX12_men_62 : decode cX12_men 62 = .ok (.ireturn, 1) := by decide +kernel
theorem dX12_men_63 : decode cX12_men 63 = .ok (.aload_n 0, 1) := by decide +kernel
theorem dX12_men_64 : decode cX12_men 64 = .ok (.iload_n 1, 1) := by decide +kernel
theorem dX12_men_65 : decode cX12_men 65 = .ok (.invokevirtual 285, 3) := by decide +kernel
theorem dX12_men_68 : decode cX12_men 68 = .ok (.ifCond .eq 7, 3) := by decide +kernel
theorem dX12_men_71 : decode cX12_men 71 = .ok (.iconst 1, 1) := by decide +kernel
theorem dX12_men_72 : decode cX12_men 72 = .ok (.goto 4, 3) := by decide +kernel
theorem dX12_men_75 : decode cX12_men 75 = .ok (.iconst 0, 1) := by decide +kernel
theorem dX12_men_76 : decode cX12_men 76 = .ok (.ireturn, 1) := by decide +kernel
theorem dX12_men_77 : decode cX12_men 77 = .ok (.aload_n 0, 1) := by decide +kernel
theorem dX12_men_78 : decode cX12_men 78 = .ok (.getfield 13, 3) := by decide +kernel
theorem dX12_men_81 : decode cX12_men 81 = .ok (.iload_n 1, 1) := by decide +kernel
theorem dX12_men_82 : decode cX12_men 82 = .ok (.iaload, 1) := by decide +kernel
theorem dX12_men_83 : decode cX12_men 83 = .ok (.ireturn, 1) := by decide +kernel
theorem dX12_men_84 : decode cX12_men 84 = .ok (.aload_n 0, 1) := by decide +kernel
theorem dX12_men_85 : decode cX12_men 85 = .ok (.iload_n 1, 1) := by decide +kernel
theorem dX12_men_86 : decode cX12_men 86 = .ok (.iconst 0, 1) := by decide +kernel
theorem dX12_men_87 : decode cX12_men 87 = .ok (.invokevirtual 478, 3) := by decide +kernel
theorem dX12_men_90 : decode cX12_men 90 = .ok (.ireturn, 1) := by decide +kernel
theorem dX12_men_91 : decode cX12_men 91 = .ok (.aload_n 0, 1) := by decide +kernel
theorem dX12_men_92 : decode cX12_men 92 = .ok (.iload_n 1, 1) := by decide +kernel
theorem dX12_men_93 : decode cX12_men 93 = .ok (.iconst 1, 1) := by decide +kernel
theorem dX12_men_94 : decode cX12_men 94 = .ok (.invokevirtual 478, 3) := by decide +kernel
theorem dX12_men_97 : decode cX12_men 97 = .ok (.ireturn, 1) := by decide +kernel
theorem dX12_men_98 : decode cX12_men 98 = .ok (.aload_n 0, 1) := by decide +kernel
theorem dX12_men_99 : decode cX12_men 99 = .ok (.getfield 28, 3) := by decide +kernel
theorem dX12_men_102 : decode cX12_men 102 = .ok (.iload_n 1, 1) := by decide +kernel
theorem dX12_men_103 : decode cX12_men 103 = .ok (.baload, 1) := by decide +kernel
theorem dX12_men_104 : decode cX12_men 104 = .ok (.ifCond .eq 7, 3) := by decide +kernel
theorem dX12_men_107 : decode cX12_men 107 = .ok (.iconst 1, 1) := by decide +kernel
theorem dX12_men_108 : decode cX12_men 108 = .ok (.goto 4, 3) := by decide +kernel
theorem dX12_men_111 : decode cX12_men 111 = .ok (.iconst 0, 1) := by decide +kernel
theorem dX12_men_112 : decode cX12_men 112 = .ok (.ireturn, 1) := by decide +kernel
theorem dX12_men_113 : decode cX12_men 113 = .ok (.aload_n 0, 1) := by decide +kernel
theorem dX12_men_114 : decode cX12_men 114 = .ok (.getfield 16, 3) := by decide +kernel
theorem dX12_men_117 : decode cX12_men 117 = .ok (.iload_n 1, 1) := by decide +kernel
theorem dX12_men_118 : decode cX12_men 118 = .ok (.iaload, 1) := by decide +kernel
theorem dX12_men_119 : decode cX12_men 119 = .ok (.ireturn, 1) := by decide +kernel
theorem dX12_men_120 : decode cX12_men 120 = .ok (.aload_n 0, 1) := by decide +kernel
theorem dX12_men_121 : decode cX12_men 121 = .ok (.getfield 19, 3) := by decide +kernel
theorem dX12_men_124 : decode cX12_men 124 = .ok (.iload_n 1, 1) := by decide +kernel
theorem dX12_men_125 : decode cX12_men 125 = .ok (.iaload, 1) := by decide +kernel
theorem dX12_men_126 : decode cX12_men 126 = .ok (.ldc_w 280, 3) := by decide +kernel
theorem dX12_men_129 : decode cX12_men 129 = .ok (.if_icmp .ne 7, 3) := by decide +kernel
theorem dX12_men_132 : decode cX12_men 132 = .ok (.iconst (-1), 1) := by decide +kernel
theorem dX12_men_133 : decode cX12_men 133 = .ok (.goto 9, 3) := by decide +kernel
theorem dX12_men_136 : decode cX12_men 136 = .ok (.aload_n 0, 1) := by decide +kernel
theorem dX12_men_137 : decode cX12_men 137 = .ok (.getfield 19, 3) := by decide +kernel
theorem dX12_men_140 : decode cX12_men 140 = .ok (.iload_n 1, 1) := by decide +kernel
theorem dX12_men_141 : decode cX12_men 141 = .ok (.iaload, 1) := by decide +kernel
theorem dX12_men_142 : decode cX12_men 142 = .ok (.ireturn, 1) := by decide +kernel
theorem dX12_men_143 : decode cX12_men 143 = .ok (.iconst (-1), 1) := by decide +kernel
theorem dX12_men_144 : decode cX12_men 144 = .ok (.ireturn, 1) := by decide +kernel
theorem dX12_weigh_0 : decode cX12_weigh 0 = .ok (.aload_n 0, 1) := by decide +kernel
theorem dX12_weigh_1 : decode cX12_weigh 1 = .ok (.getfield 510, 3) := by decide +kernel
theorem dX12_weigh_4 : decode cX12_weigh 4 = .ok (.bipush 100, 2) := by decide +kernel
theorem dX12_weigh_6 : decode cX12_weigh 6 = .ok (.if_icmp .eq 35, 3) := by decide +kernel
theorem dX12_weigh_9 : decode cX12_weigh 9 = .ok (.iload_n 1, 1) := by decide +kernel
theorem dX12_weigh_10 : decode cX12_weigh 10 = .ok (.iconst 0, 1) := by decide +kernel
theorem dX12_weigh_11 : decode cX12_weigh 11 = .ok (.bipush 7, 2) := by decide +kernel
theorem dX12_weigh_13 : decode cX12_weigh 13 = .ok (.invokestatic 269, 3) := by decide +kernel
theorem dX12_weigh_16 : decode cX12_weigh 16 = .ok (.ifCond .eq 25, 3) := by decide +kernel
theorem dX12_weigh_19 : decode cX12_weigh 19 = .ok (.iload_n 2, 1) := by decide +kernel
theorem dX12_weigh_20 : decode cX12_weigh 20 = .ok (.iconst 2, 1) := by decide +kernel
theorem dX12_weigh_21 : decode cX12_weigh 21 = .ok (.ldc_w 280, 3) := by decide +kernel
theorem dX12_weigh_24 : decode cX12_weigh 24 = .ok (.invokestatic 269, 3) := by decide +kernel
theorem dX12_weigh_27 : decode cX12_weigh 27 = .ok (.ifCond .eq 14, 3) := by decide +kernel
theorem dX12_weigh_30 : decode cX12_weigh 30 = .ok (.iload_n 3, 1) := by decide +kernel
theorem dX12_weigh_31 : decode cX12_weigh 31 = .ok (.iconst 1, 1) := by decide +kernel
theorem dX12_weigh_32 : decode cX12_weigh 32 = .ok (.ldc_w 280, 3) := by decide +kernel
theorem dX12_weigh_35 : decode cX12_weigh 35 = .ok (.invokestatic 269, 3) := by decide +kernel
theorem dX12_weigh_38 : decode cX12_weigh 38 = .ok (.ifCond .ne 5, 3) := by decide +kernel
theorem dX12_weigh_41 : decode cX12_weigh 41 = .ok (.iconst (-1), 1) := by decide +kernel
theorem dX12_weigh_42 : decode cX12_weigh 42 = .ok (.ireturn, 1) := by decide +kernel
theorem dX12_weigh_43 : decode cX12_weigh 43 = .ok (.aload_n 0, 1) := by decide +kernel
theorem dX12_weigh_44 : decode cX12_weigh 44 = .ok (.getfield 152, 3) := by decide +kernel
theorem dX12_weigh_47 : decode cX12_weigh 47 = .ok (.aload_n 0, 1) := by decide +kernel
theorem dX12_weigh_48 : decode cX12_weigh 48 = .ok (.getfield 510, 3) := by decide +kernel
theorem dX12_weigh_51 : decode cX12_weigh 51 = .ok (.iload_n 1, 1) := by decide +kernel
theorem dX12_weigh_52 : decode cX12_weigh 52 = .ok (.iastore, 1) := by decide +kernel
theorem dX12_weigh_53 : decode cX12_weigh 53 = .ok (.aload_n 0, 1) := by decide +kernel
theorem dX12_weigh_54 : decode cX12_weigh 54 = .ok (.getfield 155, 3) := by decide +kernel
theorem dX12_weigh_57 : decode cX12_weigh 57 = .ok (.aload_n 0, 1) := by decide +kernel
theorem dX12_weigh_58 : decode cX12_weigh 58 = .ok (.getfield 510, 3) := by decide +kernel
theorem dX12_weigh_61 : decode cX12_weigh 61 = .ok (.iload_n 2, 1) := by decide +kernel
theorem dX12_weigh_62 : decode cX12_weigh 62 = .ok (.iastore, 1) := by decide +kernel
theorem dX12_weigh_63 : decode cX12_weigh 63 = .ok (.aload_n 0, 1) := by decide +kernel
theorem dX12_weigh_64 : decode cX12_weigh 64 = .ok (.getfield 158, 3) := by decide +kernel
theorem dX12_weigh_67 : decode cX12_weigh 67 = .ok (.aload_n 0, 1) := by decide +kernel
theorem dX12_weigh_68 : decode cX12_weigh 68 = .ok (.getfield 510, 3) := by decide +kernel
theorem dX12_weigh_71 : decode cX12_weigh 71 = .ok (.iload_n 3, 1) := by decide +kernel
theorem dX12_weigh_72 : decode cX12_weigh 72 = .ok (.iastore, 1) := by decide +kernel
theorem dX12_weigh_73 : decode cX12_weigh 73 = .ok (.aload_n 0, 1) := by decide +kernel
theorem dX12_weigh_74 : decode cX12_weigh 74 = .ok (.getfield 161, 3) := by decide +kernel
theorem dX12_weigh_77 : decode cX12_weigh 77 = .ok (.aload_n 0, 1) := by decide +kernel
theorem dX12_weigh_78 : decode cX12_weigh 78 = .ok (.getfield 510, 3) := by decide +kernel
theorem dX12_weigh_81 : decode cX12_weigh 81 = .ok (.aload_n 0, 1) := by decide +kernel
theorem dX12_weigh_82 : decode cX12_weigh 82 = .ok (.getfield 273, 3) := by decide +kernel
theorem dX12_weigh_85 : decode cX12_weigh 85 = .ok (.iastore, 1) := by decide +kernel
theorem dX12_weigh_86 : decode cX12_weigh 86 = .ok (.aload_n 0, 1) := by decide +kernel
theorem dX12_weigh_87 : decode cX12_weigh 87 = .ok (.getfield 164, 3) := by decide +kernel
theorem dX12_weigh_90 : decode cX12_weigh 90 = .ok (.aload_n 0, 1) := by decide +kernel
theorem dX12_weigh_91 : decode cX12_weigh 91 = .ok (.getfield 510, 3) := by decide +kernel
theorem dX12_weigh_94 : decode cX12_weigh 94 = .ok (.ldc_w 280, 3) := by decide +kernel
theorem dX12_weigh_97 : decode cX12_weigh 97 = .ok (.iastore, 1) := by decide +kernel
theorem dX12_weigh_98 : decode cX12_weigh 98 = .ok (.aload_n 0, 1) := by decide +kernel
theorem dX12_weigh_99 : decode cX12_weigh 99 = .ok (.dup, 1) := by decide +kernel
theorem dX12_weigh_100 : decode cX12_weigh 100 = .ok (.getfield 510, 3) := by decide +kernel
theorem dX12_weigh_103 : decode cX12_weigh 103 = .ok (.iconst 1, 1) := by decide +kernel
theorem dX12_weigh_104 : decode cX12_weigh 104 = .ok (.iadd, 1) := by decide +kernel
theorem dX12_weigh_105 : decode cX12_weigh 105 = .ok (.putfield 510, 3) := by decide +kernel
theorem dX12_weigh_108 : decode cX12_weigh 108 = .ok (.aload_n 0, 1) := by decide +kernel
theorem dX12_weigh_109 : decode cX12_weigh 109 = .ok (.getfield 510, 3) := by decide +kernel
theorem dX12_weigh_112 : decode cX12_weigh 112 = .ok (.iconst 1, 1) := by decide +kernel
theorem dX12_weigh_113 : decode cX12_weigh 113 = .ok (.isub, 1) := by decide +kernel
theorem dX12_weigh_114 : decode cX12_weigh 114 = .ok (.ireturn, 1) := by decide +kernel
theorem dX12_takeBack_0 : decode cX12_takeBack 0 = .ok (.iload_n 1, 1) := by decide +kernel
theorem dX12_takeBack_1 : decode cX12_takeBack 1 = .ok (.iconst 0, 1) := by decide +kernel
theorem dX12_takeBack_2 : decode cX12_takeBack 2 = .ok (.aload_n 0, 1) := by decide +kernel
theorem dX12_takeBack_3 : decode cX12_takeBack 3 = .ok (.getfield 510, 3) := by decide +kernel
theorem dX12_takeBack_6 : decode cX12_takeBack 6 = .ok (.iconst 1, 1) := by decide +kernel
theorem dX12_takeBack_7 : decode cX12_takeBack 7 = .ok (.isub, 1) := by decide +kernel
theorem dX12_takeBack_8 : decode cX12_takeBack 8 = .ok (.invokestatic 269, 3) := by decide +kernel
theorem dX12_takeBack_11 : decode cX12_takeBack 11 = .ok (.ifCond .eq 15, 3) := by decide +kernel
theorem dX12_takeBack_14 : decode cX12_takeBack 14 = .ok (.aload_n 0, 1) := by decide +kernel
theorem dX12_takeBack_15 : decode cX12_takeBack 15 = .ok (.getfield 164, 3) := by decide +kernel
theorem dX12_takeBack_18 : decode cX12_takeBack 18 = .ok (.iload_n 1, 1) := by decide +kernel
theorem dX12_takeBack_19 : decode cX12_takeBack 19 = .ok (.iaload, 1) := by decide +kernel
theorem dX12_takeBack_20 : decode cX12_takeBack 20 = .ok (.ldc_w 280, 3) := by decide +kernel
theorem dX12_takeBack_23 : decode cX12_takeBack 23 = .ok (.if_icmp .eq 5, 3) := by decide +kernel
theorem dX12_takeBack_26 : decode cX12_takeBack 26 = .ok (.iconst 0, 1) := by decide +kernel
theorem dX12_takeBack_27 : decode cX12_takeBack 27 = .ok (.ireturn, 1) := by decide +kernel
theorem dX12_takeBack_28 : decode cX12_takeBack 28 = .ok (.aload_n 0, 1) := by decide +kernel
theorem dX12_takeBack_29 : decode cX12_takeBack 29 = .ok (.getfield 164, 3) := by decide +kernel
theorem dX12_takeBack_32 : decode cX12_takeBack 32 = .ok (.iload_n 1, 1) := by decide +kernel
theorem dX12_takeBack_33 : decode cX12_takeBack 33 = .ok (.aload_n 0, 1) := by decide +kernel
theorem dX12_takeBack_34 : decode cX12_takeBack 34 = .ok (.getfield 273, 3) := by decide +kernel
theorem dX12_takeBack_37 : decode cX12_takeBack 37 = .ok (.iastore, 1) := by decide +kernel
theorem dX12_takeBack_38 : decode cX12_takeBack 38 = .ok (.iconst 1, 1) := by decide +kernel
theorem dX12_takeBack_39 : decode cX12_takeBack 39 = .ok (.ireturn, 1) := by decide +kernel
theorem dX12_holds_0 : decode cX12_holds 0 = .ok (.aload_n 0, 1) := by decide +kernel
theorem dX12_holds_1 : decode cX12_holds 1 = .ok (.getfield 152, 3) := by decide +kernel
theorem dX12_holds_4 : decode cX12_holds 4 = .ok (.iload_n 1, 1) := by decide +kernel
theorem dX12_holds_5 : decode cX12_holds 5 = .ok (.iaload, 1) := by decide +kernel
theorem dX12_holds_6 : decode cX12_holds 6 = .ok (.iload_n 2, 1) := by decide +kernel
theorem dX12_holds_7 : decode cX12_holds 7 = .ok (.if_icmp .ne 27, 3) := by decide +kernel
theorem dX12_holds_10 : decode cX12_holds 10 = .ok (.aload_n 0, 1) := by decide +kernel
theorem dX12_holds_11 : decode cX12_holds 11 = .ok (.getfield 161, 3) := by decide +kernel
theorem dX12_holds_14 : decode cX12_holds 14 = .ok (.iload_n 1, 1) := by decide +kernel
theorem dX12_holds_15 : decode cX12_holds 15 = .ok (.iaload, 1) := by decide +kernel
theorem dX12_holds_16 : decode cX12_holds 16 = .ok (.iload_n 3, 1) := by decide +kernel
theorem dX12_holds_17 : decode cX12_holds 17 = .ok (.if_icmp .gt 17, 3) := by decide +kernel
theorem dX12_holds_20 : decode cX12_holds 20 = .ok (.aload_n 0, 1) := by decide +kernel
theorem dX12_holds_21 : decode cX12_holds 21 = .ok (.getfield 164, 3) := by decide +kernel
theorem dX12_holds_24 : decode cX12_holds 24 = .ok (.iload_n 1, 1) := by decide +kernel
theorem dX12_holds_25 : decode cX12_holds 25 = .ok (.iaload, 1) := by decide +kernel
theorem dX12_holds_26 : decode cX12_holds 26 = .ok (.iload_n 3, 1) := by decide +kernel
theorem dX12_holds_27 : decode cX12_holds 27 = .ok (.if_icmp .le 7, 3) := by decide +kernel
theorem dX12_holds_30 : decode cX12_holds 30 = .ok (.iconst 1, 1) := by decide +kernel
theorem dX12_holds_31 : decode cX12_holds 31 = .ok (.goto 4, 3) := by decide +kernel
theorem dX12_holds_34 : decode cX12_holds 34 = .ok (.iconst 0, 1) := by decide +kernel
theorem dX12_holds_35 : decode cX12_holds 35 = .ok (.ireturn, 1) := by decide +kernel
theorem dX12_bars_0 : decode cX12_bars 0 = .ok (.aload_n 0, 1) := by decide +kernel
theorem dX12_bars_1 : decode cX12_bars 1 = .ok (.getfield 158, 3) := by decide +kernel
theorem dX12_bars_4 : decode cX12_bars 4 = .ok (.iload_n 1, 1) := by decide +kernel
theorem dX12_bars_5 : decode cX12_bars 5 = .ok (.iaload, 1) := by decide +kernel
theorem dX12_bars_6 : decode cX12_bars 6 = .ok (.iconst 1, 1) := by decide +kernel
theorem dX12_bars_7 : decode cX12_bars 7 = .ok (.isub, 1) := by decide +kernel
theorem dX12_bars_8 : decode cX12_bars 8 = .ok (.i2l, 1) := by decide +kernel
theorem dX12_bars_9 : decode cX12_bars 9 = .ok (.aload_n 0, 1) := by decide +kernel
theorem dX12_bars_10 : decode cX12_bars 10 = .ok (.getfield 155, 3) := by decide +kernel
theorem dX12_bars_13 : decode cX12_bars 13 = .ok (.iload_n 2, 1) := by decide +kernel
theorem dX12_bars_14 : decode cX12_bars 14 = .ok (.iaload, 1) := by decide +kernel
theorem dX12_bars_15 : decode cX12_bars 15 = .ok (.iconst 1, 1) := by decide +kernel
theorem dX12_bars_16 : decode cX12_bars 16 = .ok (.isub, 1) := by decide +kernel
theorem dX12_bars_17 : decode cX12_bars 17 = .ok (.i2l, 1) := by decide +kernel
theorem dX12_bars_18 : decode cX12_bars 18 = .ok (.lmul, 1) := by decide +kernel
theorem dX12_bars_19 : decode cX12_bars 19 = .ok (.aload_n 0, 1) := by decide +kernel
theorem dX12_bars_20 : decode cX12_bars 20 = .ok (.getfield 158, 3) := by decide +kernel
theorem dX12_bars_23 : decode cX12_bars 23 = .ok (.iload_n 2, 1) := by decide +kernel
theorem dX12_bars_24 : decode cX12_bars 24 = .ok (.iaload, 1) := by decide +kernel
theorem dX12_bars_25 : decode cX12_bars 25 = .ok (.iconst 1, 1) := by decide +kernel
theorem dX12_bars_26 : decode cX12_bars 26 = .ok (.iadd, 1) := by decide +kernel
theorem dX12_bars_27 : decode cX12_bars 27 = .ok (.i2l, 1) := by decide +kernel
theorem dX12_bars_28 : decode cX12_bars 28 = .ok (.aload_n 0, 1) := by decide +kernel
