theorem dX11_laws_70 : decode cX11_laws 70 = .ok (.ireturn, 1) := by decide +kernel
theorem dX11_force_0 : decode cX11_force 0 = .ok (.iload_n 1, 1) := by decide +kernel
theorem dX11_force_1 : decode cX11_force 1 = .ok (.iconst 0, 1) := by decide +kernel
theorem dX11_force_2 : decode cX11_force 2 = .ok (.iconst 2, 1) := by decide +kernel
theorem dX11_force_3 : decode cX11_force 3 = .ok (.invokestatic 93, 3) := by decide +kernel
theorem dX11_force_6 : decode cX11_force 6 = .ok (.ifCond .eq 10, 3) := by decide +kernel
theorem dX11_force_9 : decode cX11_force 9 = .ok (.iload_n 2, 1) := by decide +kernel
theorem dX11_force_10 : decode cX11_force 10 = .ok (.invokestatic 219, 3) := by decide +kernel
theorem dX11_force_13 : decode cX11_force 13 = .ok (.ifCond .ne 5, 3) := by decide +kernel
theorem dX11_force_16 : decode cX11_force 16 = .ok (.iconst (-1), 1) := by decide +kernel
theorem dX11_force_17 : decode cX11_force 17 = .ok (.ireturn, 1) := by decide +kernel
theorem dX11_force_18 : decode cX11_force 18 = .ok (.aload_n 0, 1) := by decide +kernel
theorem dX11_force_19 : decode cX11_force 19 = .ok (.getfield 36, 3) := by decide +kernel
theorem dX11_force_22 : decode cX11_force 22 = .ok (.iload_n 1, 1) := by decide +kernel
theorem dX11_force_23 : decode cX11_force 23 = .ok (.iload_n 2, 1) := by decide +kernel
theorem dX11_force_24 : decode cX11_force 24 = .ok (.invokevirtual 222, 3) := by decide +kernel
theorem dX11_force_27 : decode cX11_force 27 = .ok (.ireturn, 1) := by decide +kernel
theorem dX11_verdict_0 : decode cX11_verdict 0 = .ok (.aload_n 0, 1) := by decide +kernel
theorem dX11_verdict_1 : decode cX11_verdict 1 = .ok (.iload_n 1, 1) := by decide +kernel
theorem dX11_verdict_2 : decode cX11_verdict 2 = .ok (.iload_n 2, 1) := by decide +kernel
theorem dX11_verdict_3 : decode cX11_verdict 3 = .ok (.iload_n 3, 1) := by decide +kernel
theorem dX11_verdict_4 : decode cX11_verdict 4 = .ok (.iload 4, 2) := by decide +kernel
theorem dX11_verdict_6 : decode cX11_verdict 6 = .ok (.iload 5, 2) := by decide +kernel
theorem dX11_verdict_8 : decode cX11_verdict 8 = .ok (.iload 6, 2) := by decide +kernel
theorem dX11_verdict_10 : decode cX11_verdict 10 = .ok (.iload 7, 2) := by decide +kernel
theorem dX11_verdict_12 : decode cX11_verdict 12 = .ok (.invokevirtual 226, 3) := by decide +kernel
theorem dX11_verdict_15 : decode cX11_verdict 15 = .ok (.ifCond .eq 5, 3) := by decide +kernel
theorem dX11_verdict_18 : decode cX11_verdict 18 = .ok (.iconst (-1), 1) := by decide +kernel
theorem dX11_verdict_19 : decode cX11_verdict 19 = .ok (.ireturn, 1) := by decide +kernel
theorem dX11_verdict_20 : decode cX11_verdict 20 = .ok (.aload_n 0, 1) := by decide +kernel
theorem dX11_verdict_21 : decode cX11_verdict 21 = .ok (.iload_n 1, 1) := by decide +kernel
theorem dX11_verdict_22 : decode cX11_verdict 22 = .ok (.iload_n 2, 1) := by decide +kernel
theorem dX11_verdict_23 : decode cX11_verdict 23 = .ok (.iload_n 3, 1) := by decide +kernel
theorem dX11_verdict_24 : decode cX11_verdict 24 = .ok (.iload 4, 2) := by decide +kernel
theorem dX11_verdict_26 : decode cX11_verdict 26 = .ok (.iload 5, 2) := by decide +kernel
theorem dX11_verdict_28 : decode cX11_verdict 28 = .ok (.iload 6, 2) := by decide +kernel
theorem dX11_verdict_30 : decode cX11_verdict 30 = .ok (.iload 7, 2) := by decide +kernel
theorem dX11_verdict_32 : decode cX11_verdict 32 = .ok (.invokevirtual 230, 3) := by decide +kernel
theorem dX11_verdict_35 : decode cX11_verdict 35 = .ok (.ireturn, 1) := by decide +kernel
theorem dX11_told_0 : decode cX11_told 0 = .ok (.iload_n 1, 1) := by decide +kernel
theorem dX11_told_1 : decode cX11_told 1 = .ok (.lookupswitch 43 #[(0, 27), (1, 35)], 27) := by decide +kernel
theorem dX11_told_28 : decode cX11_told 28 = .ok (.aload_n 0, 1) := by decide +kernel
theorem dX11_told_29 : decode cX11_told 29 = .ok (.getfield 36, 3) := by decide +kernel
theorem dX11_told_32 : decode cX11_told 32 = .ok (.getfield 233, 3) := by decide +kernel
theorem dX11_told_35 : decode cX11_told 35 = .ok (.ireturn, 1) := by decide +kernel
theorem dX11_told_36 : decode cX11_told 36 = .ok (.aload_n 0, 1) := by decide +kernel
theorem dX11_told_37 : decode cX11_told 37 = .ok (.getfield 36, 3) := by decide +kernel
theorem dX11_told_40 : decode cX11_told 40 = .ok (.getfield 236, 3) := by decide +kernel
theorem dX11_told_43 : decode cX11_told 43 = .ok (.ireturn, 1) := by decide +kernel
theorem dX11_told_44 : decode cX11_told 44 = .ok (.iconst (-1), 1) := by decide +kernel
theorem dX11_told_45 : decode cX11_told 45 = .ok (.ireturn, 1) := by decide +kernel
theorem dX11_shut_0 : decode cX11_shut 0 = .ok (.iload_n 1, 1) := by decide +kernel
theorem dX11_shut_1 : decode cX11_shut 1 = .ok (.invokestatic 239, 3) := by decide +kernel
theorem dX11_shut_4 : decode cX11_shut 4 = .ok (.ifCond .eq 22, 3) := by decide +kernel
theorem dX11_shut_7 : decode cX11_shut 7 = .ok (.iload_n 2, 1) := by decide +kernel
theorem dX11_shut_8 : decode cX11_shut 8 = .ok (.invokestatic 219, 3) := by decide +kernel
theorem dX11_shut_11 : decode cX11_shut 11 = .ok (.ifCond .eq 15, 3) := by decide +kernel
theorem dX11_shut_14 : decode cX11_shut 14 = .ok (.iload_n 3, 1) := by decide +kernel
theorem dX11_shut_15 : decode cX11_shut 15 = .ok (.invokestatic 219, 3) := by decide +kernel
theorem dX11_shut_18 : decode cX11_shut 18 = .ok (.ifCond .eq 8, 3) := by decide +kernel
theorem dX11_shut_21 : decode cX11_shut 21 = .ok (.iload_n 2, 1) := by decide +kernel
theorem dX11_shut_22 : decode cX11_shut 22 = .ok (.iload_n 3, 1) := by decide +kernel
theorem dX11_shut_23 : decode cX11_shut 23 = .ok (.if_icmp .le 5, 3) := by decide +kernel
theorem dX11_shut_26 : decode cX11_shut 26 = .ok (.iconst (-1), 1) := by decide +kernel
theorem dX11_shut_27 : decode cX11_shut 27 = .ok (.ireturn, 1) := by decide +kernel
theorem dX11_shut_28 : decode cX11_shut 28 = .ok (.aload_n 0, 1) := by decide +kernel
theorem dX11_shut_29 : decode cX11_shut 29 = .ok (.getfield 50, 3) := by decide +kernel
theorem dX11_shut_32 : decode cX11_shut 32 = .ok (.iload_n 1, 1) := by decide +kernel
theorem dX11_shut_33 : decode cX11_shut 33 = .ok (.iload_n 2, 1) := by decide +kernel
theorem dX11_shut_34 : decode cX11_shut 34 = .ok (.iload_n 3, 1) := by decide +kernel
theorem dX11_shut_35 : decode cX11_shut 35 = .ok (.invokevirtual 242, 3) := by decide +kernel
theorem dX11_shut_38 : decode cX11_shut 38 = .ok (.ireturn, 1) := by decide +kernel
theorem dX11_readShut_0 : decode cX11_readShut 0 = .ok (.aload_n 0, 1) := by decide +kernel
theorem dX11_readShut_1 : decode cX11_readShut 1 = .ok (.getfield 50, 3) := by decide +kernel
theorem dX11_readShut_4 : decode cX11_readShut 4 = .ok (.iload_n 1, 1) := by decide +kernel
theorem dX11_readShut_5 : decode cX11_readShut 5 = .ok (.aload_n 0, 1) := by decide +kernel
theorem dX11_readShut_6 : decode cX11_readShut 6 = .ok (.getfield 75, 3) := by decide +kernel
theorem dX11_readShut_9 : decode cX11_readShut 9 = .ok (.invokevirtual 246, 3) := by decide +kernel
theorem dX11_readShut_12 : decode cX11_readShut 12 = .ok (.ireturn, 1) := by decide +kernel
theorem dX11_isShut_0 : decode cX11_isShut 0 = .ok (.iload_n 1, 1) := by decide +kernel
theorem dX11_isShut_1 : decode cX11_isShut 1 = .ok (.invokestatic 239, 3) := by decide +kernel
theorem dX11_isShut_4 : decode cX11_isShut 4 = .ok (.ifCond .eq 17, 3) := by decide +kernel
theorem dX11_isShut_7 : decode cX11_isShut 7 = .ok (.iload_n 2, 1) := by decide +kernel
theorem dX11_isShut_8 : decode cX11_isShut 8 = .ok (.invokestatic 219, 3) := by decide +kernel
theorem dX11_isShut_11 : decode cX11_isShut 11 = .ok (.ifCond .eq 10, 3) := by decide +kernel
theorem dX11_isShut_14 : decode cX11_isShut 14 = .ok (.iload_n 3, 1) := by decide +kernel
theorem dX11_isShut_15 : decode cX11_isShut 15 = .ok (.invokestatic 219, 3) := by decide +kernel
theorem dX11_isShut_18 : decode cX11_isShut 18 = .ok (.ifCond .ne 5, 3) := by decide +kernel
theorem dX11_isShut_21 : decode cX11_isShut 21 = .ok (.iconst (-1), 1) := by decide +kernel
theorem dX11_isShut_22 : decode cX11_isShut 22 = .ok (.ireturn, 1) := by decide +kernel
theorem dX11_isShut_23 : decode cX11_isShut 23 = .ok (.aload_n 0, 1) := by decide +kernel
theorem dX11_isShut_24 : decode cX11_isShut 24 = .ok (.getfield 50, 3) := by decide +kernel
theorem dX11_isShut_27 : decode cX11_isShut 27 = .ok (.iload_n 1, 1) := by decide +kernel
theorem dX11_isShut_28 : decode cX11_isShut 28 = .ok (.iload_n 2, 1) := by decide +kernel
theorem dX11_isShut_29 : decode cX11_isShut 29 = .ok (.iload_n 3, 1) := by decide +kernel
theorem dX11_isShut_30 : decode cX11_isShut 30 = .ok (.invokevirtual 250, 3) := by decide +kernel
theorem dX11_isShut_33 : decode cX11_isShut 33 = .ok (.ifCond .eq 7, 3) := by decide +kernel
theorem dX11_isShut_36 : decode cX11_isShut 36 = .ok (.iconst 1, 1) := by decide +kernel
theorem dX11_isShut_37 : decode cX11_isShut 37 = .ok (.goto 4, 3) := by decide +kernel
theorem dX11_isShut_40 : decode cX11_isShut 40 = .ok (.iconst 0, 1) := by decide +kernel
theorem dX11_isShut_41 : decode cX11_isShut 41 = .ok (.ireturn, 1) := by decide +kernel
theorem dX11_deal_0 : decode cX11_deal 0 = .ok (.aload_n 0, 1) := by decide +kernel
theorem dX11_deal_1 : decode cX11_deal 1 = .ok (.iload_n 1, 1) := by decide +kernel
theorem dX11_deal_2 : decode cX11_deal 2 = .ok (.iload_n 2, 1) := by decide +kernel
theorem dX11_deal_3 : decode cX11_deal 3 = .ok (.iload_n 3, 1) := by decide +kernel
theorem dX11_deal_4 : decode cX11_deal 4 = .ok (.iload 4, 2) := by decide +kernel
theorem dX11_deal_6 : decode cX11_deal 6 = .ok (.iload 5, 2) := by decide +kernel
theorem dX11_deal_8 : decode cX11_deal 8 = .ok (.iload 6, 2) := by decide +kernel
theorem dX11_deal_10 : decode cX11_deal 10 = .ok (.iload 7, 2) := by decide +kernel
theorem dX11_deal_12 : decode cX11_deal 12 = .ok (.invokevirtual 226, 3) := by decide +kernel
theorem dX11_deal_15 : decode cX11_deal 15 = .ok (.istore 8, 2) := by decide +kernel
theorem dX11_deal_17 : decode cX11_deal 17 = .ok (.iload 8, 2) := by decide +kernel
theorem dX11_deal_19 : decode cX11_deal 19 = .ok (.ifCond .eq 6, 3) := by decide +kernel
theorem dX11_deal_22 : decode cX11_deal 22 = .ok (.iload 8, 2) := by decide +kernel
theorem dX11_deal_24 : decode cX11_deal 24 = .ok (.ireturn, 1) := by decide +kernel
theorem dX11_deal_25 : decode cX11_deal 25 = .ok (.aload_n 0, 1) := by decide +kernel
theorem dX11_deal_26 : decode cX11_deal 26 = .ok (.getfield 16, 3) := by decide +kernel
theorem dX11_deal_29 : decode cX11_deal 29 = .ok (.invokevirtual 89, 3) := by decide +kernel
theorem dX11_deal_32 : decode cX11_deal 32 = .ok (.sipush 200, 3) := by decide +kernel
theorem dX11_deal_35 : decode cX11_deal 35 = .ok (.if_icmp .ge 16, 3) := by decide +kernel
theorem dX11_deal_38 : decode cX11_deal 38 = .ok (.aload_n 0, 1) := by decide +kernel
theorem dX11_deal_39 : decode cX11_deal 39 = .ok (.getfield 19, 3) := by decide +kernel
theorem dX11_deal_42 : decode cX11_deal 42 = .ok (.invokevirtual 89, 3) := by decide +kernel
theorem dX11_deal_45 : decode cX11_deal 45 = .ok (.sipush 300, 3) := by decide +kernel
theorem dX11_deal_48 : decode cX11_deal 48 = .ok (.if_icmp .lt 5, 3) := by decide +kernel
theorem dX11_deal_51 : decode cX11_deal 51 = .ok (.iconst 4, 1) := by decide +kernel
theorem dX11_deal_52 : decode cX11_deal 52 = .ok (.ireturn, 1) := by decide +kernel
theorem dX11_deal_53 : decode cX11_deal 53 = .ok (.aload_n 0, 1) := by decide +kernel
theorem dX11_deal_54 : decode cX11_deal 54 = .ok (.iload_n 1, 1) := by decide +kernel
theorem dX11_deal_55 : decode cX11_deal 55 = .ok (.iload_n 2, 1) := by decide +kernel
theorem dX11_deal_56 : decode cX11_deal 56 = .ok (.iload_n 3, 1) := by decide +kernel
theorem dX11_deal_57 : decode cX11_deal 57 = .ok (.iload 4, 2) := by decide +kernel
theorem dX11_deal_59 : decode cX11_deal 59 = .ok (.iload 5, 2) := by decide +kernel
theorem dX11_deal_61 : decode cX11_deal 61 = .ok (.iload 6, 2) := by decide +kernel
theorem dX11_deal_63 : decode cX11_deal 63 = .ok (.iload 7, 2) := by decide +kernel
theorem dX11_deal_65 : decode cX11_deal 65 = .ok (.invokevirtual 230, 3) := by decide +kernel
theorem dX11_deal_68 : decode cX11_deal 68 = .ok (.istore 9, 2) := by decide +kernel
theorem dX11_deal_70 : decode cX11_deal 70 = .ok (.iload 9, 2) := by decide +kernel
theorem dX11_deal_72 : decode cX11_deal 72 = .ok (.iconst 1, 1) := by decide +kernel
theorem dX11_deal_73 : decode cX11_deal 73 = .ok (.if_icmp .ne 5, 3) := by decide +kernel
theorem dX11_deal_76 : decode cX11_deal 76 = .ok (.iconst 5, 1) := by decide +kernel
theorem dX11_deal_77 : decode cX11_deal 77 = .ok (.ireturn, 1) := by decide +kernel
theorem dX11_deal_78 : decode cX11_deal 78 = .ok (.iload 6, 2) := by decide +kernel
theorem dX11_deal_80 : decode cX11_deal 80 = .ok (.ifCond .ne 25, 3) := by decide +kernel
theorem dX11_deal_83 : decode cX11_deal 83 = .ok (.aload_n 0, 1) := by decide +kernel
theorem dX11_deal_84 : decode cX11_deal 84 = .ok (.getfield 10, 3) := by decide +kernel
theorem dX11_deal_87 : decode cX11_deal 87 = .ok (.iload_n 2, 1) := by decide +kernel
theorem dX11_deal_88 : decode cX11_deal 88 = .ok (.invokevirtual 151, 3) := by decide +kernel
theorem dX11_deal_91 : decode cX11_deal 91 = .ok (.checkcast 98, 3) := by decide +kernel
theorem dX11_deal_94 : decode cX11_deal 94 = .ok (.getfield 128, 3) := by decide +kernel
theorem dX11_deal_97 : decode cX11_deal 97 = .ok (.iload 5, 2) := by decide +kernel
theorem dX11_deal_99 : decode cX11_deal 99 = .ok (.if_icmp .ge 6, 3) := by decide +kernel
theorem dX11_deal_102 : decode cX11_deal 102 = .ok (.bipush 6, 2) := by decide +kernel
theorem dX11_deal_104 : decode cX11_deal 104 = .ok (.ireturn, 1) := by decide +kernel
theorem dX11_deal_105 : decode cX11_deal 105 = .ok (.aload_n 0, 1) := by decide +kernel
theorem dX11_deal_106 : decode cX11_deal 106 = .ok (.iload_n 3, 1) := by decide +kernel
theorem dX11_deal_107 : decode cX11_deal 107 = .ok (.iload 4, 2) := by decide +kernel
theorem dX11_deal_109 : decode cX11_deal 109 = .ok (.iload_n 2, 1) := by decide +kernel
theorem dX11_deal_110 : decode cX11_deal 110 = .ok (.invokevirtual 253, 3) := by decide +kernel
theorem dX11_deal_113 : decode cX11_deal 113 = .ok (.new 256, 3) := by decide +kernel
theorem dX11_deal_116 : decode cX11_deal 116 = .ok (.dup, 1) := by decide +kernel
theorem dX11_deal_117 : decode cX11_deal 117 = .ok (.iload_n 1, 1) := by decide +kernel
theorem dX11_deal_118 : decode cX11_deal 118 = .ok (.iload_n 2, 1) := by decide +kernel
theorem dX11_deal_119 : decode cX11_deal 119 = .ok (.aload_n 0, 1) := by decide +kernel
theorem dX11_deal_120 : decode cX11_deal 120 = .ok (.getfield 16, 3) := by decide +kernel
theorem dX11_deal_123 : decode cX11_deal 123 = .ok (.invokevirtual 89, 3) := by decide +kernel
theorem dX11_deal_126 : decode cX11_deal 126 = .ok (.iconst 1, 1) := by decide +kernel
theorem dX11_deal_127 : decode cX11_deal 127 = .ok (.isub, 1) := by decide +kernel
theorem dX11_deal_128 : decode cX11_deal 128 = .ok (.iload 5, 2) := by decide +kernel
theorem dX11_deal_130 : decode cX11_deal 130 = .ok (.iload 6, 2) := by decide +kernel
theorem dX11_deal_132 : decode cX11_deal 132 = .ok (.ifCond .ne 7, 3) := by decide +kernel
theorem dX11_deal_135 : decode cX11_deal 135 = .ok (.iconst (-1), 1) := by decide +kernel
theorem dX11_deal_136 : decode cX11_deal 136 = .ok (.goto 10, 3) := by decide +kernel
theorem dX11_deal_139 : decode cX11_deal 139 = .ok (.aload_n 0, 1) := by decide +kernel
theorem dX11_deal_140 : decode cX11_deal 140 = .ok (.getfield 75, 3) := by decide +kernel
theorem dX11_deal_143 : decode cX11_deal 143 = .ok (.iload 6, 2) := by decide +kernel
theorem dX11_deal_145 : decode cX11_deal 145 = .ok (.iadd, 1) := by decide +kernel
theorem dX11_deal_146 : decode cX11_deal 146 = .ok (.aload_n 0, 1) := by decide +kernel
theorem dX11_deal_147 : decode cX11_deal 147 = .ok (.getfield 75, 3) := by decide +kernel
theorem dX11_deal_150 : decode cX11_deal 150 = .ok (.invokespecial 258, 3) := by decide +kernel
theorem dX11_deal_153 : decode cX11_deal 153 = .ok (.astore 10, 2) := by decide +kernel
theorem dX11_deal_155 : decode cX11_deal 155 = .ok (.aload_n 0, 1) := by decide +kernel
theorem dX11_deal_156 : decode cX11_deal 156 = .ok (.getfield 19, 3) := by decide +kernel
theorem dX11_deal_159 : decode cX11_deal 159 = .ok (.aload 10, 2) := by decide +kernel
theorem dX11_deal_161 : decode cX11_deal 161 = .ok (.invokevirtual 103, 3) := by decide +kernel
theorem dX11_deal_164 : decode cX11_deal 164 = .ok (.pop, 1) := by decide +kernel
theorem dX11_deal_165 : decode cX11_deal 165 = .ok (.aload_n 0, 1) := by decide +kernel
theorem dX11_deal_166 : decode cX11_deal 166 = .ok (.aload 10, 2) := by decide +kernel
theorem dX11_deal_168 : decode cX11_deal 168 = .ok (.iload 6, 2) := by decide +kernel
theorem dX11_deal_170 : decode cX11_deal 170 = .ok (.ifCond .ne 8, 3) := by decide +kernel
theorem dX11_deal_173 : decode cX11_deal 173 = .ok (.iload 5, 2) := by decide +kernel
theorem dX11_deal_175 : decode cX11_deal 175 = .ok (.goto 4, 3) := by decide +kernel
theorem dX11_deal_178 : decode cX11_deal 178 = .ok (.iconst 0, 1) := by decide +kernel
theorem dX11_deal_179 : decode cX11_deal 179 = .ok (.invokevirtual 261, 3) := by decide +kernel
theorem dX11_deal_182 : decode cX11_deal 182 = .ok (.pop, 1) := by decide +kernel
theorem dX11_deal_183 : decode cX11_deal 183 = .ok (.iload 9, 2) := by decide +kernel
theorem dX11_deal_185 : decode cX11_deal 185 = .ok (.bipush 10, 2) := by decide +kernel
theorem dX11_deal_187 : decode cX11_deal 187 = .ok (.if_icmp .lt 28, 3) := by decide +kernel
theorem dX11_deal_190 : decode cX11_deal 190 = .ok (.aload 10, 2) := by decide +kernel
theorem dX11_deal_192 : decode cX11_deal 192 = .ok (.aload_n 0, 1) := by decide +kernel
theorem dX11_deal_193 : decode cX11_deal 193 = .ok (.aload_n 0, 1) := by decide +kernel
theorem dX11_deal_194 : decode cX11_deal 194 = .ok (.getfield 10, 3) := by decide +kernel
theorem dX11_deal_197 : decode cX11_deal 197 = .ok (.iload_n 1, 1) := by decide +kernel
theorem dX11_deal_198 : decode cX11_deal 198 = .ok (.invokevirtual 151, 3) := by decide +kernel
theorem dX11_deal_201 : decode cX11_deal 201 = .ok (.checkcast 98, 3) := by decide +kernel
theorem dX11_deal_204 : decode cX11_deal 204 = .ok (.iload 9, 2) := by decide +kernel
theorem dX11_deal_206 : decode cX11_deal 206 = .ok (.bipush 10, 2) := by decide +kernel
theorem dX11_deal_208 : decode cX11_deal 208 = .ok (.isub, 1) := by decide +kernel
theorem dX11_deal_209 : decode cX11_deal 209 = .ok (.invokevirtual 265, 3) := by decide +kernel
theorem dX11_deal_212 : decode cX11_deal 212 = .ok (.putfield 269, 3) := by decide +kernel
theorem dX11_deal_215 : decode cX11_deal 215 = .ok (.bipush 100, 2) := by decide +kernel
theorem dX11_deal_217 : decode cX11_deal 217 = .ok (.aload_n 0, 1) := by decide +kernel
theorem dX11_deal_218 : decode cX11_deal 218 = .ok (.getfield 19, 3) := by decide +kernel
theorem dX11_deal_221 : decode cX11_deal 221 = .ok (.invokevirtual 89, 3) := by decide +kernel
theorem dX11_deal_224 : decode cX11_deal 224 = .ok (.iadd, 1) := by decide +kernel
theorem dX11_deal_225 : decode cX11_deal 225 = .ok (.iconst 1, 1) := by decide +kernel
theorem dX11_deal_226 : decode cX11_deal 226 = .ok (.isub, 1) := by decide +kernel
theorem dX11_deal_227 : decode cX11_deal 227 = .ok (.ireturn, 1) := by decide +kernel
theorem dX11_bargain_0 : decode cX11_bargain 0 = .ok (.aload_n 0, 1) := by decide +kernel
theorem dX11_bargain_1 : decode cX11_bargain 1 = .ok (.iload_n 1, 1) := by decide +kernel
theorem dX11_bargain_2 : decode cX11_bargain 2 = .ok (.invokevirtual 272, 3) := by decide +kernel
theorem dX11_bargain_5 : decode cX11_bargain 5 = .ok (.astore_n 3, 1) := by decide +kernel
theorem dX11_bargain_6 : decode cX11_bargain 6 = .ok (.aload_n 3, 1) := by decide +kernel
theorem dX11_bargain_7 : decode cX11_bargain 7 = .ok (.ifnonnull 5, 3) := by decide +kernel
theorem dX11_bargain_10 : decode cX11_bargain 10 = .ok (.iconst (-1), 1) := by decide +kernel
theorem dX11_bargain_11 : decode cX11_bargain 11 = .ok (.ireturn, 1) := by decide +kernel
theorem dX11_bargain_12 : decode cX11_bargain 12 = .ok (.iload_n 2, 1) := by decide +kernel
theorem dX11_bargain_13 : decode cX11_bargain 13 = .ok (.tableswitch 105 0 9 #[55, 60, 65, 70, 75, 80, 85, 90, 95, 100], 55) := by decide +kernel
theorem dX11_bargain_68 : decode cX11_bargain 68 = .ok (.aload_n 3, 1) := by decide +kernel
theorem dX11_bargain_69 : decode cX11_bargain 69 = .ok (.getfield 276, 3) := by decide +kernel
theorem dX11_bargain_72 : decode cX11_bargain 72 = .ok (.ireturn, 1) := by decide +kernel
theorem dX11_bargain_73 : decode cX11_bargain 73 = .ok (.aload_n 3, 1) := by decide +kernel
theorem dX11_bargain_74 : decode cX11_bargain 74 = .ok (.getfield 279, 3) := by decide +kernel
theorem dX11_bargain_77 : decode cX11_bargain 77 = .ok (.ireturn, 1) := by decide +kernel
theorem dX11_bargain_78 : decode cX11_bargain 78 = .ok (.aload_n 3, 1) := by decide +kernel
theorem dX11_bargain_79 : decode cX11_bargain 79 = .ok (.getfield 282, 3) := by decide +kernel
theorem dX11_bargain_82 : decode cX11_bargain 82 = .ok (.ireturn, 1) := by decide +kernel
theorem dX11_bargain_83 : decode cX11_bargain 83 = .ok (.aload_n 3, 1) := by decide +kernel
theorem dX11_bargain_84 : decode cX11_bargain 84 = .ok (.getfield 285, 3) := by decide +kernel
theorem dX11_bargain_87 : decode cX11_bargain 87 = .ok (.ireturn, 1) := by decide +kernel
theorem dX11_bargain_88 : decode cX11_bargain 88 = .ok (.aload_n 3, 1) := by decide +kernel
theorem dX11_bargain_89 : decode cX11_bargain 89 = .ok (.getfield 288, 3) := by decide +kernel
theorem dX11_bargain_92 : decode cX11_bargain 92 = .ok (.ireturn, 1) := by decide +kernel
theorem dX11_bargain_93 : decode cX11_bargain 93 = .ok (.aload_n 3, 1) := by decide +kernel
theorem dX11_bargain_94 : decode cX11_bargain 94 = .ok (.getfield 291, 3) := by decide +kernel
theorem dX11_bargain_97 : decode cX11_bargain 97 = .ok (.ireturn, 1) := by decide +kernel
theorem dX11_bargain_98 : decode cX11_bargain 98 = .ok (.aload_n 3, 1) := by decide +kernel
theorem dX11_bargain_99 : decode cX11_bargain 99 = .ok (.getfield 294, 3) := by decide +kernel
theorem dX11_bargain_102 : decode cX11_bargain 102 = .ok (.ireturn, 1) := by decide +kernel
theorem dX11_bargain_103 : decode cX11_bargain 103 = .ok (.aload_n 3, 1) := by decide +kernel
theorem dX11_bargain_104 : decode cX11_bargain 104 = .ok (.getfield 269, 3) := by decide +kernel
theorem dX11_bargain_107 : decode cX11_bargain 107 = .ok (.ireturn, 1) := by decide +kernel
theorem dX11_bargain_108 : decode cX11_bargain 108 = .ok (.aload_n 3, 1) := by decide +kernel
theorem dX11_bargain_109 : decode cX11_bargain 109 = .ok (.getfield 297, 3) := by decide +kernel
theorem dX11_bargain_112 : decode cX11_bargain 112 = .ok (.ireturn, 1) := by decide +kernel
theorem dX11_bargain_113 : decode cX11_bargain 113 = .ok (.aload_n 3, 1) := by decide +kernel
theorem dX11_bargain_114 : decode cX11_bargain 114 = .ok (.getfield 300, 3) := by decide +kernel
theorem dX11_bargain_117 : decode cX11_bargain 117 = .ok (.ireturn, 1) := by decide +kernel
theorem dX11_bargain_118 : decode cX11_bargain 118 = .ok (.iconst (-1), 1) := by decide +kernel
theorem dX11_bargain_119 : decode cX11_bargain 119 = .ok (.ireturn, 1) := by decide +kernel
theorem dX11_surety_0 : decode cX11_surety 0 = .ok (.aload_n 0, 1) := by decide +kernel
theorem dX11_surety_1 : decode cX11_surety 1 = .ok (.iload_n 1, 1) := by decide +kernel
theorem dX11_surety_2 : decode cX11_surety 2 = .ok (.invokevirtual 272, 3) := by decide +kernel
theorem dX11_surety_5 : decode cX11_surety 5 = .ok (.astore_n 3, 1) := by decide +kernel
theorem dX11_surety_6 : decode cX11_surety 6 = .ok (.aload_n 3, 1) := by decide +kernel
theorem dX11_surety_7 : decode cX11_surety 7 = .ok (.ifnull 18, 3) := by decide +kernel
theorem dX11_surety_10 : decode cX11_surety 10 = .ok (.aload_n 3, 1) := by decide +kernel
theorem dX11_surety_11 : decode cX11_surety 11 = .ok (.getfield 288, 3) := by decide +kernel
theorem dX11_surety_14 : decode cX11_surety 14 = .ok (.ifCond .eq 11, 3) := by decide +kernel
theorem dX11_surety_17 : decode cX11_surety 17 = .ok (.aload_n 3, 1) := by decide +kernel
theorem dX11_surety_18 : decode cX11_surety 18 = .ok (.getfield 294, 3) := by decide +kernel
theorem dX11_surety_21 : decode cX11_surety 21 = .ok (.iconst 3, 1) := by decide +kernel
theorem dX11_surety_22 : decode cX11_surety 22 = .ok (.if_icmp .lt 5, 3) := by decide +kernel
theorem dX11_surety_25 : decode cX11_surety 25 = .ok (.iconst (-1), 1) := by decide +kernel
theorem dX11_surety_26 : decode cX11_surety 26 = .ok (.ireturn, 1) := by decide +kernel
theorem dX11_surety_27 : decode cX11_surety 27 = .ok (.aload_n 0, 1) := by decide +kernel
theorem dX11_surety_28 : decode cX11_surety 28 = .ok (.iload_n 2, 1) := by decide +kernel
theorem dX11_surety_29 : decode cX11_surety 29 = .ok (.invokevirtual 107, 3) := by decide +kernel
theorem dX11_surety_32 : decode cX11_surety 32 = .ok (.ifnull 27, 3) := by decide +kernel
theorem dX11_surety_35 : decode cX11_surety 35 = .ok (.iload_n 2, 1) := by decide +kernel
theorem dX11_surety_36 : decode cX11_surety 36 = .ok (.aload_n 3, 1) := by decide +kernel
theorem dX11_surety_37 : decode cX11_surety 37 = .ok (.getfield 276, 3) := by decide +kernel
theorem dX11_surety_40 : decode cX11_surety 40 = .ok (.if_icmp .eq 19, 3) := by decide +kernel
theorem dX11_surety_43 : decode cX11_surety 43 = .ok (.iload_n 2, 1) := by decide +kernel
theorem dX11_surety_44 : decode cX11_surety 44 = .ok (.aload_n 3, 1) := by decide +kernel
theorem dX11_surety_45 : decode cX11_surety 45 = .ok (.getfield 279, 3) := by decide +kernel
theorem dX11_surety_48 : decode cX11_surety 48 = .ok (.if_icmp .eq 11, 3) := by decide +kernel
theorem dX11_surety_51 : decode cX11_surety 51 = .ok (.aload_n 3, 1) := by decide +kernel
theorem dX11_surety_52 : decode cX11_surety 52 = .ok (.iload_n 2, 1) := by decide +kernel
theorem dX11_surety_53 : decode cX11_surety 53 = .ok (.invokevirtual 303, 3) := by decide +kernel
theorem dX11_surety_56 : decode cX11_surety 56 = .ok (.ifCond .eq 5, 3) := by decide +kernel
theorem dX11_surety_59 : decode cX11_surety 59 = .ok (.iconst (-1), 1) := by decide +kernel
theorem dX11_surety_60 : decode cX11_surety 60 = .ok (.ireturn, 1) := by decide +kernel
theorem dX11_surety_61 : decode cX11_surety 61 = .ok (.aload_n 3, 1) := by decide +kernel
theorem dX11_surety_62 : decode cX11_surety 62 = .ok (.iload_n 2, 1) := by decide +kernel
theorem dX11_surety_63 : decode cX11_surety 63 = .ok (.invokevirtual 306, 3) := by decide +kernel
theorem dX11_surety_66 : decode cX11_surety 66 = .ok (.aload_n 3, 1) := by decide +kernel
theorem dX11_surety_67 : decode cX11_surety 67 = .ok (.getfield 294, 3) := by decide +kernel
theorem dX11_surety_70 : decode cX11_surety 70 = .ok (.ireturn, 1) := by decide +kernel
theorem dX11_sureties_0 : decode cX11_sureties 0 = .ok (.aload_n 0, 1) := by decide +kernel
theorem dX11_sureties_1 : decode cX11_sureties 1 = .ok (.iload_n 1, 1) := by decide +kernel
theorem dX11_sureties_2 : decode cX11_sureties 2 = .ok (.invokevirtual 272, 3) := by decide +kernel
theorem dX11_sureties_5 : decode cX11_sureties 5 = .ok (.astore 4, 2) := by decide +kernel
theorem dX11_sureties_7 : decode cX11_sureties 7 = .ok (.aload 4, 2) := by decide +kernel
theorem dX11_sureties_9 : decode cX11_sureties 9 = .ok (.ifnull 16, 3) := by decide +kernel
theorem dX11_sureties_12 : decode cX11_sureties 12 = .ok (.iload_n 2, 1) := by decide +kernel
theorem dX11_sureties_13 : decode cX11_sureties 13 = .ok (.ifCond .lt 12, 3) := by decide +kernel
theorem dX11_sureties_16 : decode cX11_sureties 16 = .ok (.iload_n 2, 1) := by decide +kernel
theorem dX11_sureties_17 : decode cX11_sureties 17 = .ok (.aload 4, 2) := by decide +kernel
theorem dX11_sureties_19 : decode cX11_sureties 19 = .ok (.getfield 294, 3) := by decide +kernel
theorem dX11_sureties_22 : decode cX11_sureties 22 = .ok (.if_icmp .lt 5, 3) := by decide +kernel
theorem dX11_sureties_25 : decode cX11_sureties 25 = .ok (.iconst (-1), 1) := by decide +kernel
theorem dX11_sureties_26 : decode cX11_sureties 26 = .ok (.ireturn, 1) := by decide +kernel
theorem dX11_sureties_27 : decode cX11_sureties 27 = .ok (.iload_n 3, 1) := by decide +kernel
theorem dX11_sureties_28 : decode cX11_sureties 28 = .ok (.tableswitch 52 0 2 #[28, 36, 44], 28) := by decide +kernel
theorem dX11_sureties_56 : decode cX11_sureties 56 = .ok (.aload 4, 2) := by decide +kernel
theorem dX11_sureties_58 : decode cX11_sureties 58 = .ok (.getfield 309, 3) := by decide +kernel
theorem dX11_sureties_61 : decode cX11_sureties 61 = .ok (.iload_n 2, 1) := by decide +kernel
theorem dX11_sureties_62 : decode cX11_sureties 62 = .ok (.iaload, 1) := by decide +kernel
theorem dX11_sureties_63 : decode cX11_sureties 63 = .ok (.ireturn, 1) := by decide +kernel
theorem dX11_sureties_64 : decode cX11_sureties 64 = .ok (.aload 4, 2) := by decide +kernel
theorem dX11_sureties_66 : decode cX11_sureties 66 = .ok (.getfield 312, 3) := by decide +kernel
theorem dX11_sureties_69 : decode cX11_sureties 69 = .ok (.iload_n 2, 1) := by decide +kernel
theorem dX11_sureties_70 : decode cX11_sureties 70 = .ok (.iaload, 1) := by decide +kernel
theorem dX11_sureties_71 : decode cX11_sureties 71 = .ok (.ireturn, 1) := by decide +kernel
theorem dX11_sureties_72 : decode cX11_sureties 72 = .ok (.aload 4, 2) := by decide +kernel
theorem dX11_sureties_74 : decode cX11_sureties 74 = .ok (.getfield 315, 3) := by decide +kernel
theorem dX11_sureties_77 : decode cX11_sureties 77 = .ok (.iload_n 2, 1) := by decide +kernel
theorem dX11_sureties_78 : decode cX11_sureties 78 = .ok (.iaload, 1) := by decide +kernel
theorem dX11_sureties_79 : decode cX11_sureties 79 = .ok (.ireturn, 1) := by decide +kernel
theorem dX11_sureties_80 : decode cX11_sureties 80 = .ok (.iconst (-1), 1) := by decide +kernel
theorem dX11_sureties_81 : decode cX11_sureties 81 = .ok (.ireturn, 1) := by decide +kernel
theorem dX11_pay_0 : decode cX11_pay 0 = .ok (.aload_n 0, 1) := by decide +kernel
theorem dX11_pay_1 : decode cX11_pay 1 = .ok (.iload_n 1, 1) := by decide +kernel
theorem dX11_pay_2 : decode cX11_pay 2 = .ok (.invokevirtual 272, 3) := by decide +kernel
theorem dX11_pay_5 : decode cX11_pay 5 = .ok (.astore_n 3, 1) := by decide +kernel
theorem dX11_pay_6 : decode cX11_pay 6 = .ok (.aload_n 3, 1) := by decide +kernel
theorem dX11_pay_7 : decode cX11_pay 7 = .ok (.ifnull 15, 3) := by decide +kernel
theorem dX11_pay_10 : decode cX11_pay 10 = .ok (.iload_n 2, 1) := by decide +kernel
theorem dX11_pay_11 : decode cX11_pay 11 = .ok (.iconst 1, 1) := by decide +kernel
theorem dX11_pay_12 : decode cX11_pay 12 = .ok (.if_icmp .lt 10, 3) := by decide +kernel
theorem dX11_pay_15 : decode cX11_pay 15 = .ok (.aload_n 3, 1) := by decide +kernel
theorem dX11_pay_16 : decode cX11_pay 16 = .ok (.getfield 288, 3) := by decide +kernel
theorem dX11_pay_19 : decode cX11_pay 19 = .ok (.ifCond .ne 5, 3) := by decide +kernel
theorem dX11_pay_22 : decode cX11_pay 22 = .ok (.iconst (-1), 1) := by decide +kernel
theorem dX11_pay_23 : decode cX11_pay 23 = .ok (.ireturn, 1) := by decide +kernel
theorem dX11_pay_24 : decode cX11_pay 24 = .ok (.aload_n 0, 1) := by decide +kernel
theorem dX11_pay_25 : decode cX11_pay 25 = .ok (.aload_n 3, 1) := by decide +kernel
theorem dX11_pay_26 : decode cX11_pay 26 = .ok (.iload_n 2, 1) := by decide +kernel
theorem dX11_pay_27 : decode cX11_pay 27 = .ok (.invokevirtual 261, 3) := by decide +kernel
theorem dX11_pay_30 : decode cX11_pay 30 = .ok (.ireturn, 1) := by decide +kernel
theorem dX11_call_0 : decode cX11_call 0 = .ok (.aload_n 0, 1) := by decide +kernel
theorem dX11_call_1 : decode cX11_call 1 = .ok (.iload_n 1, 1) := by decide +kernel
theorem dX11_call_2 : decode cX11_call 2 = .ok (.invokevirtual 272, 3) := by decide +kernel
theorem dX11_call_5 : decode cX11_call 5 = .ok (.astore_n 2, 1) := by decide +kernel
theorem dX11_call_6 : decode cX11_call 6 = .ok (.aload_n 2, 1) := by decide +kernel
theorem dX11_call_7 : decode cX11_call 7 = .ok (.ifnull 21, 3) := by decide +kernel
theorem dX11_call_10 : decode cX11_call 10 = .ok (.aload_n 2, 1) := by decide +kernel
theorem dX11_call_11 : decode cX11_call 11 = .ok (.getfield 288, 3) := by decide +kernel
theorem dX11_call_14 : decode cX11_call 14 = .ok (.ifCond .eq 14, 3) := by decide +kernel
theorem dX11_call_17 : decode cX11_call 17 = .ok (.aload_n 2, 1) := by decide +kernel
theorem dX11_call_18 : decode cX11_call 18 = .ok (.getfield 291, 3) := by decide +kernel
theorem dX11_call_21 : decode cX11_call 21 = .ok (.aload_n 0, 1) := by decide +kernel
theorem dX11_call_22 : decode cX11_call 22 = .ok (.getfield 75, 3) := by decide +kernel
theorem dX11_call_25 : decode cX11_call 25 = .ok (.if_icmp .lt 5, 3) := by decide +kernel
theorem dX11_call_28 : decode cX11_call 28 = .ok (.iconst (-1), 1) := by decide +kernel
theorem dX11_call_29 : decode cX11_call 29 = .ok (.ireturn, 1) := by decide +kernel
theorem dX11_call_30 : decode cX11_call 30 = .ok (.aload_n 0, 1) := by decide +kernel
theorem dX11_call_31 : decode cX11_call 31 = .ok (.aload_n 2, 1) := by decide +kernel
theorem dX11_call_32 : decode cX11_call 32 = .ok (.aload_n 2, 1) := by decide +kernel
theorem dX11_call_33 : decode cX11_call 33 = .ok (.getfield 288, 3) := by decide +kernel
theorem dX11_call_36 : decode cX11_call 36 = .ok (.invokevirtual 261, 3) := by decide +kernel
theorem dX11_call_39 : decode cX11_call 39 = .ok (.istore_n 3, 1) := by decide +kernel
theorem dX11_call_40 : decode cX11_call 40 = .ok (.iconst 0, 1) := by decide +kernel
theorem dX11_call_41 : decode cX11_call 41 = .ok (.istore 4, 2) := by decide +kernel
theorem dX11_call_43 : decode cX11_call 43 = .ok (.iload 4, 2) := by decide +kernel
theorem dX11_call_45 : decode cX11_call 45 = .ok (.aload_n 2, 1) := by decide +kernel
theorem dX11_call_46 : decode cX11_call 46 = .ok (.getfield 294, 3) := by decide +kernel
theorem dX11_call_49 : decode cX11_call 49 = .ok (.if_icmp .ge 19, 3) := by decide +kernel
theorem dX11_call_52 : decode cX11_call 52 = .ok (.iload_n 3, 1) := by decide +kernel
theorem dX11_call_53 : decode cX11_call 53 = .ok (.aload_n 0, 1) := by decide +kernel
theorem dX11_call_54 : decode cX11_call 54 = .ok (.aload_n 2, 1) := by decide +kernel
theorem dX11_call_55 : decode cX11_call 55 = .ok (.iload 4, 2) := by decide +kernel
theorem dX11_call_57 : decode cX11_call 57 = .ok (.invokevirtual 318, 3) := by decide +kernel
theorem dX11_call_60 : decode cX11_call 60 = .ok (.iadd, 1) := by decide +kernel
theorem dX11_call_61 : decode cX11_call 61 = .ok (.istore_n 3, 1) := by decide +kernel
theorem dX11_call_62 : decode cX11_call 62 = .ok (.iinc 4 1, 3) := by decide +kernel
theorem dX11_call_65 : decode cX11_call 65 = .ok (.goto (-22), 3) := by decide +kernel
theorem dX11_call_68 : decode cX11_call 68 = .ok (.iload_n 3, 1) := by decide +kernel
theorem dX11_call_69 : decode cX11_call 69 = .ok (.ireturn, 1) := by decide +kernel
theorem dX11_claim_0 : decode cX11_claim 0 = .ok (.aload_n 0, 1) := by decide +kernel
theorem dX11_claim_1 : decode cX11_claim 1 = .ok (.iload_n 1, 1) := by decide +kernel
theorem dX11_claim_2 : decode cX11_claim 2 = .ok (.invokevirtual 272, 3) := by decide +kernel
theorem dX11_claim_5 : decode cX11_claim 5 = .ok (.astore 4, 2) := by decide +kernel
theorem dX11_claim_7 : decode cX11_claim 7 = .ok (.aload 4, 2) := by decide +kernel
theorem dX11_claim_9 : decode cX11_claim 9 = .ok (.ifnull 31, 3) := by decide +kernel
theorem dX11_claim_12 : decode cX11_claim 12 = .ok (.iload_n 2, 1) := by decide +kernel
theorem dX11_claim_13 : decode cX11_claim 13 = .ok (.ifCond .lt 27, 3) := by decide +kernel
theorem dX11_claim_16 : decode cX11_claim 16 = .ok (.iload_n 2, 1) := by decide +kernel
theorem dX11_claim_17 : decode cX11_claim 17 = .ok (.aload 4, 2) := by decide +kernel
theorem dX11_claim_19 : decode cX11_claim 19 = .ok (.getfield 294, 3) := by decide +kernel
theorem dX11_claim_22 : decode cX11_claim 22 = .ok (.if_icmp .ge 18, 3) := by decide +kernel
theorem dX11_claim_25 : decode cX11_claim 25 = .ok (.iload_n 3, 1) := by decide +kernel
theorem dX11_claim_26 : decode cX11_claim 26 = .ok (.iconst 1, 1) := by decide +kernel
theorem dX11_claim_27 : decode cX11_claim 27 = .ok (.if_icmp .lt 13, 3) := by decide +kernel
theorem dX11_claim_30 : decode cX11_claim 30 = .ok (.aload 4, 2) := by decide +kernel
theorem dX11_claim_32 : decode cX11_claim 32 = .ok (.getfield 312, 3) := by decide +kernel
theorem dX11_claim_35 : decode cX11_claim 35 = .ok (.iload_n 2, 1) := by decide +kernel
theorem dX11_claim_36 : decode cX11_claim 36 = .ok (.iaload, 1) := by decide +kernel
theorem dX11_claim_37 : decode cX11_claim 37 = .ok (.ifCond .ne 5, 3) := by decide +kernel
theorem dX11_claim_40 : decode cX11_claim 40 = .ok (.iconst (-1), 1) := by decide +kernel
theorem dX11_claim_41 : decode cX11_claim 41 = .ok (.ireturn, 1) := by decide +kernel
theorem dX11_claim_42 : decode cX11_claim 42 = .ok (.aload_n 0, 1) := by decide +kernel
theorem dX11_claim_43 : decode cX11_claim 43 = .ok (.aload 4, 2) := by decide +kernel
theorem dX11_claim_45 : decode cX11_claim 45 = .ok (.iload_n 2, 1) := by decide +kernel
theorem dX11_claim_46 : decode cX11_claim 46 = .ok (.iload_n 3, 1) := by decide +kernel
theorem dX11_claim_47 : decode cX11_claim 47 = .ok (.invokevirtual 321, 3) := by decide +kernel
theorem dX11_claim_50 : decode cX11_claim 50 = .ok (.ireturn, 1) := by decide +kernel
theorem dX11_chest_0 : decode cX11_chest 0 = .ok (.iload_n 1, 1) := by decide +kernel
theorem dX11_chest_1 : decode cX11_chest 1 = .ok (.iconst 0, 1) := by decide +kernel
theorem dX11_chest_2 : decode cX11_chest 2 = .ok (.bipush 9, 2) := by decide +kernel
theorem dX11_chest_4 : decode cX11_chest 4 = .ok (.invokestatic 93, 3) := by decide +kernel
theorem dX11_chest_7 : decode cX11_chest 7 = .ok (.ifCond .eq 12, 3) := by decide +kernel
theorem dX11_chest_10 : decode cX11_chest 10 = .ok (.aload_n 0, 1) := by decide +kernel
theorem dX11_chest_11 : decode cX11_chest 11 = .ok (.getfield 22, 3) := by decide +kernel
theorem dX11_chest_14 : decode cX11_chest 14 = .ok (.iload_n 1, 1) := by decide +kernel
theorem dX11_chest_15 : decode cX11_chest 15 = .ok (.iaload, 1) := by decide +kernel
theorem dX11_chest_16 : decode cX11_chest 16 = .ok (.goto 4, 3) := by decide +kernel
theorem dX11_chest_19 : decode cX11_chest 19 = .ok (.iconst (-1), 1) := by decide +kernel
theorem dX11_chest_20 : decode cX11_chest 20 = .ok (.ireturn, 1) := by decide +kernel
theorem dX11_weigh_0 : decode cX11_weigh 0 = .ok (.iload_n 1, 1) := by decide +kernel
theorem dX11_weigh_1 : decode cX11_weigh 1 = .ok (.invokestatic 325, 3) := by decide +kernel
theorem dX11_weigh_4 : decode cX11_weigh 4 = .ok (.ifCond .eq 23, 3) := by decide +kernel
theorem dX11_weigh_7 : decode cX11_weigh 7 = .ok (.iload_n 2, 1) := by decide +kernel
theorem dX11_weigh_8 : decode cX11_weigh 8 = .ok (.iconst 2, 1) := by decide +kernel
theorem dX11_weigh_9 : decode cX11_weigh 9 = .ok (.ldc 145, 2) := by decide +kernel
theorem dX11_weigh_11 : decode cX11_weigh 11 = .ok (.invokestatic 93, 3) := by decide +kernel
theorem dX11_weigh_14 : decode cX11_weigh 14 = .ok (.ifCond .eq 13, 3) := by decide +kernel
theorem dX11_weigh_17 : decode cX11_weigh 17 = .ok (.iload_n 3, 1) := by decide +kernel
theorem dX11_weigh_18 : decode cX11_weigh 18 = .ok (.iconst 1, 1) := by decide +kernel
theorem dX11_weigh_19 : decode cX11_weigh 19 = .ok (.ldc 145, 2) := by decide +kernel
theorem dX11_weigh_21 : decode cX11_weigh 21 = .ok (.invokestatic 93, 3) := by decide +kernel
theorem dX11_weigh_24 : decode cX11_weigh 24 = .ok (.ifCond .ne 5, 3) := by decide +kernel
theorem dX11_weigh_27 : decode cX11_weigh 27 = .ok (.iconst (-1), 1) := by decide +kernel
theorem dX11_weigh_28 : decode cX11_weigh 28 = .ok (.ireturn, 1) := by decide +kernel
theorem dX11_weigh_29 : decode cX11_weigh 29 = .ok (.aload_n 0, 1) := by decide +kernel
theorem dX11_weigh_30 : decode cX11_weigh 30 = .ok (.getfield 43, 3) := by decide +kernel
theorem dX11_weigh_33 : decode cX11_weigh 33 = .ok (.iload_n 1, 1) := by decide +kernel
theorem dX11_weigh_34 : decode cX11_weigh 34 = .ok (.iload_n 2, 1) := by decide +kernel
theorem dX11_weigh_35 : decode cX11_weigh 35 = .ok (.iload_n 3, 1) := by decide +kernel
theorem dX11_weigh_36 : decode cX11_weigh 36 = .ok (.aload_n 0, 1) := by decide +kernel
theorem dX11_weigh_37 : decode cX11_weigh 37 = .ok (.getfield 75, 3) := by decide +kernel
theorem dX11_weigh_40 : decode cX11_weigh 40 = .ok (.invokevirtual 328, 3) := by decide +kernel
theorem dX11_weigh_43 : decode cX11_weigh 43 = .ok (.ireturn, 1) := by decide +kernel
theorem dX11_takeBack_0 : decode cX11_takeBack 0 = .ok (.aload_n 0, 1) := by decide +kernel
theorem dX11_takeBack_1 : decode cX11_takeBack 1 = .ok (.getfield 43, 3) := by decide +kernel
theorem dX11_takeBack_4 : decode cX11_takeBack 4 = .ok (.iload_n 1, 1) := by decide +kernel
theorem dX11_takeBack_5 : decode cX11_takeBack 5 = .ok (.aload_n 0, 1) := by decide +kernel
theorem dX11_takeBack_6 : decode cX11_takeBack 6 = .ok (.getfield 75, 3) := by decide +kernel
theorem dX11_takeBack_9 : decode cX11_takeBack 9 = .ok (.invokevirtual 331, 3) := by decide +kernel
theorem dX11_takeBack_12 : decode cX11_takeBack 12 = .ok (.ireturn, 1) := by decide +kernel
theorem dX11_span_0 : decode cX11_span 0 = .ok (.iload_n 1, 1) := by decide +kernel
theorem dX11_span_1 : decode cX11_span 1 = .ok (.invokestatic 325, 3) := by decide +kernel
theorem dX11_span_4 : decode cX11_span 4 = .ok (.ifCond .eq 10, 3) := by decide +kernel
theorem dX11_span_7 : decode cX11_span 7 = .ok (.iload_n 2, 1) := by decide +kernel
theorem dX11_span_8 : decode cX11_span 8 = .ok (.invokestatic 219, 3) := by decide +kernel
theorem dX11_span_11 : decode cX11_span 11 = .ok (.ifCond .ne 5, 3) := by decide +kernel
theorem dX11_span_14 : decode cX11_span 14 = .ok (.iconst (-1), 1) := by decide +kernel
theorem dX11_span_15 : decode cX11_span 15 = .ok (.ireturn, 1) := by decide +kernel
theorem dX11_span_16 : decode cX11_span 16 = .ok (.iload_n 3, 1) := by decide +kernel
theorem dX11_span_17 : decode cX11_span 17 = .ok (.tableswitch 136 0 5 #[39, 56, 73, 90, 107, 126], 39) := by decide +kernel
theorem dX11_span_56 : decode cX11_span 56 = .ok (.aload_n 0, 1) := by decide +kernel
theorem dX11_span_57 : decode cX11_span 57 = .ok (.getfield 43, 3) := by decide +kernel
theorem dX11_span_60 : decode cX11_span 60 = .ok (.aload_n 0, 1) := by decide +kernel
theorem dX11_span_61 : decode cX11_span 61 = .ok (.getfield 43, 3) := by decide +kernel
theorem dX11_span_64 : decode cX11_span 64 = .ok (.iload_n 1, 1) := by decide +kernel
theorem dX11_span_65 : decode cX11_span 65 = .ok (.iload_n 2, 1) := by decide +kernel
theorem dX11_span_66 : decode cX11_span 66 = .ok (.invokevirtual 334, 3) := by decide +kernel
theorem dX11_span_69 : decode cX11_span 69 = .ok (.invokevirtual 337, 3) := by decide +kernel
theorem dX11_span_72 : decode cX11_span 72 = .ok (.ireturn, 1) := by decide +kernel
theorem dX11_span_73 : decode cX11_span 73 = .ok (.aload_n 0, 1) := by decide +kernel
theorem dX11_span_74 : decode cX11_span 74 = .ok (.getfield 43, 3) := by decide +kernel
theorem dX11_span_77 : decode cX11_span 77 = .ok (.aload_n 0, 1) := by decide +kernel
theorem dX11_span_78 : decode cX11_span 78 = .ok (.getfield 43, 3) := by decide +kernel
theorem dX11_span_81 : decode cX11_span 81 = .ok (.iload_n 1, 1) := by decide +kernel
theorem dX11_span_82 : decode cX11_span 82 = .ok (.iload_n 2, 1) := by decide +kernel
theorem dX11_span_83 : decode cX11_span 83 = .ok (.invokevirtual 334, 3) := by decide +kernel
theorem dX11_span_86 : decode cX11_span 86 = .ok (.invokevirtual 340, 3) := by decide +kernel
theorem dX11_span_89 : decode cX11_span 89 = .ok (.ireturn, 1) := by decide +kernel
theorem dX11_span_90 : decode cX11_span 90 = .ok (.aload_n 0, 1) := by decide +kernel
theorem dX11_span_91 : decode cX11_span 91 = .ok (.getfield 43, 3) := by decide +kernel
theorem dX11_span_94 : decode cX11_span 94 = .ok (.aload_n 0, 1) := by decide +kernel
theorem dX11_span_95 : decode cX11_span 95 = .ok (.getfield 43, 3) := by decide +kernel
theorem dX11_span_98 : decode cX11_span 98 = .ok (.iload_n 1, 1) := by decide +kernel
theorem dX11_span_99 : decode cX11_span 99 = .ok (.iload_n 2, 1) := by decide +kernel
theorem dX11_span_100 : decode cX11_span 100 = .ok (.invokevirtual 343, 3) := by decide +kernel
theorem dX11_span_103 : decode cX11_span 103 = .ok (.invokevirtual 346, 3) := by decide +kernel
theorem dX11_span_106 : decode cX11_span 106 = .ok (.ireturn, 1) := by decide +kernel
theorem dX11_span_107 : decode cX11_span 107 = .ok (.aload_n 0, 1) := by decide +kernel
theorem dX11_span_108 : decode cX11_span 108 = .ok (.getfield 43, 3) := by decide +kernel
theorem dX11_span_111 : decode cX11_span 111 = .ok (.aload_n 0, 1) := by decide +kernel
theorem dX11_span_112 : decode cX11_span 112 = .ok (.getfield 43, 3) := by decide +kernel
theorem dX11_span_115 : decode cX11_span 115 = .ok (.iload_n 1, 1) := by decide +kernel
theorem dX11_span_116 : decode cX11_span 116 = .ok (.iload_n 2, 1) := by decide +kernel
theorem dX11_span_117 : decode cX11_span 117 = .ok (.invokevirtual 343, 3) := by decide +kernel
theorem dX11_span_120 : decode cX11_span 120 = .ok (.invokevirtual 349, 3) := by decide +kernel
theorem dX11_span_123 : decode cX11_span 123 = .ok (.ireturn, 1) := by decide +kernel
theorem dX11_span_124 : decode cX11_span 124 = .ok (.aload_n 0, 1) := by decide +kernel
theorem dX11_span_125 : decode cX11_span 125 = .ok (.getfield 43, 3) := by decide +kernel
theorem dX11_span_128 : decode cX11_span 128 = .ok (.iload_n 1, 1) := by decide +kernel
theorem dX11_span_129 : decode cX11_span 129 = .ok (.iload_n 2, 1) := by decide +kernel
theorem dX11_span_130 : decode cX11_span 130 = .ok (.aload_n 0, 1) := by decide +kernel
theorem dX11_span_131 : decode cX11_span 131 = .ok (.getfield 43, 3) := by decide +kernel
theorem dX11_span_134 : decode cX11_span 134 = .ok (.iload_n 1, 1) := by decide +kernel
theorem dX11_span_135 : decode cX11_span 135 = .ok (.iload_n 2, 1) := by decide +kernel
theorem dX11_span_136 : decode cX11_span 136 = .ok (.invokevirtual 352, 3) := by decide +kernel
theorem dX11_span_139 : decode cX11_span 139 = .ok (.invokevirtual 355, 3) := by decide +kernel
theorem dX11_span_142 : decode cX11_span 142 = .ok (.ireturn, 1) := by decide +kernel
theorem dX11_span_143 : decode cX11_span 143 = .ok (.aload_n 0, 1) := by decide +kernel
theorem dX11_span_144 : decode cX11_span 144 = .ok (.getfield 43, 3) := by decide +kernel
theorem dX11_span_147 : decode cX11_span 147 = .ok (.iload_n 1, 1) := by decide +kernel
theorem dX11_span_148 : decode cX11_span 148 = .ok (.iload_n 2, 1) := by decide +kernel
theorem dX11_span_149 : decode cX11_span 149 = .ok (.invokevirtual 352, 3) := by decide +kernel
theorem dX11_span_152 : decode cX11_span 152 = .ok (.ireturn, 1) := by decide +kernel
theorem dX11_span_153 : decode cX11_span 153 = .ok (.iconst (-1), 1) := by decide +kernel
theorem dX11_span_154 : decode cX11_span 154 = .ok (.ireturn, 1) := by decide +kernel
theorem dX11_theirs_0 : decode cX11_theirs 0 = .ok (.iload_n 1, 1) := by decide +kernel
theorem dX11_theirs_1 : decode cX11_theirs 1 = .ok (.invokestatic 325, 3) := by decide +kernel
theorem dX11_theirs_4 : decode cX11_theirs 4 = .ok (.ifCond .eq 30, 3) := by decide +kernel
theorem dX11_theirs_7 : decode cX11_theirs 7 = .ok (.iload_n 2, 1) := by decide +kernel
theorem dX11_theirs_8 : decode cX11_theirs 8 = .ok (.iconst 0, 1) := by decide +kernel
theorem dX11_theirs_9 : decode cX11_theirs 9 = .ok (.ldc 97, 2) := by decide +kernel
theorem dX11_theirs_11 : decode cX11_theirs 11 = .ok (.invokestatic 93, 3) := by decide +kernel
theorem dX11_theirs_14 : decode cX11_theirs 14 = .ok (.ifCond .eq 20, 3) := by decide +kernel
theorem dX11_theirs_17 : decode cX11_theirs 17 = .ok (.iload_n 3, 1) := by decide +kernel
theorem dX11_theirs_18 : decode cX11_theirs 18 = .ok (.invokestatic 219, 3) := by decide +kernel
theorem dX11_theirs_21 : decode cX11_theirs 21 = .ok (.ifCond .eq 13, 3) := by decide +kernel
theorem dX11_theirs_24 : decode cX11_theirs 24 = .ok (.iload 4, 2) := by decide +kernel
theorem dX11_theirs_26 : decode cX11_theirs 26 = .ok (.iconst 0, 1) := by decide +kernel
theorem dX11_theirs_27 : decode cX11_theirs 27 = .ok (.iconst 1, 1) := by decide +kernel
theorem dX11_theirs_28 : decode cX11_theirs 28 = .ok (.invokestatic 93, 3) := by decide +kernel
theorem dX11_theirs_31 : decode cX11_theirs 31 = .ok (.ifCond .ne 5, 3) := by decide +kernel
theorem dX11_theirs_34 : decode cX11_theirs 34 = .ok (.iconst (-1), 1) := by decide +kernel
theorem dX11_theirs_35 : decode cX11_theirs 35 = .ok (.ireturn, 1) := by decide +kernel
theorem dX11_theirs_36 : decode cX11_theirs 36 = .ok (.aload_n 0, 1) := by decide +kernel
theorem dX11_theirs_37 : decode cX11_theirs 37 = .ok (.getfield 43, 3) := by decide +kernel
theorem dX11_theirs_40 : decode cX11_theirs 40 = .ok (.iload_n 1, 1) := by decide +kernel
theorem dX11_theirs_41 : decode cX11_theirs 41 = .ok (.iload_n 3, 1) := by decide +kernel
theorem dX11_theirs_42 : decode cX11_theirs 42 = .ok (.invokevirtual 352, 3) := by decide +kernel
theorem dX11_theirs_45 : decode cX11_theirs 45 = .ok (.iconst (-1), 1) := by decide +kernel
theorem dX11_theirs_46 : decode cX11_theirs 46 = .ok (.if_icmp .eq 6, 3) := by decide +kernel
theorem dX11_theirs_49 : decode cX11_theirs 49 = .ok (.bipush (-2), 2) := by decide +kernel
theorem dX11_theirs_51 : decode cX11_theirs 51 = .ok (.ireturn, 1) := by decide +kernel
theorem dX11_theirs_52 : decode cX11_theirs 52 = .ok (.iload 4, 2) := by decide +kernel
theorem dX11_theirs_54 : decode cX11_theirs 54 = .ok (.ifCond .ne 16, 3) := by decide +kernel
theorem dX11_theirs_57 : decode cX11_theirs 57 = .ok (.aload_n 0, 1) := by decide +kernel
theorem dX11_theirs_58 : decode cX11_theirs 58 = .ok (.getfield 43, 3) := by decide +kernel
theorem dX11_theirs_61 : decode cX11_theirs 61 = .ok (.iload_n 1, 1) := by decide +kernel
theorem dX11_theirs_62 : decode cX11_theirs 62 = .ok (.iload_n 2, 1) := by decide +kernel
theorem dX11_theirs_63 : decode cX11_theirs 63 = .ok (.iload_n 3, 1) := by decide +kernel
theorem dX11_theirs_64 : decode cX11_theirs 64 = .ok (.invokevirtual 358, 3) := by decide +kernel
theorem dX11_theirs_67 : decode cX11_theirs 67 = .ok (.goto 13, 3) := by decide +kernel
theorem dX11_theirs_70 : decode cX11_theirs 70 = .ok (.aload_n 0, 1) := by decide +kernel
theorem dX11_theirs_71 : decode cX11_theirs 71 = .ok (.getfield 43, 3) := by decide +kernel
theorem dX11_theirs_74 : decode cX11_theirs 74 = .ok (.iload_n 1, 1) := by decide +kernel
theorem dX11_theirs_75 : decode cX11_theirs 75 = .ok (.iload_n 2, 1) := by decide +kernel
theorem dX11_theirs_76 : decode cX11_theirs 76 = .ok (.iload_n 3, 1) := by decide +kernel
theorem dX11_theirs_77 : decode cX11_theirs 77 = .ok (.invokevirtual 361, 3) := by decide +kernel
theorem dX11_theirs_80 : decode cX11_theirs 80 = .ok (.ireturn, 1) := by decide +kernel
theorem dX11_order_0 : decode cX11_order 0 = .ok (.iload_n 1, 1) := by decide +kernel
theorem dX11_order_1 : decode cX11_order 1 = .ok (.iconst 1, 1) := by decide +kernel
theorem dX11_order_2 : decode cX11_order 2 = .ok (.bipush 8, 2) := by decide +kernel
theorem dX11_order_4 : decode cX11_order 4 = .ok (.invokestatic 93, 3) := by decide +kernel
theorem dX11_order_7 : decode cX11_order 7 = .ok (.ifCond .eq 15, 3) := by decide +kernel
theorem dX11_order_10 : decode cX11_order 10 = .ok (.iload 4, 2) := by decide +kernel
theorem dX11_order_12 : decode cX11_order 12 = .ok (.iconst 1, 1) := by decide +kernel
theorem dX11_order_13 : decode cX11_order 13 = .ok (.sipush 400, 3) := by decide +kernel
theorem dX11_order_16 : decode cX11_order 16 = .ok (.invokestatic 93, 3) := by decide +kernel
theorem dX11_order_19 : decode cX11_order 19 = .ok (.ifCond .ne 5, 3) := by decide +kernel
theorem dX11_order_22 : decode cX11_order 22 = .ok (.iconst 0, 1) := by decide +kernel
theorem dX11_order_23 : decode cX11_order 23 = .ok (.ireturn, 1) := by decide +kernel
theorem dX11_order_24 : decode cX11_order 24 = .ok (.iload_n 1, 1) := by decide +kernel
theorem dX11_order_25 : decode cX11_order 25 = .ok (.newarray .int, 2) := by decide +kernel
theorem dX11_order_27 : decode cX11_order 27 = .ok (.astore 5, 2) := by decide +kernel
theorem dX11_order_29 : decode cX11_order 29 = .ok (.iconst 0, 1) := by decide +kernel
theorem dX11_order_30 : decode cX11_order 30 = .ok (.istore 6, 2) := by decide +kernel
theorem dX11_order_32 : decode cX11_order 32 = .ok (.iconst 0, 1) := by decide +kernel
theorem dX11_order_33 : decode cX11_order 33 = .ok (.istore 7, 2) := by decide +kernel
theorem dX11_order_35 : decode cX11_order 35 = .ok (.iload 7, 2) := by decide +kernel
theorem dX11_order_37 : decode cX11_order 37 = .ok (.iload_n 1, 1) := by decide +kernel
theorem dX11_order_38 : decode cX11_order 38 = .ok (.if_icmp .ge 56, 3) := by decide +kernel
theorem dX11_order_41 : decode cX11_order 41 = .ok (.lload_n 2, 1) := by decide +kernel
theorem dX11_order_42 : decode cX11_order 42 = .ok (.iconst 4, 1) := by decide +kernel
theorem dX11_order_43 : decode cX11_order 43 = .ok (.iload 7, 2) := by decide +kernel
theorem dX11_order_45 : decode cX11_order 45 = .ok (.imul, 1) := by decide +kernel
theorem dX11_order_46 : decode cX11_order 46 = .ok (.lushr, 1) := by decide +kernel
theorem dX11_order_47 : decode cX11_order 47 = .ok (.l2i, 1) := by decide +kernel
theorem dX11_order_48 : decode cX11_order 48 = .ok (.bipush 15, 2) := by decide +kernel
theorem dX11_order_50 : decode cX11_order 50 = .ok (.iand, 1) := by decide +kernel
theorem dX11_order_51 : decode cX11_order 51 = .ok (.istore 8, 2) := by decide +kernel
theorem dX11_order_53 : decode cX11_order 53 = .ok (.iload 8, 2) := by decide +kernel
theorem dX11_order_55 : decode cX11_order 55 = .ok (.bipush 8, 2) := by decide +kernel
theorem dX11_order_57 : decode cX11_order 57 = .ok (.if_icmp .ge 13, 3) := by decide +kernel
theorem dX11_order_60 : decode cX11_order 60 = .ok (.iload 6, 2) := by decide +kernel
theorem dX11_order_62 : decode cX11_order 62 = .ok (.iload 8, 2) := by decide +kernel
theorem dX11_order_64 : decode cX11_order 64 = .ok (.ishr, 1) := by decide +kernel
theorem dX11_order_65 : decode cX11_order 65 = .ok (.iconst 1, 1) := by decide +kernel
theorem dX11_order_66 : decode cX11_order 66 = .ok (.iand, 1) := by decide +kernel
theorem dX11_order_67 : decode cX11_order 67 = .ok (.ifCond .eq 5, 3) := by decide +kernel
theorem dX11_order_70 : decode cX11_order 70 = .ok (.iconst 0, 1) := by decide +kernel
theorem dX11_order_71 : decode cX11_order 71 = .ok (.ireturn, 1) := by decide +kernel
theorem dX11_order_72 : decode cX11_order 72 = .ok (.iload 6, 2) := by decide +kernel
theorem dX11_order_74 : decode cX11_order 74 = .ok (.iconst 1, 1) := by decide +kernel
theorem dX11_order_75 : decode cX11_order 75 = .ok (.iload 8, 2) := by decide +kernel
theorem dX11_order_77 : decode cX11_order 77 = .ok (.ishl, 1) := by decide +kernel
theorem dX11_order_78 : decode cX11_order 78 = .ok (.ior, 1) := by decide +kernel
theorem dX11_order_79 : decode cX11_order 79 = .ok (.istore 6, 2) := by decide +kernel
theorem dX11_order_81 : decode cX11_order 81 = .ok (.aload 5, 2) := by decide +kernel
theorem dX11_order_83 : decode cX11_order 83 = .ok (.iload 7, 2) := by decide +kernel
theorem dX11_order_85 : decode cX11_order 85 = .ok (.iload 8, 2) := by decide +kernel
theorem dX11_order_87 : decode cX11_order 87 = .ok (.iastore, 1) := by decide +kernel
theorem dX11_order_88 : decode cX11_order 88 = .ok (.iinc 7 1, 3) := by decide +kernel
theorem dX11_order_91 : decode cX11_order 91 = .ok (.goto (-56), 3) := by decide +kernel
theorem dX11_order_94 : decode cX11_order 94 = .ok (.aload_n 0, 1) := by decide +kernel
theorem dX11_order_95 : decode cX11_order 95 = .ok (.aload 5, 2) := by decide +kernel
theorem dX11_order_97 : decode cX11_order 97 = .ok (.putfield 83, 3) := by decide +kernel
theorem dX11_order_100 : decode cX11_order 100 = .ok (.aload_n 0, 1) := by decide +kernel
theorem dX11_order_101 : decode cX11_order 101 = .ok (.iload 4, 2) := by decide +kernel
theorem dX11_order_103 : decode cX11_order 103 = .ok (.putfield 86, 3) := by decide +kernel
theorem dX11_order_106 : decode cX11_order 106 = .ok (.iconst 1, 1) := by decide +kernel
theorem dX11_order_107 : decode cX11_order 107 = .ok (.ireturn, 1) := by decide +kernel
theorem dX11_elder_0 : decode cX11_elder 0 = .ok (.iload_n 1, 1) := by decide +kernel
theorem dX11_elder_1 : decode cX11_elder 1 = .ok (.invokestatic 219, 3) := by decide +kernel
theorem dX11_elder_4 : decode cX11_elder 4 = .ok (.ifCond .eq 11, 3) := by decide +kernel
theorem dX11_elder_7 : decode cX11_elder 7 = .ok (.aload_n 0, 1) := by decide +kernel
theorem dX11_elder_8 : decode cX11_elder 8 = .ok (.iload_n 1, 1) := by decide +kernel
theorem dX11_elder_9 : decode cX11_elder 9 = .ok (.invokevirtual 364, 3) := by decide +kernel
theorem dX11_elder_12 : decode cX11_elder 12 = .ok (.goto 4, 3) := by decide +kernel
theorem dX11_elder_15 : decode cX11_elder 15 = .ok (.iconst (-1), 1) := by decide +kernel
theorem dX11_elder_16 : decode cX11_elder 16 = .ok (.ireturn, 1) := by decide +kernel
theorem dX11_ship_0 : decode cX11_ship 0 = .ok (.iload_n 1, 1) := by decide +kernel
theorem dX11_ship_1 : decode cX11_ship 1 = .ok (.invokestatic 239, 3) := by decide +kernel
theorem dX11_ship_4 : decode cX11_ship 4 = .ok (.ifCond .eq 38, 3) := by decide +kernel
theorem dX11_ship_7 : decode cX11_ship 7 = .ok (.iload_n 2, 1) := by decide +kernel
theorem dX11_ship_8 : decode cX11_ship 8 = .ok (.aload_n 0, 1) := by decide +kernel
theorem dX11_ship_9 : decode cX11_ship 9 = .ok (.getfield 75, 3) := by decide +kernel
theorem dX11_ship_12 : decode cX11_ship 12 = .ok (.sipush 3999, 3) := by decide +kernel
theorem dX11_ship_15 : decode cX11_ship 15 = .ok (.invokestatic 93, 3) := by decide +kernel
theorem dX11_ship_18 : decode cX11_ship 18 = .ok (.ifCond .eq 24, 3) := by decide +kernel
theorem dX11_ship_21 : decode cX11_ship 21 = .ok (.iload_n 3, 1) := by decide +kernel
theorem dX11_ship_22 : decode cX11_ship 22 = .ok (.iconst 1, 1) := by decide +kernel
theorem dX11_ship_23 : decode cX11_ship 23 = .ok (.bipush 99, 2) := by decide +kernel
theorem dX11_ship_25 : decode cX11_ship 25 = .ok (.invokestatic 93, 3) := by decide +kernel
theorem dX11_ship_28 : decode cX11_ship 28 = .ok (.ifCond .eq 14, 3) := by decide +kernel
theorem dX11_ship_31 : decode cX11_ship 31 = .ok (.iload 4, 2) := by decide +kernel
theorem dX11_ship_33 : decode cX11_ship 33 = .ok (.iconst 1, 1) := by decide +kernel
theorem dX11_ship_34 : decode cX11_ship 34 = .ok (.ldc 97, 2) := by decide +kernel
theorem dX11_ship_36 : decode cX11_ship 36 = .ok (.invokestatic 93, 3) := by decide +kernel
theorem dX11_ship_39 : decode cX11_ship 39 = .ok (.ifCond .ne 5, 3) := by decide +kernel
theorem dX11_ship_42 : decode cX11_ship 42 = .ok (.iconst (-1), 1) := by decide +kernel
theorem dX11_ship_43 : decode cX11_ship 43 = .ok (.ireturn, 1) := by decide +kernel
theorem dX11_ship_44 : decode cX11_ship 44 = .ok (.aload_n 0, 1) := by decide +kernel
theorem dX11_ship_45 : decode cX11_ship 45 = .ok (.getfield 50, 3) := by decide +kernel
theorem dX11_ship_48 : decode cX11_ship 48 = .ok (.iload_n 1, 1) := by decide +kernel
theorem dX11_ship_49 : decode cX11_ship 49 = .ok (.iload_n 2, 1) := by decide +kernel
theorem dX11_ship_50 : decode cX11_ship 50 = .ok (.iload_n 3, 1) := by decide +kernel
theorem dX11_ship_51 : decode cX11_ship 51 = .ok (.iload 4, 2) := by decide +kernel
theorem dX11_ship_53 : decode cX11_ship 53 = .ok (.invokevirtual 367, 3) := by decide +kernel
theorem dX11_ship_56 : decode cX11_ship 56 = .ok (.ireturn, 1) := by decide +kernel
theorem dX11_news_0 : decode cX11_news 0 = .ok (.iload_n 1, 1) := by decide +kernel
theorem dX11_news_1 : decode cX11_news 1 = .ok (.iconst 0, 1) := by decide +kernel
theorem dX11_news_2 : decode cX11_news 2 = .ok (.bipush 8, 2) := by decide +kernel
theorem dX11_news_4 : decode cX11_news 4 = .ok (.invokestatic 93, 3) := by decide +kernel
theorem dX11_news_7 : decode cX11_news 7 = .ok (.ifCond .eq 10, 3) := by decide +kernel
theorem dX11_news_10 : decode cX11_news 10 = .ok (.iload_n 2, 1) := by decide +kernel
theorem dX11_news_11 : decode cX11_news 11 = .ok (.invokestatic 325, 3) := by decide +kernel
theorem dX11_news_14 : decode cX11_news 14 = .ok (.ifCond .ne 5, 3) := by decide +kernel
theorem dX11_news_17 : decode cX11_news 17 = .ok (.iconst (-1), 1) := by decide +kernel
theorem dX11_news_18 : decode cX11_news 18 = .ok (.ireturn, 1) := by decide +kernel
theorem dX11_news_19 : decode cX11_news 19 = .ok (.iload_n 3, 1) := by decide +kernel
theorem dX11_news_20 : decode cX11_news 20 = .ok (.iconst 0, 1) := by decide +kernel
theorem dX11_news_21 : decode cX11_news 21 = .ok (.sipush 9999, 3) := by decide +kernel
theorem dX11_news_24 : decode cX11_news 24 = .ok (.invokestatic 93, 3) := by decide +kernel
theorem dX11_news_27 : decode cX11_news 27 = .ok (.ifCond .eq 15, 3) := by decide +kernel
theorem dX11_news_30 : decode cX11_news 30 = .ok (.iload 4, 2) := by decide +kernel
theorem dX11_news_32 : decode cX11_news 32 = .ok (.iload_n 3, 1) := by decide +kernel
theorem dX11_news_33 : decode cX11_news 33 = .ok (.sipush 9999, 3) := by decide +kernel
theorem dX11_news_36 : decode cX11_news 36 = .ok (.invokestatic 93, 3) := by decide +kernel
theorem dX11_news_39 : decode cX11_news 39 = .ok (.ifCond .ne 5, 3) := by decide +kernel
theorem dX11_news_42 : decode cX11_news 42 = .ok (.iconst (-1), 1) := by decide +kernel
theorem dX11_news_43 : decode cX11_news 43 = .ok (.ireturn, 1) := by decide +kernel
theorem dX11_news_44 : decode cX11_news 44 = .ok (.aload_n 0, 1) := by decide +kernel
theorem dX11_news_45 : decode cX11_news 45 = .ok (.getfield 50, 3) := by decide +kernel
theorem dX11_news_48 : decode cX11_news 48 = .ok (.iload_n 1, 1) := by decide +kernel
theorem dX11_news_49 : decode cX11_news 49 = .ok (.iload_n 2, 1) := by decide +kernel
theorem dX11_news_50 : decode cX11_news 50 = .ok (.iload_n 3, 1) := by decide +kernel
theorem dX11_news_51 : decode cX11_news 51 = .ok (.iload 4, 2) := by decide +kernel
theorem dX11_news_53 : decode cX11_news 53 = .ok (.aload_n 0, 1) := by decide +kernel
theorem dX11_news_54 : decode cX11_news 54 = .ok (.getfield 75, 3) := by decide +kernel
theorem dX11_news_57 : decode cX11_news 57 = .ok (.invokevirtual 370, 3) := by decide +kernel
theorem dX11_news_60 : decode cX11_news 60 = .ok (.ireturn, 1) := by decide +kernel
theorem dX11_price_0 : decode cX11_price 0 = .ok (.iload_n 1, 1) := by decide +kernel
theorem dX11_price_1 : decode cX11_price 1 = .ok (.iconst 0, 1) := by decide +kernel
theorem dX11_price_2 : decode cX11_price 2 = .ok (.bipush 8, 2) := by decide +kernel
theorem dX11_price_4 : decode cX11_price 4 = .ok (.invokestatic 93, 3) := by decide +kernel
theorem dX11_price_7 : decode cX11_price 7 = .ok (.ifCond .eq 27, 3) := by decide +kernel
theorem dX11_price_10 : decode cX11_price 10 = .ok (.iload_n 2, 1) := by decide +kernel
theorem dX11_price_11 : decode cX11_price 11 = .ok (.invokestatic 325, 3) := by decide +kernel
theorem dX11_price_14 : decode cX11_price 14 = .ok (.ifCond .eq 20, 3) := by decide +kernel
theorem dX11_price_17 : decode cX11_price 17 = .ok (.iload_n 3, 1) := by decide +kernel
theorem dX11_price_18 : decode cX11_price 18 = .ok (.invokestatic 219, 3) := by decide +kernel
theorem dX11_price_21 : decode cX11_price 21 = .ok (.ifCond .eq 13, 3) := by decide +kernel
theorem dX11_price_24 : decode cX11_price 24 = .ok (.iload 4, 2) := by decide +kernel
theorem dX11_price_26 : decode cX11_price 26 = .ok (.iconst 0, 1) := by decide +kernel
theorem dX11_price_27 : decode cX11_price 27 = .ok (.iconst 1, 1) := by decide +kernel
theorem dX11_price_28 : decode cX11_price 28 = .ok (.invokestatic 93, 3) := by decide +kernel
theorem dX11_price_31 : decode cX11_price 31 = .ok (.ifCond .ne 5, 3) := by decide +kernel
theorem dX11_price_34 : decode cX11_price 34 = .ok (.iconst (-1), 1) := by decide +kernel
theorem dX11_price_35 : decode cX11_price 35 = .ok (.ireturn, 1) := by decide +kernel
theorem dX11_price_36 : decode cX11_price 36 = .ok (.iload 4, 2) := by decide +kernel
theorem dX11_price_38 : decode cX11_price 38 = .ok (.ifCond .ne 16, 3) := by decide +kernel
theorem dX11_price_41 : decode cX11_price 41 = .ok (.aload_n 0, 1) := by decide +kernel
theorem dX11_price_42 : decode cX11_price 42 = .ok (.getfield 50, 3) := by decide +kernel
theorem dX11_price_45 : decode cX11_price 45 = .ok (.iload_n 1, 1) := by decide +kernel
theorem dX11_price_46 : decode cX11_price 46 = .ok (.iload_n 2, 1) := by decide +kernel
theorem dX11_price_47 : decode cX11_price 47 = .ok (.iload_n 3, 1) := by decide +kernel
theorem dX11_price_48 : decode cX11_price 48 = .ok (.invokevirtual 374, 3) := by decide +kernel
theorem dX11_price_51 : decode cX11_price 51 = .ok (.goto 13, 3) := by decide +kernel
theorem dX11_price_54 : decode cX11_price 54 = .ok (.aload_n 0, 1) := by decide +kernel
theorem dX11_price_55 : decode cX11_price 55 = .ok (.getfield 50, 3) := by decide +kernel
theorem dX11_price_58 : decode cX11_price 58 = .ok (.iload_n 1, 1) := by decide +kernel
theorem dX11_price_59 : decode cX11_price 59 = .ok (.iload_n 2, 1) := by decide +kernel
theorem dX11_price_60 : decode cX11_price 60 = .ok (.iload_n 3, 1) := by decide +kernel
theorem dX11_price_61 : decode cX11_price 61 = .ok (.invokevirtual 377, 3) := by decide +kernel
theorem dX11_price_64 : decode cX11_price 64 = .ok (.ireturn, 1) := by decide +kernel
theorem dX11_plan_0 : decode cX11_plan 0 = .ok (.aload_n 0, 1) := by decide +kernel
theorem dX11_plan_1 : decode cX11_plan 1 = .ok (.iload_n 1, 1) := by decide +kernel
theorem dX11_plan_2 : decode cX11_plan 2 = .ok (.invokevirtual 107, 3) := by decide +kernel
theorem dX11_plan_5 : decode cX11_plan 5 = .ok (.ifnonnull 7, 3) := by decide +kernel
theorem dX11_plan_8 : decode cX11_plan 8 = .ok (.ldc2_w 380, 3) := by decide +kernel
theorem dX11_plan_11 : decode cX11_plan 11 = .ok (.lreturn, 1) := by decide +kernel
theorem dX11_plan_12 : decode cX11_plan 12 = .ok (.aload_n 0, 1) := by decide +kernel
theorem dX11_plan_13 : decode cX11_plan 13 = .ok (.getfield 57, 3) := by decide +kernel
theorem dX11_plan_16 : decode cX11_plan 16 = .ok (.invokevirtual 382, 3) := by decide +kernel
theorem dX11_plan_19 : decode cX11_plan 19 = .ok (.iconst 0, 1) := by decide +kernel
theorem dX11_plan_20 : decode cX11_plan 20 = .ok (.istore_n 2, 1) := by decide +kernel
theorem dX11_plan_21 : decode cX11_plan 21 = .ok (.iload_n 2, 1) := by decide +kernel
theorem dX11_plan_22 : decode cX11_plan 22 = .ok (.aload_n 0, 1) := by decide +kernel
theorem dX11_plan_23 : decode cX11_plan 23 = .ok (.getfield 16, 3) := by decide +kernel
theorem dX11_plan_26 : decode cX11_plan 26 = .ok (.invokevirtual 89, 3) := by decide +kernel
theorem dX11_plan_29 : decode cX11_plan 29 = .ok (.if_icmp .ge 48, 3) := by decide +kernel
theorem dX11_plan_32 : decode cX11_plan 32 = .ok (.aload_n 0, 1) := by decide +kernel
theorem dX11_plan_33 : decode cX11_plan 33 = .ok (.getfield 16, 3) := by decide +kernel
theorem dX11_plan_36 : decode cX11_plan 36 = .ok (.iload_n 2, 1) := by decide +kernel
theorem dX11_plan_37 : decode cX11_plan 37 = .ok (.invokevirtual 151, 3) := by decide +kernel
theorem dX11_plan_40 : decode cX11_plan 40 = .ok (.checkcast 146, 3) := by decide +kernel
theorem dX11_plan_43 : decode cX11_plan 43 = .ok (.astore_n 3, 1) := by decide +kernel
theorem dX11_plan_44 : decode cX11_plan 44 = .ok (.aload_n 3, 1) := by decide +kernel
theorem dX11_plan_45 : decode cX11_plan 45 = .ok (.getfield 161, 3) := by decide +kernel
theorem dX11_plan_48 : decode cX11_plan 48 = .ok (.iload_n 1, 1) := by decide +kernel
theorem dX11_plan_49 : decode cX11_plan 49 = .ok (.if_icmp .ne 22, 3) := by decide +kernel
theorem dX11_plan_52 : decode cX11_plan 52 = .ok (.aload_n 3, 1) := by decide +kernel
theorem dX11_plan_53 : decode cX11_plan 53 = .ok (.getfield 158, 3) := by decide +kernel
theorem dX11_plan_56 : decode cX11_plan 56 = .ok (.ifCond .le 15, 3) := by decide +kernel
theorem dX11_plan_59 : decode cX11_plan 59 = .ok (.aload_n 0, 1) := by decide +kernel
theorem dX11_plan_60 : decode cX11_plan 60 = .ok (.getfield 57, 3) := by decide +kernel
theorem dX11_plan_63 : decode cX11_plan 63 = .ok (.iload_n 2, 1) := by decide +kernel
theorem dX11_plan_64 : decode cX11_plan 64 = .ok (.aload_n 3, 1) := by decide +kernel
theorem dX11_plan_65 : decode cX11_plan 65 = .ok (.getfield 158, 3) := by decide +kernel
theorem dX11_plan_68 : decode cX11_plan 68 = .ok (.invokevirtual 385, 3) := by decide +kernel
theorem dX11_plan_71 : decode cX11_plan 71 = .ok (.iinc 2 1, 3) := by decide +kernel
theorem dX11_plan_74 : decode cX11_plan 74 = .ok (.goto (-53), 3) := by decide +kernel
theorem dX11_plan_77 : decode cX11_plan 77 = .ok (.aload_n 0, 1) := by decide +kernel
theorem dX11_plan_78 : decode cX11_plan 78 = .ok (.getfield 50, 3) := by decide +kernel
theorem dX11_plan_81 : decode cX11_plan 81 = .ok (.iconst (-1), 1) := by decide +kernel
theorem dX11_plan_82 : decode cX11_plan 82 = .ok (.aload_n 0, 1) := by decide +kernel
theorem dX11_plan_83 : decode cX11_plan 83 = .ok (.getfield 75, 3) := by decide +kernel
theorem dX11_plan_86 : decode cX11_plan 86 = .ok (.invokevirtual 388, 3) := by decide +kernel
theorem dX11_plan_89 : decode cX11_plan 89 = .ok (.istore_n 2, 1) := by decide +kernel
theorem dX11_plan_90 : decode cX11_plan 90 = .ok (.iconst 0, 1) := by decide +kernel
theorem dX11_plan_91 : decode cX11_plan 91 = .ok (.istore_n 3, 1) := by decide +kernel
theorem dX11_plan_92 : decode cX11_plan 92 = .ok (.iload_n 3, 1) := by decide +kernel
theorem dX11_plan_93 : decode cX11_plan 93 = .ok (.iconst 4, 1) := by decide +kernel
theorem dX11_plan_94 : decode cX11_plan 94 = .ok (.if_icmp .ge 44, 3) := by decide +kernel
theorem dX11_plan_97 : decode cX11_plan 97 = .ok (.iload_n 2, 1) := by decide +kernel
theorem dX11_plan_98 : decode cX11_plan 98 = .ok (.iconst (-1), 1) := by decide +kernel
theorem dX11_plan_99 : decode cX11_plan 99 = .ok (.if_icmp .eq 39, 3) := by decide +kernel
theorem dX11_plan_102 : decode cX11_plan 102 = .ok (.aload_n 0, 1) := by decide +kernel
theorem dX11_plan_103 : decode cX11_plan 103 = .ok (.getfield 57, 3) := by decide +kernel
theorem dX11_plan_106 : decode cX11_plan 106 = .ok (.iload_n 2, 1) := by decide +kernel
theorem dX11_plan_107 : decode cX11_plan 107 = .ok (.aload_n 0, 1) := by decide +kernel
theorem dX11_plan_108 : decode cX11_plan 108 = .ok (.getfield 50, 3) := by decide +kernel
theorem dX11_plan_111 : decode cX11_plan 111 = .ok (.getfield 391, 3) := by decide +kernel
theorem dX11_plan_114 : decode cX11_plan 114 = .ok (.iload_n 2, 1) := by decide +kernel
theorem dX11_plan_115 : decode cX11_plan 115 = .ok (.iaload, 1) := by decide +kernel
theorem dX11_plan_116 : decode cX11_plan 116 = .ok (.invokevirtual 394, 3) := by decide +kernel
theorem dX11_plan_119 : decode cX11_plan 119 = .ok (.aload_n 0, 1) := by decide +kernel
theorem dX11_plan_120 : decode cX11_plan 120 = .ok (.getfield 50, 3) := by decide +kernel
theorem dX11_plan_123 : decode cX11_plan 123 = .ok (.iload_n 2, 1) := by decide +kernel
theorem dX11_plan_124 : decode cX11_plan 124 = .ok (.aload_n 0, 1) := by decide +kernel
theorem dX11_plan_125 : decode cX11_plan 125 = .ok (.getfield 75, 3) := by decide +kernel
theorem dX11_plan_128 : decode cX11_plan 128 = .ok (.invokevirtual 388, 3) := by decide +kernel
theorem dX11_plan_131 : decode cX11_plan 131 = .ok (.istore_n 2, 1) := by decide +kernel
theorem dX11_plan_132 : decode cX11_plan 132 = .ok (.iinc 3 1, 3) := by decide +kernel
theorem dX11_plan_135 : decode cX11_plan 135 = .ok (.goto (-43), 3) := by decide +kernel
theorem dX11_plan_138 : decode cX11_plan 138 = .ok (.aload_n 0, 1) := by decide +kernel
theorem dX11_plan_139 : decode cX11_plan 139 = .ok (.invokevirtual 396, 3) := by decide +kernel
theorem dX11_plan_142 : decode cX11_plan 142 = .ok (.aload_n 0, 1) := by decide +kernel
theorem dX11_plan_143 : decode cX11_plan 143 = .ok (.getfield 57, 3) := by decide +kernel
theorem dX11_plan_146 : decode cX11_plan 146 = .ok (.invokevirtual 399, 3) := by decide +kernel
theorem dX11_plan_149 : decode cX11_plan 149 = .ok (.aload_n 0, 1) := by decide +kernel
theorem dX11_plan_150 : decode cX11_plan 150 = .ok (.getfield 57, 3) := by decide +kernel
theorem dX11_plan_153 : decode cX11_plan 153 = .ok (.getfield 402, 3) := by decide +kernel
theorem dX11_plan_156 : decode cX11_plan 156 = .ok (.lreturn, 1) := by decide +kernel
theorem dX11_planned_0 : decode cX11_planned 0 = .ok (.aload_n 0, 1) := by decide +kernel
theorem dX11_planned_1 : decode cX11_planned 1 = .ok (.getfield 57, 3) := by decide +kernel
theorem dX11_planned_4 : decode cX11_planned 4 = .ok (.getfield 405, 3) := by decide +kernel
theorem dX11_planned_7 : decode cX11_planned 7 = .ok (.ifCond .eq 12, 3) := by decide +kernel
theorem dX11_planned_10 : decode cX11_planned 10 = .ok (.iload_n 2, 1) := by decide +kernel
theorem dX11_planned_11 : decode cX11_planned 11 = .ok (.iconst 0, 1) := by decide +kernel
theorem dX11_planned_12 : decode cX11_planned 12 = .ok (.iconst 1, 1) := by decide +kernel
theorem dX11_planned_13 : decode cX11_planned 13 = .ok (.invokestatic 93, 3) := by decide +kernel
theorem dX11_planned_16 : decode cX11_planned 16 = .ok (.ifCond .ne 5, 3) := by decide +kernel
theorem dX11_planned_19 : decode cX11_planned 19 = .ok (.iconst (-1), 1) := by decide +kernel
theorem dX11_planned_20 : decode cX11_planned 20 = .ok (.ireturn, 1) := by decide +kernel
theorem dX11_planned_21 : decode cX11_planned 21 = .ok (.iload_n 1, 1) := by decide +kernel
theorem dX11_planned_22 : decode cX11_planned 22 = .ok (.iconst (-1), 1) := by decide +kernel
theorem dX11_planned_23 : decode cX11_planned 23 = .ok (.if_icmp .ne 25, 3) := by decide +kernel
theorem dX11_planned_26 : decode cX11_planned 26 = .ok (.iload_n 2, 1) := by decide +kernel
theorem dX11_planned_27 : decode cX11_planned 27 = .ok (.ifCond .ne 13, 3) := by decide +kernel
theorem dX11_planned_30 : decode cX11_planned 30 = .ok (.aload_n 0, 1) := by decide +kernel
theorem dX11_planned_31 : decode cX11_planned 31 = .ok (.getfield 57, 3) := by decide +kernel
theorem dX11_planned_34 : decode cX11_planned 34 = .ok (.getfield 408, 3) := by decide +kernel
theorem dX11_planned_37 : decode cX11_planned 37 = .ok (.goto 10, 3) := by decide +kernel
theorem dX11_planned_40 : decode cX11_planned 40 = .ok (.aload_n 0, 1) := by decide +kernel
theorem dX11_planned_41 : decode cX11_planned 41 = .ok (.getfield 57, 3) := by decide +kernel
theorem dX11_planned_44 : decode cX11_planned 44 = .ok (.getfield 411, 3) := by decide +kernel
theorem dX11_planned_47 : decode cX11_planned 47 = .ok (.ireturn, 1) := by decide +kernel
theorem dX11_planned_48 : decode cX11_planned 48 = .ok (.iload_n 1, 1) := by decide +kernel
theorem dX11_planned_49 : decode cX11_planned 49 = .ok (.ifCond .lt 14, 3) := by decide +kernel
theorem dX11_planned_52 : decode cX11_planned 52 = .ok (.iload_n 1, 1) := by decide +kernel
theorem dX11_planned_53 : decode cX11_planned 53 = .ok (.aload_n 0, 1) := by decide +kernel
theorem dX11_planned_54 : decode cX11_planned 54 = .ok (.getfield 57, 3) := by decide +kernel
theorem dX11_planned_57 : decode cX11_planned 57 = .ok (.getfield 408, 3) := by decide +kernel
theorem dX11_planned_60 : decode cX11_planned 60 = .ok (.if_icmp .lt 5, 3) := by decide +kernel
theorem dX11_planned_63 : decode cX11_planned 63 = .ok (.iconst (-1), 1) := by decide +kernel
theorem dX11_planned_64 : decode cX11_planned 64 = .ok (.ireturn, 1) := by decide +kernel
theorem dX11_planned_65 : decode cX11_planned 65 = .ok (.iload_n 2, 1) := by decide +kernel
theorem dX11_planned_66 : decode cX11_planned 66 = .ok (.ifCond .ne 15, 3) := by decide +kernel
theorem dX11_planned_69 : decode cX11_planned 69 = .ok (.aload_n 0, 1) := by decide +kernel
theorem dX11_planned_70 : decode cX11_planned 70 = .ok (.getfield 57, 3) := by decide +kernel
theorem dX11_planned_73 : decode cX11_planned 73 = .ok (.getfield 414, 3) := by decide +kernel
theorem dX11_planned_76 : decode cX11_planned 76 = .ok (.iload_n 1, 1) := by decide +kernel
theorem dX11_planned_77 : decode cX11_planned 77 = .ok (.iaload, 1) := by decide +kernel
theorem dX11_planned_78 : decode cX11_planned 78 = .ok (.goto 11, 3) := by decide +kernel
theorem dX11_planned_81 : decode cX11_planned 81 = .ok (.aload_n 0, 1) := by decide +kernel
theorem dX11_planned_82 : decode cX11_planned 82 = .ok (.getfield 57, 3) := by decide +kernel
theorem dX11_planned_85 : decode cX11_planned 85 = .ok (.iload_n 1, 1) := by decide +kernel
theorem dX11_planned_86 : decode cX11_planned 86 = .ok (.invokevirtual 417, 3) := by decide +kernel
theorem dX11_planned_89 : decode cX11_planned 89 = .ok (.ireturn, 1) := by decide +kernel
theorem dX11_high_0 : decode cX11_high 0 = .ok (.aload_n 0, 1) := by decide +kernel
theorem dX11_high_1 : decode cX11_high 1 = .ok (.getfield 57, 3) := by decide +kernel
theorem dX11_high_4 : decode cX11_high 4 = .ok (.getfield 405, 3) := by decide +kernel
theorem dX11_high_7 : decode cX11_high 7 = .ok (.ifCond .eq 13, 3) := by decide +kernel
theorem dX11_high_10 : decode cX11_high 10 = .ok (.aload_n 0, 1) := by decide +kernel
theorem dX11_high_11 : decode cX11_high 11 = .ok (.getfield 57, 3) := by decide +kernel
theorem dX11_high_14 : decode cX11_high 14 = .ok (.getfield 420, 3) := by decide +kernel
theorem dX11_high_17 : decode cX11_high 17 = .ok (.goto 6, 3) := by decide +kernel
theorem dX11_high_20 : decode cX11_high 20 = .ok (.ldc2_w 380, 3) := by decide +kernel
theorem dX11_high_23 : decode cX11_high 23 = .ok (.lreturn, 1) := by decide +kernel
theorem dX11_sail_0 : decode cX11_sail 0 = .ok (.aload_n 0, 1) := by decide +kernel
theorem dX11_sail_1 : decode cX11_sail 1 = .ok (.iload_n 1, 1) := by decide +kernel
theorem dX11_sail_2 : decode cX11_sail 2 = .ok (.invokevirtual 107, 3) := by decide +kernel
theorem dX11_sail_5 : decode cX11_sail 5 = .ok (.astore_n 3, 1) := by decide +kernel
theorem dX11_sail_6 : decode cX11_sail 6 = .ok (.aload_n 3, 1) := by decide +kernel
theorem dX11_sail_7 : decode cX11_sail 7 = .ok (.ifnull 18, 3) := by decide +kernel
theorem dX11_sail_10 : decode cX11_sail 10 = .ok (.iload_n 2, 1) := by decide +kernel
theorem dX11_sail_11 : decode cX11_sail 11 = .ok (.ifCond .lt 14, 3) := by decide +kernel
theorem dX11_sail_14 : decode cX11_sail 14 = .ok (.iload_n 2, 1) := by decide +kernel
theorem dX11_sail_15 : decode cX11_sail 15 = .ok (.aload_n 0, 1) := by decide +kernel
theorem dX11_sail_16 : decode cX11_sail 16 = .ok (.getfield 50, 3) := by decide +kernel
theorem dX11_sail_19 : decode cX11_sail 19 = .ok (.getfield 423, 3) := by decide +kernel
theorem dX11_sail_22 : decode cX11_sail 22 = .ok (.if_icmp .lt 5, 3) := by decide +kernel
theorem dX11_sail_25 : decode cX11_sail 25 = .ok (.iconst (-1), 1) := by decide +kernel
theorem dX11_sail_26 : decode cX11_sail 26 = .ok (.ireturn, 1) := by decide +kernel
theorem dX11_sail_27 : decode cX11_sail 27 = .ok (.aload_n 3, 1) := by decide +kernel
theorem dX11_sail_28 : decode cX11_sail 28 = .ok (.getfield 424, 3) := by decide +kernel
theorem dX11_sail_31 : decode cX11_sail 31 = .ok (.iload_n 2, 1) := by decide +kernel
theorem dX11_sail_32 : decode cX11_sail 32 = .ok (.ishr, 1) := by decide +kernel
theorem dX11_sail_33 : decode cX11_sail 33 = .ok (.iconst 1, 1) := by decide +kernel
theorem dX11_sail_34 : decode cX11_sail 34 = .ok (.iand, 1) := by decide +kernel
theorem dX11_sail_35 : decode cX11_sail 35 = .ok (.ifCond .ne 19, 3) := by decide +kernel
theorem dX11_sail_38 : decode cX11_sail 38 = .ok (.aload_n 0, 1) := by decide +kernel
theorem dX11_sail_39 : decode cX11_sail 39 = .ok (.getfield 50, 3) := by decide +kernel
theorem dX11_sail_42 : decode cX11_sail 42 = .ok (.getfield 427, 3) := by decide +kernel
theorem dX11_sail_45 : decode cX11_sail 45 = .ok (.iload_n 2, 1) := by decide +kernel
theorem dX11_sail_46 : decode cX11_sail 46 = .ok (.iaload, 1) := by decide +kernel
theorem dX11_sail_47 : decode cX11_sail 47 = .ok (.aload_n 0, 1) := by decide +kernel
theorem dX11_sail_48 : decode cX11_sail 48 = .ok (.getfield 75, 3) := by decide +kernel
theorem dX11_sail_51 : decode cX11_sail 51 = .ok (.if_icmp .ge 5, 3) := by decide +kernel
theorem dX11_sail_54 : decode cX11_sail 54 = .ok (.iconst (-1), 1) := by decide +kernel
theorem dX11_sail_55 : decode cX11_sail 55 = .ok (.ireturn, 1) := by decide +kernel
theorem dX11_sail_56 : decode cX11_sail 56 = .ok (.aload_n 3, 1) := by decide +kernel
theorem dX11_sail_57 : decode cX11_sail 57 = .ok (.dup, 1) := by decide +kernel
theorem dX11_sail_58 : decode cX11_sail 58 = .ok (.getfield 424, 3) := by decide +kernel
theorem dX11_sail_61 : decode cX11_sail 61 = .ok (.iconst 1, 1) := by decide +kernel
theorem dX11_sail_62 : decode cX11_sail 62 = .ok (.iload_n 2, 1) := by decide +kernel
theorem dX11_sail_63 : decode cX11_sail 63 = .ok (.ishl, 1) := by decide +kernel
theorem dX11_sail_64 : decode cX11_sail 64 = .ok (.ior, 1) := by decide +kernel
theorem dX11_sail_65 : decode cX11_sail 65 = .ok (.putfield 424, 3) := by decide +kernel
theorem dX11_sail_68 : decode cX11_sail 68 = .ok (.aload_n 0, 1) := by decide +kernel
theorem dX11_sail_69 : decode cX11_sail 69 = .ok (.getfield 50, 3) := by decide +kernel
theorem dX11_sail_72 : decode cX11_sail 72 = .ok (.getfield 430, 3) := by decide +kernel
theorem dX11_sail_75 : decode cX11_sail 75 = .ok (.iload_n 2, 1) := by decide +kernel
theorem dX11_sail_76 : decode cX11_sail 76 = .ok (.iaload, 1) := by decide +kernel
theorem dX11_sail_77 : decode cX11_sail 77 = .ok (.istore 4, 2) := by decide +kernel
theorem dX11_sail_79 : decode cX11_sail 79 = .ok (.aload_n 0, 1) := by decide +kernel
theorem dX11_sail_80 : decode cX11_sail 80 = .ok (.getfield 50, 3) := by decide +kernel
theorem dX11_sail_83 : decode cX11_sail 83 = .ok (.iload_n 2, 1) := by decide +kernel
theorem dX11_sail_84 : decode cX11_sail 84 = .ok (.invokevirtual 433, 3) := by decide +kernel
theorem dX11_sail_87 : decode cX11_sail 87 = .ok (.istore 5, 2) := by decide +kernel
theorem dX11_sail_89 : decode cX11_sail 89 = .ok (.aload_n 0, 1) := by decide +kernel
theorem dX11_sail_90 : decode cX11_sail 90 = .ok (.getfield 50, 3) := by decide +kernel
theorem dX11_sail_93 : decode cX11_sail 93 = .ok (.iload 4, 2) := by decide +kernel
theorem dX11_sail_95 : decode cX11_sail 95 = .ok (.iload 5, 2) := by decide +kernel
theorem dX11_sail_97 : decode cX11_sail 97 = .ok (.aload_n 0, 1) := by decide +kernel
theorem dX11_sail_98 : decode cX11_sail 98 = .ok (.getfield 75, 3) := by decide +kernel
theorem dX11_sail_101 : decode cX11_sail 101 = .ok (.invokevirtual 250, 3) := by decide +kernel
theorem dX11_sail_104 : decode cX11_sail 104 = .ok (.ifCond .eq 15, 3) := by decide +kernel
theorem dX11_sail_107 : decode cX11_sail 107 = .ok (.aload_n 3, 1) := by decide +kernel
theorem dX11_sail_108 : decode cX11_sail 108 = .ok (.dup, 1) := by decide +kernel
theorem dX11_sail_109 : decode cX11_sail 109 = .ok (.getfield 436, 3) := by decide +kernel
theorem dX11_sail_112 : decode cX11_sail 112 = .ok (.iconst 1, 1) := by decide +kernel
theorem dX11_sail_113 : decode cX11_sail 113 = .ok (.iadd, 1) := by decide +kernel
theorem dX11_sail_114 : decode cX11_sail 114 = .ok (.putfield 436, 3) := by decide +kernel
theorem dX11_sail_117 : decode cX11_sail 117 = .ok (.iconst 1, 1) := by decide +kernel
theorem dX11_sail_118 : decode cX11_sail 118 = .ok (.ireturn, 1) := by decide +kernel
theorem dX11_sail_119 : decode cX11_sail 119 = .ok (.aload_n 0, 1) := by decide +kernel
theorem dX11_sail_120 : decode cX11_sail 120 = .ok (.getfield 50, 3) := by decide +kernel
theorem dX11_sail_123 : decode cX11_sail 123 = .ok (.iload 4, 2) := by decide +kernel
theorem dX11_sail_125 : decode cX11_sail 125 = .ok (.iload 5, 2) := by decide +kernel
theorem dX11_sail_127 : decode cX11_sail 127 = .ok (.invokevirtual 439, 3) := by decide +kernel
theorem dX11_sail_130 : decode cX11_sail 130 = .ok (.ifCond .eq 7, 3) := by decide +kernel
theorem dX11_sail_133 : decode cX11_sail 133 = .ok (.iconst 2, 1) := by decide +kernel
theorem dX11_sail_134 : decode cX11_sail 134 = .ok (.goto 4, 3) := by decide +kernel
theorem dX11_sail_137 : decode cX11_sail 137 = .ok (.iconst 0, 1) := by decide +kernel
theorem dX11_sail_138 : decode cX11_sail 138 = .ok (.ireturn, 1) := by decide +kernel
theorem dX11_broke_0 : decode cX11_broke 0 = .ok (.iload_n 1, 1) := by decide +kernel
theorem dX11_broke_1 : decode cX11_broke 1 = .ok (.ifCond .lt 14, 3) := by decide +kernel
theorem dX11_broke_4 : decode cX11_broke 4 = .ok (.iload_n 1, 1) := by decide +kernel
theorem dX11_broke_5 : decode cX11_broke 5 = .ok (.aload_n 0, 1) := by decide +kernel
theorem dX11_broke_6 : decode cX11_broke 6 = .ok (.getfield 10, 3) := by decide +kernel
theorem dX11_broke_9 : decode cX11_broke 9 = .ok (.invokevirtual 89, 3) := by decide +kernel
theorem dX11_broke_12 : decode cX11_broke 12 = .ok (.if_icmp .lt 7, 3) := by decide +kernel
theorem dX11_broke_15 : decode cX11_broke 15 = .ok (.iconst (-1), 1) := by decide +kernel
theorem dX11_broke_16 : decode cX11_broke 16 = .ok (.goto 17, 3) := by decide +kernel
theorem dX11_broke_19 : decode cX11_broke 19 = .ok (.aload_n 0, 1) := by decide +kernel
theorem dX11_broke_20 : decode cX11_broke 20 = .ok (.getfield 10, 3) := by decide +kernel
theorem dX11_broke_23 : decode cX11_broke 23 = .ok (.iload_n 1, 1) := by decide +kernel
theorem dX11_broke_24 : decode cX11_broke 24 = .ok (.invokevirtual 151, 3) := by decide +kernel
theorem dX11_broke_27 : decode cX11_broke 27 = .ok (.checkcast 98, 3) := by decide +kernel
theorem dX11_broke_30 : decode cX11_broke 30 = .ok (.getfield 436, 3) := by decide +kernel
theorem dX11_broke_33 : decode cX11_broke 33 = .ok (.ireturn, 1) := by decide +kernel
theorem dX11_hand_0 : decode cX11_hand 0 = .ok (.iload_n 2, 1) := by decide +kernel
theorem dX11_hand_1 : decode cX11_hand 1 = .ok (.iconst 0, 1) := by decide +kernel
theorem dX11_hand_2 : decode cX11_hand 2 = .ok (.sipush 9999, 3) := by decide +kernel
theorem dX11_hand_5 : decode cX11_hand 5 = .ok (.invokestatic 93, 3) := by decide +kernel
theorem dX11_hand_8 : decode cX11_hand 8 = .ok (.ifCond .eq 25, 3) := by decide +kernel
theorem dX11_hand_11 : decode cX11_hand 11 = .ok (.iload_n 3, 1) := by decide +kernel
theorem dX11_hand_12 : decode cX11_hand 12 = .ok (.iconst 0, 1) := by decide +kernel
theorem dX11_hand_13 : decode cX11_hand 13 = .ok (.sipush 9999, 3) := by decide +kernel
theorem dX11_hand_16 : decode cX11_hand 16 = .ok (.invokestatic 93, 3) := by decide +kernel
theorem dX11_hand_19 : decode cX11_hand 19 = .ok (.ifCond .eq 14, 3) := by decide +kernel
theorem dX11_hand_22 : decode cX11_hand 22 = .ok (.iload 4, 2) := by decide +kernel
theorem dX11_hand_24 : decode cX11_hand 24 = .ok (.iconst 1, 1) := by decide +kernel
theorem dX11_hand_25 : decode cX11_hand 25 = .ok (.bipush 8, 2) := by decide +kernel
theorem dX11_hand_27 : decode cX11_hand 27 = .ok (.invokestatic 93, 3) := by decide +kernel
theorem dX11_hand_30 : decode cX11_hand 30 = .ok (.ifCond .ne 5, 3) := by decide +kernel
theorem dX11_hand_33 : decode cX11_hand 33 = .ok (.iconst 0, 1) := by decide +kernel
theorem dX11_hand_34 : decode cX11_hand 34 = .ok (.ireturn, 1) := by decide +kernel
theorem dX11_hand_35 : decode cX11_hand 35 = .ok (.aload_n 0, 1) := by decide +kernel
theorem dX11_hand_36 : decode cX11_hand 36 = .ok (.getfield 64, 3) := by decide +kernel
theorem dX11_hand_39 : decode cX11_hand 39 = .ok (.iload_n 1, 1) := by decide +kernel
theorem dX11_hand_40 : decode cX11_hand 40 = .ok (.iload_n 2, 1) := by decide +kernel
theorem dX11_hand_41 : decode cX11_hand 41 = .ok (.iload_n 3, 1) := by decide +kernel
theorem dX11_hand_42 : decode cX11_hand 42 = .ok (.iload 4, 2) := by decide +kernel
theorem dX11_hand_44 : decode cX11_hand 44 = .ok (.invokevirtual 442, 3) := by decide +kernel
theorem dX11_hand_47 : decode cX11_hand 47 = .ok (.ireturn, 1) := by decide +kernel
theorem dX11_breakers_0 : decode cX11_breakers 0 = .ok (.iload_n 1, 1) := by decide +kernel
theorem dX11_breakers_1 : decode cX11_breakers 1 = .ok (.iconst 1, 1) := by decide +kernel
theorem dX11_breakers_2 : decode cX11_breakers 2 = .ok (.aload_n 0, 1) := by decide +kernel
theorem dX11_breakers_3 : decode cX11_breakers 3 = .ok (.getfield 64, 3) := by decide +kernel
theorem dX11_breakers_6 : decode cX11_breakers 6 = .ok (.getfield 446, 3) := by decide +kernel
theorem dX11_breakers_9 : decode cX11_breakers 9 = .ok (.invokestatic 93, 3) := by decide +kernel
theorem dX11_breakers_12 : decode cX11_breakers 12 = .ok (.ifCond .ne 5, 3) := by decide +kernel
theorem dX11_breakers_15 : decode cX11_breakers 15 = .ok (.iconst (-1), 1) := by decide +kernel
theorem dX11_breakers_16 : decode cX11_breakers 16 = .ok (.ireturn, 1) := by decide +kernel
theorem dX11_breakers_17 : decode cX11_breakers 17 = .ok (.aload_n 0, 1) := by decide +kernel
theorem dX11_breakers_18 : decode cX11_breakers 18 = .ok (.getfield 64, 3) := by decide +kernel
theorem dX11_breakers_21 : decode cX11_breakers 21 = .ok (.iload_n 1, 1) := by decide +kernel
theorem dX11_breakers_22 : decode cX11_breakers 22 = .ok (.invokevirtual 449, 3) := by decide +kernel
theorem dX11_breakers_25 : decode cX11_breakers 25 = .ok (.ireturn, 1) := by decide +kernel
theorem dX11_holds_0 : decode cX11_holds 0 = .ok (.iload_n 1, 1) := by decide +kernel
theorem dX11_holds_1 : decode cX11_holds 1 = .ok (.ifCond .lt 14, 3) := by decide +kernel
theorem dX11_holds_4 : decode cX11_holds 4 = .ok (.iload_n 1, 1) := by decide +kernel
theorem dX11_holds_5 : decode cX11_holds 5 = .ok (.aload_n 0, 1) := by decide +kernel
theorem dX11_holds_6 : decode cX11_holds 6 = .ok (.getfield 64, 3) := by decide +kernel
theorem dX11_holds_9 : decode cX11_holds 9 = .ok (.getfield 452, 3) := by decide +kernel
theorem dX11_holds_12 : decode cX11_holds 12 = .ok (.if_icmp .lt 7, 3) := by decide +kernel
theorem dX11_holds_15 : decode cX11_holds 15 = .ok (.iconst (-1), 1) := by decide +kernel
theorem dX11_holds_16 : decode cX11_holds 16 = .ok (.goto 12, 3) := by decide +kernel
theorem dX11_holds_19 : decode cX11_holds 19 = .ok (.aload_n 0, 1) := by decide +kernel
theorem dX11_holds_20 : decode cX11_holds 20 = .ok (.getfield 64, 3) := by decide +kernel
theorem dX11_holds_23 : decode cX11_holds 23 = .ok (.getfield 455, 3) := by decide +kernel
theorem dX11_holds_26 : decode cX11_holds 26 = .ok (.iload_n 1, 1) := by decide +kernel
theorem dX11_holds_27 : decode cX11_holds 27 = .ok (.iaload, 1) := by decide +kernel
theorem dX11_holds_28 : decode cX11_holds 28 = .ok (.ireturn, 1) := by decide +kernel
theorem dX11_entry_0 : decode cX11_entry 0 = .ok (.iload_n 1, 1) := by decide +kernel
theorem dX11_entry_1 : decode cX11_entry 1 = .ok (.iconst 0, 1) := by decide +kernel
theorem dX11_entry_2 : decode cX11_entry 2 = .ok (.iconst 1, 1) := by decide +kernel
theorem dX11_entry_3 : decode cX11_entry 3 = .ok (.invokestatic 93, 3) := by decide +kernel
theorem dX11_entry_6 : decode cX11_entry 6 = .ok (.ifCond .eq 36, 3) := by decide +kernel
theorem dX11_entry_9 : decode cX11_entry 9 = .ok (.iload_n 2, 1) := by decide +kernel
theorem dX11_entry_10 : decode cX11_entry 10 = .ok (.invokestatic 219, 3) := by decide +kernel
theorem dX11_entry_13 : decode cX11_entry 13 = .ok (.ifCond .eq 29, 3) := by decide +kernel
theorem dX11_entry_16 : decode cX11_entry 16 = .ok (.iload_n 3, 1) := by decide +kernel
theorem dX11_entry_17 : decode cX11_entry 17 = .ok (.ifCond .lt 25, 3) := by decide +kernel
theorem dX11_entry_20 : decode cX11_entry 20 = .ok (.iload_n 3, 1) := by decide +kernel
theorem dX11_entry_21 : decode cX11_entry 21 = .ok (.aload_n 0, 1) := by decide +kernel
theorem dX11_entry_22 : decode cX11_entry 22 = .ok (.getfield 10, 3) := by decide +kernel
theorem dX11_entry_25 : decode cX11_entry 25 = .ok (.invokevirtual 89, 3) := by decide +kernel
theorem dX11_entry_28 : decode cX11_entry 28 = .ok (.if_icmp .ge 14, 3) := by decide +kernel
theorem dX11_entry_31 : decode cX11_entry 31 = .ok (.iload 4, 2) := by decide +kernel
theorem dX11_entry_33 : decode cX11_entry 33 = .ok (.iconst 0, 1) := by decide +kernel
theorem dX11_entry_34 : decode cX11_entry 34 = .ok (.ldc 97, 2) := by decide +kernel
theorem dX11_entry_36 : decode cX11_entry 36 = .ok (.invokestatic 93, 3) := by decide +kernel
theorem dX11_entry_39 : decode cX11_entry 39 = .ok (.ifCond .ne 5, 3) := by decide +kernel
theorem dX11_entry_42 : decode cX11_entry 42 = .ok (.iconst (-1), 1) := by decide +kernel
theorem dX11_entry_43 : decode cX11_entry 43 = .ok (.ireturn, 1) := by decide +kernel
theorem dX11_entry_44 : decode cX11_entry 44 = .ok (.aload_n 0, 1) := by decide +kernel
theorem dX11_entry_45 : decode cX11_entry 45 = .ok (.getfield 71, 3) := by decide +kernel
theorem dX11_entry_48 : decode cX11_entry 48 = .ok (.iload_n 1, 1) := by decide +kernel
theorem dX11_entry_49 : decode cX11_entry 49 = .ok (.iload_n 2, 1) := by decide +kernel
theorem dX11_entry_50 : decode cX11_entry 50 = .ok (.iload_n 3, 1) := by decide +kernel
theorem dX11_entry_51 : decode cX11_entry 51 = .ok (.iload 4, 2) := by decide +kernel
theorem dX11_entry_53 : decode cX11_entry 53 = .ok (.invokevirtual 458, 3) := by decide +kernel
theorem dX11_entry_56 : decode cX11_entry 56 = .ok (.ireturn, 1) := by decide +kernel
theorem dX11_clear_0 : decode cX11_clear 0 = .ok (.aload_n 0, 1) := by decide +kernel
theorem dX11_clear_1 : decode cX11_clear 1 = .ok (.getfield 71, 3) := by decide +kernel
theorem dX11_clear_4 : decode cX11_clear 4 = .ok (.invokevirtual 459, 3) := by decide +kernel
theorem dX11_clear_7 : decode cX11_clear 7 = .ok (.ireturn, 1) := by decide +kernel
theorem dX11_join_0 : decode cX11_join 0 = .ok (.iload_n 1, 1) := by decide +kernel
theorem dX11_join_1 : decode cX11_join 1 = .ok (.iconst 0, 1) := by decide +kernel
theorem dX11_join_2 : decode cX11_join 2 = .ok (.sipush 1000, 3) := by decide +kernel
theorem dX11_join_5 : decode cX11_join 5 = .ok (.invokestatic 93, 3) := by decide +kernel
theorem dX11_join_8 : decode cX11_join 8 = .ok (.ifCond .eq 14, 3) := by decide +kernel
theorem dX11_join_11 : decode cX11_join 11 = .ok (.iload_n 2, 1) := by decide +kernel
theorem dX11_join_12 : decode cX11_join 12 = .ok (.iconst 0, 1) := by decide +kernel
theorem dX11_join_13 : decode cX11_join 13 = .ok (.sipush 1000, 3) := by decide +kernel
theorem dX11_join_16 : decode cX11_join 16 = .ok (.invokestatic 93, 3) := by decide +kernel
theorem dX11_join_19 : decode cX11_join 19 = .ok (.ifCond .ne 5, 3) := by decide +kernel
theorem dX11_join_22 : decode cX11_join 22 = .ok (.iconst (-1), 1) := by decide +kernel
theorem dX11_join_23 : decode cX11_join 23 = .ok (.ireturn, 1) := by decide +kernel
theorem dX11_join_24 : decode cX11_join 24 = .ok (.aload_n 0, 1) := by decide +kernel
theorem dX11_join_25 : decode cX11_join 25 = .ok (.getfield 71, 3) := by decide +kernel
theorem dX11_join_28 : decode cX11_join 28 = .ok (.iload_n 1, 1) := by decide +kernel
theorem dX11_join_29 : decode cX11_join 29 = .ok (.iload_n 2, 1) := by decide +kernel
theorem dX11_join_30 : decode cX11_join 30 = .ok (.invokevirtual 462, 3) := by decide +kernel
theorem dX11_join_33 : decode cX11_join 33 = .ok (.ireturn, 1) := by decide +kernel
theorem dX11_joined_0 : decode cX11_joined 0 = .ok (.aload_n 0, 1) := by decide +kernel
theorem dX11_joined_1 : decode cX11_joined 1 = .ok (.getfield 71, 3) := by decide +kernel
theorem dX11_joined_4 : decode cX11_joined 4 = .ok (.getfield 465, 3) := by decide +kernel
theorem dX11_joined_7 : decode cX11_joined 7 = .ok (.ifCond .eq 22, 3) := by decide +kernel
theorem dX11_joined_10 : decode cX11_joined 10 = .ok (.iload_n 1, 1) := by decide +kernel
theorem dX11_joined_11 : decode cX11_joined 11 = .ok (.bipush (-2), 2) := by decide +kernel
theorem dX11_joined_13 : decode cX11_joined 13 = .ok (.if_icmp .lt 16, 3) := by decide +kernel
theorem dX11_joined_16 : decode cX11_joined 16 = .ok (.iload_n 1, 1) := by decide +kernel
theorem dX11_joined_17 : decode cX11_joined 17 = .ok (.aload_n 0, 1) := by decide +kernel
theorem dX11_joined_18 : decode cX11_joined 18 = .ok (.getfield 71, 3) := by decide +kernel
theorem dX11_joined_21 : decode cX11_joined 21 = .ok (.getfield 468, 3) := by decide +kernel
theorem dX11_joined_24 : decode cX11_joined 24 = .ok (.iconst 0, 1) := by decide +kernel
theorem dX11_joined_25 : decode cX11_joined 25 = .ok (.iaload, 1) := by decide +kernel
theorem dX11_joined_26 : decode cX11_joined 26 = .ok (.if_icmp .lt 5, 3) := by decide +kernel
theorem dX11_joined_29 : decode cX11_joined 29 = .ok (.iconst (-1), 1) := by decide +kernel
theorem dX11_joined_30 : decode cX11_joined 30 = .ok (.ireturn, 1) := by decide +kernel
theorem dX11_joined_31 : decode cX11_joined 31 = .ok (.iload_n 1, 1) := by decide +kernel
theorem dX11_joined_32 : decode cX11_joined 32 = .ok (.iconst (-1), 1) := by decide +kernel
theorem dX11_joined_33 : decode cX11_joined 33 = .ok (.if_icmp .ne 11, 3) := by decide +kernel
theorem dX11_joined_36 : decode cX11_joined 36 = .ok (.aload_n 0, 1) := by decide +kernel
theorem dX11_joined_37 : decode cX11_joined 37 = .ok (.getfield 71, 3) := by decide +kernel
theorem dX11_joined_40 : decode cX11_joined 40 = .ok (.getfield 471, 3) := by decide +kernel
theorem dX11_joined_43 : decode cX11_joined 43 = .ok (.ireturn, 1) := by decide +kernel
theorem dX11_joined_44 : decode cX11_joined 44 = .ok (.iload_n 1, 1) := by decide +kernel
theorem dX11_joined_45 : decode cX11_joined 45 = .ok (.bipush (-2), 2) := by decide +kernel
theorem dX11_joined_47 : decode cX11_joined 47 = .ok (.if_icmp .ne 13, 3) := by decide +kernel
theorem dX11_joined_50 : decode cX11_joined 50 = .ok (.aload_n 0, 1) := by decide +kernel
theorem dX11_joined_51 : decode cX11_joined 51 = .ok (.getfield 71, 3) := by decide +kernel
theorem dX11_joined_54 : decode cX11_joined 54 = .ok (.getfield 474, 3) := by decide +kernel
theorem dX11_joined_57 : decode cX11_joined 57 = .ok (.goto 12, 3) := by decide +kernel
theorem dX11_joined_60 : decode cX11_joined 60 = .ok (.aload_n 0, 1) := by decide +kernel
theorem dX11_joined_61 : decode cX11_joined 61 = .ok (.getfield 71, 3) := by decide +kernel
theorem dX11_joined_64 : decode cX11_joined 64 = .ok (.getfield 477, 3) := by decide +kernel
theorem dX11_joined_67 : decode cX11_joined 67 = .ok (.iload_n 1, 1) := by decide +kernel
theorem dX11_joined_68 : decode cX11_joined 68 = .ok (.iaload, 1) := by decide +kernel
theorem dX11_joined_69 : decode cX11_joined 69 = .ok (.ireturn, 1) := by decide +kernel
theorem dX11_count_0 : decode cX11_count 0 = .ok (.iload_n 1, 1) := by decide +kernel
theorem dX11_count_1 : decode cX11_count 1 = .ok (.tableswitch 197 0 13 #[71, 77, 86, 95, 107, 116, 125, 134, 143, 152, 161, 170, 181, 192], 71) := by decide +kernel
theorem dX11_count_72 : decode cX11_count 72 = .ok (.aload_n 0, 1) := by decide +kernel
theorem dX11_count_73 : decode cX11_count 73 = .ok (.getfield 75, 3) := by decide +kernel
theorem dX11_count_76 : decode cX11_count 76 = .ok (.i2l, 1) := by decide +kernel
theorem dX11_count_77 : decode cX11_count 77 = .ok (.lreturn, 1) := by decide +kernel
theorem dX11_count_78 : decode cX11_count 78 = .ok (.aload_n 0, 1) := by decide +kernel
theorem dX11_count_79 : decode cX11_count 79 = .ok (.getfield 10, 3) := by decide +kernel
theorem dX11_count_82 : decode cX11_count 82 = .ok (.invokevirtual 89, 3) := by decide +kernel
theorem dX11_count_85 : decode cX11_count 85 = .ok (.i2l, 1) := by decide +kernel
theorem dX11_count_86 : decode cX11_count 86 = .ok (.lreturn, 1) := by decide +kernel
theorem dX11_count_87 : decode cX11_count 87 = .ok (.aload_n 0, 1) := by decide +kernel
theorem dX11_count_88 : decode cX11_count 88 = .ok (.getfield 16, 3) := by decide +kernel
theorem dX11_count_91 : decode cX11_count 91 = .ok (.invokevirtual 89, 3) := by decide +kernel
theorem dX11_count_94 : decode cX11_count 94 = .ok (.i2l, 1) := by decide +kernel
theorem dX11_count_95 : decode cX11_count 95 = .ok (.lreturn, 1) := by decide +kernel
theorem dX11_count_96 : decode cX11_count 96 = .ok (.aload_n 0, 1) := by decide +kernel
theorem dX11_count_97 : decode cX11_count 97 = .ok (.getfield 36, 3) := by decide +kernel
theorem dX11_count_100 : decode cX11_count 100 = .ok (.getfield 191, 3) := by decide +kernel
theorem dX11_count_103 : decode cX11_count 103 = .ok (.invokevirtual 89, 3) := by decide +kernel
theorem dX11_count_106 : decode cX11_count 106 = .ok (.i2l, 1) := by decide +kernel
theorem dX11_count_107 : decode cX11_count 107 = .ok (.lreturn, 1) := by decide +kernel
theorem dX11_count_108 : decode cX11_count 108 = .ok (.aload_n 0, 1) := by decide +kernel
theorem dX11_count_109 : decode cX11_count 109 = .ok (.getfield 19, 3) := by decide +kernel
theorem dX11_count_112 : decode cX11_count 112 = .ok (.invokevirtual 89, 3) := by decide +kernel
theorem dX11_count_115 : decode cX11_count 115 = .ok (.i2l, 1) := by decide +kernel
theorem dX11_count_116 : decode cX11_count 116 = .ok (.lreturn, 1) := by decide +kernel
theorem dX11_count_117 : decode cX11_count 117 = .ok (.aload_n 0, 1) := by decide +kernel
theorem dX11_count_118 : decode cX11_count 118 = .ok (.getfield 43, 3) := by decide +kernel
theorem dX11_count_121 : decode cX11_count 121 = .ok (.getfield 480, 3) := by decide +kernel
theorem dX11_count_124 : decode cX11_count 124 = .ok (.i2l, 1) := by decide +kernel
theorem dX11_count_125 : decode cX11_count 125 = .ok (.lreturn, 1) := by decide +kernel
theorem dX11_count_126 : decode cX11_count 126 = .ok (.aload_n 0, 1) := by decide +kernel
theorem dX11_count_127 : decode cX11_count 127 = .ok (.getfield 50, 3) := by decide +kernel
theorem dX11_count_130 : decode cX11_count 130 = .ok (.getfield 423, 3) := by decide +kernel
theorem dX11_count_133 : decode cX11_count 133 = .ok (.i2l, 1) := by decide +kernel
theorem dX11_count_134 : decode cX11_count 134 = .ok (.lreturn, 1) := by decide +kernel
theorem dX11_count_135 : decode cX11_count 135 = .ok (.aload_n 0, 1) := by decide +kernel
theorem dX11_count_136 : decode cX11_count 136 = .ok (.getfield 50, 3) := by decide +kernel
theorem dX11_count_139 : decode cX11_count 139 = .ok (.getfield 483, 3) := by decide +kernel
theorem dX11_count_142 : decode cX11_count 142 = .ok (.i2l, 1) := by decide +kernel
theorem dX11_count_143 : decode cX11_count 143 = .ok (.lreturn, 1) := by decide +kernel
theorem dX11_count_144 : decode cX11_count 144 = .ok (.aload_n 0, 1) := by decide +kernel
theorem dX11_count_145 : decode cX11_count 145 = .ok (.getfield 50, 3) := by decide +kernel
theorem dX11_count_148 : decode cX11_count 148 = .ok (.getfield 486, 3) := by decide +kernel
theorem dX11_count_151 : decode cX11_count 151 = .ok (.i2l, 1) := by decide +kernel
theorem dX11_count_152 : decode cX11_count 152 = .ok (.lreturn, 1) := by decide +kernel
theorem dX11_count_153 : decode cX11_count 153 = .ok (.aload_n 0, 1) := by decide +kernel
theorem dX11_count_154 : decode cX11_count 154 = .ok (.getfield 29, 3) := by decide +kernel
theorem dX11_count_157 : decode cX11_count 157 = .ok (.getfield 188, 3) := by decide +kernel
theorem dX11_count_160 : decode cX11_count 160 = .ok (.i2l, 1) := by decide +kernel
theorem dX11_count_161 : decode cX11_count 161 = .ok (.lreturn, 1) := by decide +kernel
theorem dX11_count_162 : decode cX11_count 162 = .ok (.aload_n 0, 1) := by decide +kernel
theorem dX11_count_163 : decode cX11_count 163 = .ok (.getfield 64, 3) := by decide +kernel
theorem dX11_count_166 : decode cX11_count 166 = .ok (.getfield 446, 3) := by decide +kernel
theorem dX11_count_169 : decode cX11_count 169 = .ok (.i2l, 1) := by decide +kernel
theorem dX11_count_170 : decode cX11_count 170 = .ok (.lreturn, 1) := by decide +kernel
theorem dX11_count_171 : decode cX11_count 171 = .ok (.aload_n 0, 1) := by decide +kernel
theorem dX11_count_172 : decode cX11_count 172 = .ok (.getfield 71, 3) := by decide +kernel
theorem dX11_count_175 : decode cX11_count 175 = .ok (.getfield 468, 3) := by decide +kernel
theorem dX11_count_178 : decode cX11_count 178 = .ok (.iconst 0, 1) := by decide +kernel
theorem dX11_count_179 : decode cX11_count 179 = .ok (.iaload, 1) := by decide +kernel
theorem dX11_count_180 : decode cX11_count 180 = .ok (.i2l, 1) := by decide +kernel
theorem dX11_count_181 : decode cX11_count 181 = .ok (.lreturn, 1) := by decide +kernel
theorem dX11_count_182 : decode cX11_count 182 = .ok (.aload_n 0, 1) := by decide +kernel
theorem dX11_count_183 : decode cX11_count 183 = .ok (.getfield 71, 3) := by decide +kernel
theorem dX11_count_186 : decode cX11_count 186 = .ok (.getfield 468, 3) := by decide +kernel
theorem dX11_count_189 : decode cX11_count 189 = .ok (.iconst 1, 1) := by decide +kernel
theorem dX11_count_190 : decode cX11_count 190 = .ok (.iaload, 1) := by decide +kernel
theorem dX11_count_191 : decode cX11_count 191 = .ok (.i2l, 1) := by decide +kernel
theorem dX11_count_192 : decode cX11_count 192 = .ok (.lreturn, 1) := by decide +kernel
theorem dX11_count_193 : decode cX11_count 193 = .ok (.aload_n 0, 1) := by decide +kernel
theorem dX11_count_194 : decode cX11_count 194 = .ok (.invokevirtual 489, 3) := by decide +kernel
theorem dX11_count_197 : decode cX11_count 197 = .ok (.lreturn, 1) := by decide +kernel
theorem dX11_count_198 : decode cX11_count 198 = .ok (.ldc2_w 380, 3) := by decide +kernel
theorem dX11_count_201 : decode cX11_count 201 = .ok (.lreturn, 1) := by decide +kernel
theorem dX11_within_0 : decode cX11_within 0 = .ok (.iload_n 0, 1) := by decide +kernel
theorem dX11_within_1 : decode cX11_within 1 = .ok (.iload_n 1, 1) := by decide +kernel
theorem dX11_within_2 : decode cX11_within 2 = .ok (.if_icmp .lt 12, 3) := by decide +kernel
theorem dX11_within_5 : decode cX11_within 5 = .ok (.iload_n 0, 1) := by decide +kernel
theorem dX11_within_6 : decode cX11_within 6 = .ok (.iload_n 2, 1) := by decide +kernel
theorem dX11_within_7 : decode cX11_within 7 = .ok (.if_icmp .gt 7, 3) := by decide +kernel
theorem dX11_within_10 : decode cX11_within 10 = .ok (.iconst 1, 1) := by decide +kernel
theorem dX11_within_11 : decode cX11_within 11 = .ok (.goto 4, 3) := by decide +kernel
theorem dX11_within_14 : decode cX11_within 14 = .ok (.iconst 0, 1) := by decide +kernel
theorem dX11_within_15 : decode cX11_within 15 = .ok (.ireturn, 1) := by decide +kernel
theorem dX11_isDay_0 : decode cX11_isDay 0 = .ok (.iload_n 0, 1) := by decide +kernel
theorem dX11_isDay_1 : decode cX11_isDay 1 = .ok (.ifCond .lt 14, 3) := by decide +kernel
theorem dX11_isDay_4 : decode cX11_isDay 4 = .ok (.iload_n 0, 1) := by decide +kernel
theorem dX11_isDay_5 : decode cX11_isDay 5 = .ok (.sipush 3999, 3) := by decide +kernel
theorem dX11_isDay_8 : decode cX11_isDay 8 = .ok (.if_icmp .gt 7, 3) := by decide +kernel
theorem dX11_isDay_11 : decode cX11_isDay 11 = .ok (.iconst 1, 1) := by decide +kernel
theorem dX11_isDay_12 : decode cX11_isDay 12 = .ok (.goto 4, 3) := by decide +kernel
theorem dX11_isDay_15 : decode cX11_isDay 15 = .ok (.iconst 0, 1) := by decide +kernel
theorem dX11_isDay_16 : decode cX11_isDay 16 = .ok (.ireturn, 1) := by decide +kernel
theorem dX11_isTown_0 : decode cX11_isTown 0 = .ok (.iload_n 0, 1) := by decide +kernel
theorem dX11_isTown_1 : decode cX11_isTown 1 = .ok (.ifCond .lt 13, 3) := by decide +kernel
theorem dX11_isTown_4 : decode cX11_isTown 4 = .ok (.iload_n 0, 1) := by decide +kernel
theorem dX11_isTown_5 : decode cX11_isTown 5 = .ok (.bipush 8, 2) := by decide +kernel
theorem dX11_isTown_7 : decode cX11_isTown 7 = .ok (.if_icmp .ge 7, 3) := by decide +kernel
theorem dX11_isTown_10 : decode cX11_isTown 10 = .ok (.iconst 1, 1) := by decide +kernel
theorem dX11_isTown_11 : decode cX11_isTown 11 = .ok (.goto 4, 3) := by decide +kernel
theorem dX11_isTown_14 : decode cX11_isTown 14 = .ok (.iconst 0, 1) := by decide +kernel
theorem dX11_isTown_15 : decode cX11_isTown 15 = .ok (.ireturn, 1) := by decide +kernel
theorem dX11_isKind_0 : decode cX11_isKind 0 = .ok (.iload_n 0, 1) := by decide +kernel
theorem dX11_isKind_1 : decode cX11_isKind 1 = .ok (.ifCond .lt 13, 3) := by decide +kernel
theorem dX11_isKind_4 : decode cX11_isKind 4 = .ok (.iload_n 0, 1) := by decide +kernel
theorem dX11_isKind_5 : decode cX11_isKind 5 = .ok (.bipush 8, 2) := by decide +kernel
theorem dX11_isKind_7 : decode cX11_isKind 7 = .ok (.if_icmp .ge 7, 3) := by decide +kernel
theorem dX11_isKind_10 : decode cX11_isKind 10 = .ok (.iconst 1, 1) := by decide +kernel
theorem dX11_isKind_11 : decode cX11_isKind 11 = .ok (.goto 4, 3) := by decide +kernel
theorem dX11_isKind_14 : decode cX11_isKind 14 = .ok (.iconst 0, 1) := by decide +kernel
theorem dX11_isKind_15 : decode cX11_isKind 15 = .ok (.ireturn, 1) := by decide +kernel
theorem dX11_manThere_0 : decode cX11_manThere 0 = .ok (.iload_n 1, 1) := by decide +kernel
theorem dX11_manThere_1 : decode cX11_manThere 1 = .ok (.ifCond .lt 32, 3) := by decide +kernel
theorem dX11_manThere_4 : decode cX11_manThere 4 = .ok (.iload_n 1, 1) := by decide +kernel
theorem dX11_manThere_5 : decode cX11_manThere 5 = .ok (.aload_n 0, 1) := by decide +kernel
theorem dX11_manThere_6 : decode cX11_manThere 6 = .ok (.getfield 10, 3) := by decide +kernel
theorem dX11_manThere_9 : decode cX11_manThere 9 = .ok (.invokevirtual 89, 3) := by decide +kernel
theorem dX11_manThere_12 : decode cX11_manThere 12 = .ok (.if_icmp .ge 21, 3) := by decide +kernel
theorem dX11_manThere_15 : decode cX11_manThere 15 = .ok (.aload_n 0, 1) := by decide +kernel
theorem dX11_manThere_16 : decode cX11_manThere 16 = .ok (.getfield 10, 3) := by decide +kernel
theorem dX11_manThere_19 : decode cX11_manThere 19 = .ok (.iload_n 1, 1) := by decide +kernel
theorem dX11_manThere_20 : decode cX11_manThere 20 = .ok (.invokevirtual 151, 3) := by decide +kernel
theorem dX11_manThere_23 : decode cX11_manThere 23 = .ok (.checkcast 98, 3) := by decide +kernel
theorem dX11_manThere_26 : decode cX11_manThere 26 = .ok (.getfield 111, 3) := by decide +kernel
theorem dX11_manThere_29 : decode cX11_manThere 29 = .ok (.iconst (-1), 1) := by decide +kernel
theorem dX11_manThere_30 : decode cX11_manThere 30 = .ok (.if_icmp .eq 5, 3) := by decide +kernel
theorem dX11_manThere_33 : decode cX11_manThere 33 = .ok (.aconst_null, 1) := by decide +kernel
theorem dX11_manThere_34 : decode cX11_manThere 34 = .ok (.areturn, 1) := by decide +kernel
theorem dX11_manThere_35 : decode cX11_manThere 35 = .ok (.aload_n 0, 1) := by decide +kernel
theorem dX11_manThere_36 : decode cX11_manThere 36 = .ok (.getfield 10, 3) := by decide +kernel
theorem dX11_manThere_39 : decode cX11_manThere 39 = .ok (.iload_n 1, 1) := by decide +kernel
theorem dX11_manThere_40 : decode cX11_manThere 40 = .ok (.invokevirtual 151, 3) := by decide +kernel
theorem dX11_manThere_43 : decode cX11_manThere 43 = .ok (.checkcast 98, 3) := by decide +kernel
theorem dX11_manThere_46 : decode cX11_manThere 46 = .ok (.areturn, 1) := by decide +kernel
theorem dX11_bargainAt_0 : decode cX11_bargainAt 0 = .ok (.iload_n 1, 1) := by decide +kernel
theorem dX11_bargainAt_1 : decode cX11_bargainAt 1 = .ok (.ifCond .lt 14, 3) := by decide +kernel
theorem dX11_bargainAt_4 : decode cX11_bargainAt 4 = .ok (.iload_n 1, 1) := by decide +kernel
theorem dX11_bargainAt_5 : decode cX11_bargainAt 5 = .ok (.aload_n 0, 1) := by decide +kernel
theorem dX11_bargainAt_6 : decode cX11_bargainAt 6 = .ok (.getfield 19, 3) := by decide +kernel
theorem dX11_bargainAt_9 : decode cX11_bargainAt 9 = .ok (.invokevirtual 89, 3) := by decide +kernel
theorem dX11_bargainAt_12 : decode cX11_bargainAt 12 = .ok (.if_icmp .lt 7, 3) := by decide +kernel
theorem dX11_bargainAt_15 : decode cX11_bargainAt 15 = .ok (.aconst_null, 1) := by decide +kernel
theorem dX11_bargainAt_16 : decode cX11_bargainAt 16 = .ok (.goto 14, 3) := by decide +kernel
theorem dX11_bargainAt_19 : decode cX11_bargainAt 19 = .ok (.aload_n 0, 1) := by decide +kernel
theorem dX11_bargainAt_20 : decode cX11_bargainAt 20 = .ok (.getfield 19, 3) := by decide +kernel
theorem dX11_bargainAt_23 : decode cX11_bargainAt 23 = .ok (.iload_n 1, 1) := by decide +kernel
theorem dX11_bargainAt_24 : decode cX11_bargainAt 24 = .ok (.invokevirtual 151, 3) := by decide +kernel
theorem dX11_bargainAt_27 : decode cX11_bargainAt 27 = .ok (.checkcast 256, 3) := by decide +kernel
theorem dX11_bargainAt_30 : decode cX11_bargainAt 30 = .ok (.areturn, 1) := by decide +kernel
theorem dX11_allCoins_0 : decode cX11_allCoins 0 = .ok (.aload_n 0, 1) := by decide +kernel
theorem dX11_allCoins_1 : decode cX11_allCoins 1 = .ok (.getfield 79, 3) := by decide +kernel
theorem dX11_allCoins_4 : decode cX11_allCoins 4 = .ok (.lstore_n 1, 1) := by decide +kernel
theorem dX11_allCoins_5 : decode cX11_allCoins 5 = .ok (.iconst 0, 1) := by decide +kernel
theorem dX11_allCoins_6 : decode cX11_allCoins 6 = .ok (.istore_n 3, 1) := by decide +kernel
theorem dX11_allCoins_7 : decode cX11_allCoins 7 = .ok (.iload_n 3, 1) := by decide +kernel
theorem dX11_allCoins_8 : decode cX11_allCoins 8 = .ok (.aload_n 0, 1) := by decide +kernel
theorem dX11_allCoins_9 : decode cX11_allCoins 9 = .ok (.getfield 10, 3) := by decide +kernel
theorem dX11_allCoins_12 : decode cX11_allCoins 12 = .ok (.invokevirtual 89, 3) := by decide +kernel
theorem dX11_allCoins_15 : decode cX11_allCoins 15 = .ok (.if_icmp .ge 27, 3) := by decide +kernel
theorem dX11_allCoins_18 : decode cX11_allCoins 18 = .ok (.lload_n 1, 1) := by decide +kernel
theorem dX11_allCoins_19 : decode cX11_allCoins 19 = .ok (.aload_n 0, 1) := by decide +kernel
theorem dX11_allCoins_20 : decode cX11_allCoins 20 = .ok (.getfield 10, 3) := by decide +kernel
theorem dX11_allCoins_23 : decode cX11_allCoins 23 = .ok (.iload_n 3, 1) := by decide +kernel
theorem dX11_allCoins_24 : decode cX11_allCoins 24 = .ok (.invokevirtual 151, 3) := by decide +kernel
theorem dX11_allCoins_27 : decode cX11_allCoins 27 = .ok (.checkcast 98, 3) := by decide +kernel
theorem dX11_allCoins_30 : decode cX11_allCoins 30 = .ok (.getfield 128, 3) := by decide +kernel
theorem dX11_allCoins_33 : decode cX11_allCoins 33 = .ok (.i2l, 1) := by decide +kernel
theorem dX11_allCoins_34 : decode cX11_allCoins 34 = .ok (.ladd, 1) := by decide +kernel
theorem dX11_allCoins_35 : decode cX11_allCoins 35 = .ok (.lstore_n 1, 1) := by decide +kernel
theorem dX11_allCoins_36 : decode cX11_allCoins 36 = .ok (.iinc 3 1, 3) := by decide +kernel
theorem dX11_allCoins_39 : decode cX11_allCoins 39 = .ok (.goto (-32), 3) := by decide +kernel
theorem dX11_allCoins_42 : decode cX11_allCoins 42 = .ok (.iconst 0, 1) := by decide +kernel
theorem dX11_allCoins_43 : decode cX11_allCoins 43 = .ok (.istore_n 3, 1) := by decide +kernel
theorem dX11_allCoins_44 : decode cX11_allCoins 44 = .ok (.iload_n 3, 1) := by decide +kernel
theorem dX11_allCoins_45 : decode cX11_allCoins 45 = .ok (.bipush 10, 2) := by decide +kernel
theorem dX11_allCoins_47 : decode cX11_allCoins 47 = .ok (.if_icmp .ge 19, 3) := by decide +kernel
theorem dX11_allCoins_50 : decode cX11_allCoins 50 = .ok (.lload_n 1, 1) := by decide +kernel
theorem dX11_allCoins_51 : decode cX11_allCoins 51 = .ok (.aload_n 0, 1) := by decide +kernel
theorem dX11_allCoins_52 : decode cX11_allCoins 52 = .ok (.getfield 22, 3) := by decide +kernel
theorem dX11_allCoins_55 : decode cX11_allCoins 55 = .ok (.iload_n 3, 1) := by decide +kernel
theorem dX11_allCoins_56 : decode cX11_allCoins 56 = .ok (.iaload, 1) := by decide +kernel
theorem dX11_allCoins_57 : decode cX11_allCoins 57 = .ok (.i2l, 1) := by decide +kernel
theorem dX11_allCoins_58 : decode cX11_allCoins 58 = .ok (.ladd, 1) := by decide +kernel
theorem dX11_allCoins_59 : decode cX11_allCoins 59 = .ok (.lstore_n 1, 1) := by decide +kernel
theorem dX11_allCoins_60 : decode cX11_allCoins 60 = .ok (.iinc 3 1, 3) := by decide +kernel
theorem dX11_allCoins_63 : decode cX11_allCoins 63 = .ok (.goto (-19), 3) := by decide +kernel
theorem dX11_allCoins_66 : decode cX11_allCoins 66 = .ok (.lload_n 1, 1) := by decide +kernel
theorem dX11_allCoins_67 : decode cX11_allCoins 67 = .ok (.lreturn, 1) := by decide +kernel
theorem dX11_give_0 : decode cX11_give 0 = .ok (.iload_n 1, 1) := by decide +kernel
theorem dX11_give_1 : decode cX11_give 1 = .ok (.iconst (-1), 1) := by decide +kernel
theorem dX11_give_2 : decode cX11_give 2 = .ok (.if_icmp .ne 16, 3) := by decide +kernel
theorem dX11_give_5 : decode cX11_give 5 = .ok (.aload_n 0, 1) := by decide +kernel
theorem dX11_give_6 : decode cX11_give 6 = .ok (.getfield 22, 3) := by decide +kernel
theorem dX11_give_9 : decode cX11_give 9 = .ok (.iload_n 2, 1) := by decide +kernel
theorem dX11_give_10 : decode cX11_give 10 = .ok (.dup2, 1) := by decide +kernel
theorem dX11_give_11 : decode cX11_give 11 = .ok (.iaload, 1) := by decide +kernel
theorem dX11_give_12 : decode cX11_give 12 = .ok (.iload_n 3, 1) := by decide +kernel
theorem dX11_give_13 : decode cX11_give 13 = .ok (.iadd, 1) := by decide +kernel
theorem dX11_give_14 : decode cX11_give 14 = .ok (.iastore, 1) := by decide +kernel
theorem dX11_give_15 : decode cX11_give 15 = .ok (.goto 28, 3) := by decide +kernel
theorem dX11_give_18 : decode cX11_give 18 = .ok (.aload_n 0, 1) := by decide +kernel
theorem dX11_give_19 : decode cX11_give 19 = .ok (.dup, 1) := by decide +kernel
theorem dX11_give_20 : decode cX11_give 20 = .ok (.getfield 79, 3) := by decide +kernel
theorem dX11_give_23 : decode cX11_give 23 = .ok (.aload_n 0, 1) := by decide +kernel
theorem dX11_give_24 : decode cX11_give 24 = .ok (.getfield 10, 3) := by decide +kernel
theorem dX11_give_27 : decode cX11_give 27 = .ok (.iload_n 1, 1) := by decide +kernel
theorem dX11_give_28 : decode cX11_give 28 = .ok (.invokevirtual 151, 3) := by decide +kernel
theorem dX11_give_31 : decode cX11_give 31 = .ok (.checkcast 98, 3) := by decide +kernel
theorem dX11_give_34 : decode cX11_give 34 = .ok (.iload_n 3, 1) := by decide +kernel
theorem dX11_give_35 : decode cX11_give 35 = .ok (.invokevirtual 493, 3) := by decide +kernel
theorem dX11_give_38 : decode cX11_give 38 = .ok (.i2l, 1) := by decide +kernel
theorem dX11_give_39 : decode cX11_give 39 = .ok (.ladd, 1) := by decide +kernel
theorem dX11_give_40 : decode cX11_give 40 = .ok (.putfield 79, 3) := by decide +kernel
theorem dX11_give_43 : decode cX11_give 43 = .ok (.return_, 1) := by decide +kernel
theorem dX11_owedBy_0 : decode cX11_owedBy 0 = .ok (.iconst 0, 1) := by decide +kernel
theorem dX11_owedBy_1 : decode cX11_owedBy 1 = .ok (.istore_n 3, 1) := by decide +kernel
theorem dX11_owedBy_2 : decode cX11_owedBy 2 = .ok (.iconst 0, 1) := by decide +kernel
theorem dX11_owedBy_3 : decode cX11_owedBy 3 = .ok (.istore 4, 2) := by decide +kernel
theorem dX11_owedBy_5 : decode cX11_owedBy 5 = .ok (.iload 4, 2) := by decide +kernel
theorem dX11_owedBy_7 : decode cX11_owedBy 7 = .ok (.aload_n 0, 1) := by decide +kernel
theorem dX11_owedBy_8 : decode cX11_owedBy 8 = .ok (.getfield 19, 3) := by decide +kernel
theorem dX11_owedBy_11 : decode cX11_owedBy 11 = .ok (.invokevirtual 89, 3) := by decide +kernel
theorem dX11_owedBy_14 : decode cX11_owedBy 14 = .ok (.if_icmp .ge 64, 3) := by decide +kernel
theorem dX11_owedBy_17 : decode cX11_owedBy 17 = .ok (.aload_n 0, 1) := by decide +kernel
theorem dX11_owedBy_18 : decode cX11_owedBy 18 = .ok (.getfield 19, 3) := by decide +kernel
theorem dX11_owedBy_21 : decode cX11_owedBy 21 = .ok (.iload 4, 2) := by decide +kernel
theorem dX11_owedBy_23 : decode cX11_owedBy 23 = .ok (.invokevirtual 151, 3) := by decide +kernel
theorem dX11_owedBy_26 : decode cX11_owedBy 26 = .ok (.checkcast 256, 3) := by decide +kernel
theorem dX11_owedBy_29 : decode cX11_owedBy 29 = .ok (.astore 5, 2) := by decide +kernel
theorem dX11_owedBy_31 : decode cX11_owedBy 31 = .ok (.aload 5, 2) := by decide +kernel
theorem dX11_owedBy_33 : decode cX11_owedBy 33 = .ok (.getfield 279, 3) := by decide +kernel
theorem dX11_owedBy_36 : decode cX11_owedBy 36 = .ok (.iload_n 1, 1) := by decide +kernel
theorem dX11_owedBy_37 : decode cX11_owedBy 37 = .ok (.if_icmp .ne 35, 3) := by decide +kernel
theorem dX11_owedBy_40 : decode cX11_owedBy 40 = .ok (.iload_n 3, 1) := by decide +kernel
theorem dX11_owedBy_41 : decode cX11_owedBy 41 = .ok (.aload 5, 2) := by decide +kernel
theorem dX11_owedBy_43 : decode cX11_owedBy 43 = .ok (.invokevirtual 496, 3) := by decide +kernel
theorem dX11_owedBy_46 : decode cX11_owedBy 46 = .ok (.iadd, 1) := by decide +kernel
theorem dX11_owedBy_47 : decode cX11_owedBy 47 = .ok (.istore_n 3, 1) := by decide +kernel
theorem dX11_owedBy_48 : decode cX11_owedBy 48 = .ok (.iload_n 2, 1) := by decide +kernel
theorem dX11_owedBy_49 : decode cX11_owedBy 49 = .ok (.ifCond .eq 15, 3) := by decide +kernel
theorem dX11_owedBy_52 : decode cX11_owedBy 52 = .ok (.aload 5, 2) := by decide +kernel
theorem dX11_owedBy_54 : decode cX11_owedBy 54 = .ok (.getfield 291, 3) := by decide +kernel
theorem dX11_owedBy_57 : decode cX11_owedBy 57 = .ok (.aload_n 0, 1) := by decide +kernel
theorem dX11_owedBy_58 : decode cX11_owedBy 58 = .ok (.getfield 75, 3) := by decide +kernel
theorem dX11_owedBy_61 : decode cX11_owedBy 61 = .ok (.if_icmp .ge 11, 3) := by decide +kernel
theorem dX11_owedBy_64 : decode cX11_owedBy 64 = .ok (.iload_n 3, 1) := by decide +kernel
theorem dX11_owedBy_65 : decode cX11_owedBy 65 = .ok (.aload 5, 2) := by decide +kernel
theorem dX11_owedBy_67 : decode cX11_owedBy 67 = .ok (.getfield 288, 3) := by decide +kernel
theorem dX11_owedBy_70 : decode cX11_owedBy 70 = .ok (.iadd, 1) := by decide +kernel
theorem dX11_owedBy_71 : decode cX11_owedBy 71 = .ok (.istore_n 3, 1) := by decide +kernel
theorem dX11_owedBy_72 : decode cX11_owedBy 72 = .ok (.iinc 4 1, 3) := by decide +kernel
theorem dX11_owedBy_75 : decode cX11_owedBy 75 = .ok (.goto (-70), 3) := by decide +kernel
theorem dX11_owedBy_78 : decode cX11_owedBy 78 = .ok (.iload_n 3, 1) := by decide +kernel
theorem dX11_owedBy_79 : decode cX11_owedBy 79 = .ok (.ireturn, 1) := by decide +kernel
theorem dX11_payOwed_0 : decode cX11_payOwed 0 = .ok (.aload_n 0, 1) := by decide +kernel
theorem dX11_payOwed_1 : decode cX11_payOwed 1 = .ok (.getfield 10, 3) := by decide +kernel
theorem dX11_payOwed_4 : decode cX11_payOwed 4 = .ok (.aload_n 1, 1) := by decide +kernel
theorem dX11_payOwed_5 : decode cX11_payOwed 5 = .ok (.getfield 279, 3) := by decide +kernel
theorem dX11_payOwed_8 : decode cX11_payOwed 8 = .ok (.invokevirtual 151, 3) := by decide +kernel
theorem dX11_payOwed_11 : decode cX11_payOwed 11 = .ok (.checkcast 98, 3) := by decide +kernel
theorem dX11_payOwed_14 : decode cX11_payOwed 14 = .ok (.iload_n 2, 1) := by decide +kernel
theorem dX11_payOwed_15 : decode cX11_payOwed 15 = .ok (.aload_n 1, 1) := by decide +kernel
theorem dX11_payOwed_16 : decode cX11_payOwed 16 = .ok (.getfield 288, 3) := by decide +kernel
theorem dX11_payOwed_19 : decode cX11_payOwed 19 = .ok (.invokestatic 499, 3) := by decide +kernel
theorem dX11_payOwed_22 : decode cX11_payOwed 22 = .ok (.invokevirtual 131, 3) := by decide +kernel
theorem dX11_payOwed_25 : decode cX11_payOwed 25 = .ok (.istore_n 3, 1) := by decide +kernel
theorem dX11_payOwed_26 : decode cX11_payOwed 26 = .ok (.aload_n 1, 1) := by decide +kernel
theorem dX11_payOwed_27 : decode cX11_payOwed 27 = .ok (.dup, 1) := by decide +kernel
theorem dX11_payOwed_28 : decode cX11_payOwed 28 = .ok (.getfield 288, 3) := by decide +kernel
theorem dX11_payOwed_31 : decode cX11_payOwed 31 = .ok (.iload_n 3, 1) := by decide +kernel
theorem dX11_payOwed_32 : decode cX11_payOwed 32 = .ok (.isub, 1) := by decide +kernel
theorem dX11_payOwed_33 : decode cX11_payOwed 33 = .ok (.putfield 288, 3) := by decide +kernel
theorem dX11_payOwed_36 : decode cX11_payOwed 36 = .ok (.aload_n 0, 1) := by decide +kernel
theorem dX11_payOwed_37 : decode cX11_payOwed 37 = .ok (.aload_n 1, 1) := by decide +kernel
theorem dX11_payOwed_38 : decode cX11_payOwed 38 = .ok (.getfield 300, 3) := by decide +kernel
theorem dX11_payOwed_41 : decode cX11_payOwed 41 = .ok (.aload_n 0, 1) := by decide +kernel
theorem dX11_payOwed_42 : decode cX11_payOwed 42 = .ok (.getfield 10, 3) := by decide +kernel
theorem dX11_payOwed_45 : decode cX11_payOwed 45 = .ok (.aload_n 1, 1) := by decide +kernel
theorem dX11_payOwed_46 : decode cX11_payOwed 46 = .ok (.getfield 276, 3) := by decide +kernel
theorem dX11_payOwed_49 : decode cX11_payOwed 49 = .ok (.invokevirtual 151, 3) := by decide +kernel
theorem dX11_payOwed_52 : decode cX11_payOwed 52 = .ok (.checkcast 98, 3) := by decide +kernel
theorem dX11_payOwed_55 : decode cX11_payOwed 55 = .ok (.getfield 121, 3) := by decide +kernel
theorem dX11_payOwed_58 : decode cX11_payOwed 58 = .ok (.iload_n 3, 1) := by decide +kernel
theorem dX11_payOwed_59 : decode cX11_payOwed 59 = .ok (.invokevirtual 134, 3) := by decide +kernel
theorem dX11_payOwed_62 : decode cX11_payOwed 62 = .ok (.iload_n 3, 1) := by decide +kernel
theorem dX11_payOwed_63 : decode cX11_payOwed 63 = .ok (.ireturn, 1) := by decide +kernel
theorem dX11_payClaim_0 : decode cX11_payClaim 0 = .ok (.aload_n 0, 1) := by decide +kernel
theorem dX11_payClaim_1 : decode cX11_payClaim 1 = .ok (.getfield 10, 3) := by decide +kernel
theorem dX11_payClaim_4 : decode cX11_payClaim 4 = .ok (.aload_n 1, 1) := by decide +kernel
theorem dX11_payClaim_5 : decode cX11_payClaim 5 = .ok (.getfield 279, 3) := by decide +kernel
theorem dX11_payClaim_8 : decode cX11_payClaim 8 = .ok (.invokevirtual 151, 3) := by decide +kernel
theorem dX11_payClaim_11 : decode cX11_payClaim 11 = .ok (.checkcast 98, 3) := by decide +kernel
theorem dX11_payClaim_14 : decode cX11_payClaim 14 = .ok (.iload_n 3, 1) := by decide +kernel
theorem dX11_payClaim_15 : decode cX11_payClaim 15 = .ok (.aload_n 1, 1) := by decide +kernel
theorem dX11_payClaim_16 : decode cX11_payClaim 16 = .ok (.getfield 312, 3) := by decide +kernel
theorem dX11_payClaim_19 : decode cX11_payClaim 19 = .ok (.iload_n 2, 1) := by decide +kernel
theorem dX11_payClaim_20 : decode cX11_payClaim 20 = .ok (.iaload, 1) := by decide +kernel
theorem dX11_payClaim_21 : decode cX11_payClaim 21 = .ok (.invokestatic 499, 3) := by decide +kernel
theorem dX11_payClaim_24 : decode cX11_payClaim 24 = .ok (.invokevirtual 131, 3) := by decide +kernel
theorem dX11_payClaim_27 : decode cX11_payClaim 27 = .ok (.istore 4, 2) := by decide +kernel
theorem dX11_payClaim_29 : decode cX11_payClaim 29 = .ok (.aload_n 1, 1) := by decide +kernel
theorem dX11_payClaim_30 : decode cX11_payClaim 30 = .ok (.getfield 312, 3) := by decide +kernel
theorem dX11_payClaim_33 : decode cX11_payClaim 33 = .ok (.iload_n 2, 1) := by decide +kernel
theorem dX11_payClaim_34 : decode cX11_payClaim 34 = .ok (.dup2, 1) := by decide +kernel
theorem dX11_payClaim_35 : decode cX11_payClaim 35 = .ok (.iaload, 1) := by decide +kernel
theorem dX11_payClaim_36 : decode cX11_payClaim 36 = .ok (.iload 4, 2) := by decide +kernel
theorem dX11_payClaim_38 : decode cX11_payClaim 38 = .ok (.isub, 1) := by decide +kernel
theorem dX11_payClaim_39 : decode cX11_payClaim 39 = .ok (.iastore, 1) := by decide +kernel
theorem dX11_payClaim_40 : decode cX11_payClaim 40 = .ok (.aload_n 0, 1) := by decide +kernel
theorem dX11_payClaim_41 : decode cX11_payClaim 41 = .ok (.aload_n 1, 1) := by decide +kernel
theorem dX11_payClaim_42 : decode cX11_payClaim 42 = .ok (.getfield 315, 3) := by decide +kernel
theorem dX11_payClaim_45 : decode cX11_payClaim 45 = .ok (.iload_n 2, 1) := by decide +kernel
theorem dX11_payClaim_46 : decode cX11_payClaim 46 = .ok (.iaload, 1) := by decide +kernel
theorem dX11_payClaim_47 : decode cX11_payClaim 47 = .ok (.aload_n 0, 1) := by decide +kernel
theorem dX11_payClaim_48 : decode cX11_payClaim 48 = .ok (.getfield 10, 3) := by decide +kernel
theorem dX11_payClaim_51 : decode cX11_payClaim 51 = .ok (.aload_n 1, 1) := by decide +kernel
theorem dX11_payClaim_52 : decode cX11_payClaim 52 = .ok (.getfield 309, 3) := by decide +kernel
theorem dX11_payClaim_55 : decode cX11_payClaim 55 = .ok (.iload_n 2, 1) := by decide +kernel
theorem dX11_payClaim_56 : decode cX11_payClaim 56 = .ok (.iaload, 1) := by decide +kernel
theorem dX11_payClaim_57 : decode cX11_payClaim 57 = .ok (.invokevirtual 151, 3) := by decide +kernel
theorem dX11_payClaim_60 : decode cX11_payClaim 60 = .ok (.checkcast 98, 3) := by decide +kernel
theorem dX11_payClaim_63 : decode cX11_payClaim 63 = .ok (.getfield 121, 3) := by decide +kernel
theorem dX11_payClaim_66 : decode cX11_payClaim 66 = .ok (.iload 4, 2) := by decide +kernel
theorem dX11_payClaim_68 : decode cX11_payClaim 68 = .ok (.invokevirtual 134, 3) := by decide +kernel
theorem dX11_payClaim_71 : decode cX11_payClaim 71 = .ok (.iload 4, 2) := by decide +kernel
theorem dX11_payClaim_73 : decode cX11_payClaim 73 = .ok (.ireturn, 1) := by decide +kernel
theorem dX11_callSurety_0 : decode cX11_callSurety 0 = .ok (.aload_n 1, 1) := by decide +kernel
theorem dX11_callSurety_1 : decode cX11_callSurety 1 = .ok (.getfield 294, 3) := by decide +kernel
theorem dX11_callSurety_4 : decode cX11_callSurety 4 = .ok (.iload_n 2, 1) := by decide +kernel
theorem dX11_callSurety_5 : decode cX11_callSurety 5 = .ok (.isub, 1) := by decide +kernel
theorem dX11_callSurety_6 : decode cX11_callSurety 6 = .ok (.istore_n 3, 1) := by decide +kernel
theorem dX11_callSurety_7 : decode cX11_callSurety 7 = .ok (.iload_n 3, 1) := by decide +kernel
theorem dX11_callSurety_8 : decode cX11_callSurety 8 = .ok (.iconst 1, 1) := by decide +kernel
theorem dX11_callSurety_9 : decode cX11_callSurety 9 = .ok (.if_icmp .ge 5, 3) := by decide +kernel
theorem dX11_callSurety_12 : decode cX11_callSurety 12 = .ok (.iconst 0, 1) := by decide +kernel
theorem dX11_callSurety_13 : decode cX11_callSurety 13 = .ok (.ireturn, 1) := by decide +kernel
theorem dX11_callSurety_14 : decode cX11_callSurety 14 = .ok (.aload_n 1, 1) := by decide +kernel
theorem dX11_callSurety_15 : decode cX11_callSurety 15 = .ok (.getfield 288, 3) := by decide +kernel
theorem dX11_callSurety_18 : decode cX11_callSurety 18 = .ok (.iload_n 3, 1) := by decide +kernel
theorem dX11_callSurety_19 : decode cX11_callSurety 19 = .ok (.iadd, 1) := by decide +kernel
theorem dX11_callSurety_20 : decode cX11_callSurety 20 = .ok (.iconst 1, 1) := by decide +kernel
theorem dX11_callSurety_21 : decode cX11_callSurety 21 = .ok (.isub, 1) := by decide +kernel
theorem dX11_callSurety_22 : decode cX11_callSurety 22 = .ok (.iload_n 3, 1) := by decide +kernel
theorem dX11_callSurety_23 : decode cX11_callSurety 23 = .ok (.idiv, 1) := by decide +kernel
theorem dX11_callSurety_24 : decode cX11_callSurety 24 = .ok (.istore 4, 2) := by decide +kernel
theorem dX11_callSurety_26 : decode cX11_callSurety 26 = .ok (.aload_n 0, 1) := by decide +kernel
theorem dX11_callSurety_27 : decode cX11_callSurety 27 = .ok (.getfield 10, 3) := by decide +kernel
theorem dX11_callSurety_30 : decode cX11_callSurety 30 = .ok (.aload_n 1, 1) := by decide +kernel
theorem dX11_callSurety_31 : decode cX11_callSurety 31 = .ok (.getfield 309, 3) := by decide +kernel
theorem dX11_callSurety_34 : decode cX11_callSurety 34 = .ok (.iload_n 2, 1) := by decide +kernel
theorem dX11_callSurety_35 : decode cX11_callSurety 35 = .ok (.iaload, 1) := by decide +kernel
theorem dX11_callSurety_36 : decode cX11_callSurety 36 = .ok (.invokevirtual 151, 3) := by decide +kernel
theorem dX11_callSurety_39 : decode cX11_callSurety 39 = .ok (.checkcast 98, 3) := by decide +kernel
theorem dX11_callSurety_42 : decode cX11_callSurety 42 = .ok (.iload 4, 2) := by decide +kernel
theorem dX11_callSurety_44 : decode cX11_callSurety 44 = .ok (.invokevirtual 131, 3) := by decide +kernel
theorem dX11_callSurety_47 : decode cX11_callSurety 47 = .ok (.istore 5, 2) := by decide +kernel
theorem dX11_callSurety_49 : decode cX11_callSurety 49 = .ok (.aload_n 1, 1) := by decide +kernel
theorem dX11_callSurety_50 : decode cX11_callSurety 50 = .ok (.dup, 1) := by decide +kernel
theorem dX11_callSurety_51 : decode cX11_callSurety 51 = .ok (.getfield 288, 3) := by decide +kernel
theorem dX11_callSurety_54 : decode cX11_callSurety 54 = .ok (.iload 5, 2) := by decide +kernel
theorem dX11_callSurety_56 : decode cX11_callSurety 56 = .ok (.isub, 1) := by decide +kernel
theorem dX11_callSurety_57 : decode cX11_callSurety 57 = .ok (.putfield 288, 3) := by decide +kernel
theorem dX11_callSurety_60 : decode cX11_callSurety 60 = .ok (.aload_n 1, 1) := by decide +kernel
theorem dX11_callSurety_61 : decode cX11_callSurety 61 = .ok (.getfield 312, 3) := by decide +kernel
theorem dX11_callSurety_64 : decode cX11_callSurety 64 = .ok (.iload_n 2, 1) := by decide +kernel
theorem dX11_callSurety_65 : decode cX11_callSurety 65 = .ok (.dup2, 1) := by decide +kernel
theorem dX11_callSurety_66 : decode cX11_callSurety 66 = .ok (.iaload, 1) := by decide +kernel
theorem dX11_callSurety_67 : decode cX11_callSurety 67 = .ok (.iload 5, 2) := by decide +kernel
theorem dX11_callSurety_69 : decode cX11_callSurety 69 = .ok (.iadd, 1) := by decide +kernel
theorem dX11_callSurety_70 : decode cX11_callSurety 70 = .ok (.iastore, 1) := by decide +kernel
theorem dX11_callSurety_71 : decode cX11_callSurety 71 = .ok (.aload_n 0, 1) := by decide +kernel
theorem dX11_callSurety_72 : decode cX11_callSurety 72 = .ok (.aload_n 1, 1) := by decide +kernel
theorem dX11_callSurety_73 : decode cX11_callSurety 73 = .ok (.getfield 300, 3) := by decide +kernel
theorem dX11_callSurety_76 : decode cX11_callSurety 76 = .ok (.aload_n 0, 1) := by decide +kernel
theorem dX11_callSurety_77 : decode cX11_callSurety 77 = .ok (.getfield 10, 3) := by decide +kernel
theorem dX11_callSurety_80 : decode cX11_callSurety 80 = .ok (.aload_n 1, 1) := by decide +kernel
theorem dX11_callSurety_81 : decode cX11_callSurety 81 = .ok (.getfield 276, 3) := by decide +kernel
theorem dX11_callSurety_84 : decode cX11_callSurety 84 = .ok (.invokevirtual 151, 3) := by decide +kernel
theorem dX11_callSurety_87 : decode cX11_callSurety 87 = .ok (.checkcast 98, 3) := by decide +kernel
theorem dX11_callSurety_90 : decode cX11_callSurety 90 = .ok (.getfield 121, 3) := by decide +kernel
theorem dX11_callSurety_93 : decode cX11_callSurety 93 = .ok (.iload 5, 2) := by decide +kernel
theorem dX11_callSurety_95 : decode cX11_callSurety 95 = .ok (.invokevirtual 134, 3) := by decide +kernel
theorem dX11_callSurety_98 : decode cX11_callSurety 98 = .ok (.iload 5, 2) := by decide +kernel
theorem dX11_callSurety_100 : decode cX11_callSurety 100 = .ok (.ireturn, 1) := by decide +kernel
theorem dX11_payFine_0 : decode cX11_payFine 0 = .ok (.aload_n 1, 1) := by decide +kernel
theorem dX11_payFine_1 : decode cX11_payFine 1 = .ok (.iload_n 2, 1) := by decide +kernel
theorem dX11_payFine_2 : decode cX11_payFine 2 = .ok (.invokevirtual 131, 3) := by decide +kernel
theorem dX11_payFine_5 : decode cX11_payFine 5 = .ok (.istore_n 3, 1) := by decide +kernel
theorem dX11_payFine_6 : decode cX11_payFine 6 = .ok (.iload_n 3, 1) := by decide +kernel
theorem dX11_payFine_7 : decode cX11_payFine 7 = .ok (.iconst 1, 1) := by decide +kernel
theorem dX11_payFine_8 : decode cX11_payFine 8 = .ok (.iadd, 1) := by decide +kernel
theorem dX11_payFine_9 : decode cX11_payFine 9 = .ok (.iconst 2, 1) := by decide +kernel
theorem dX11_payFine_10 : decode cX11_payFine 10 = .ok (.idiv, 1) := by decide +kernel
theorem dX11_payFine_11 : decode cX11_payFine 11 = .ok (.istore 4, 2) := by decide +kernel
theorem dX11_payFine_13 : decode cX11_payFine 13 = .ok (.aload_n 0, 1) := by decide +kernel
theorem dX11_payFine_14 : decode cX11_payFine 14 = .ok (.getfield 22, 3) := by decide +kernel
theorem dX11_payFine_17 : decode cX11_payFine 17 = .ok (.bipush 9, 2) := by decide +kernel
theorem dX11_payFine_19 : decode cX11_payFine 19 = .ok (.dup2, 1) := by decide +kernel
theorem dX11_payFine_20 : decode cX11_payFine 20 = .ok (.iaload, 1) := by decide +kernel
theorem dX11_payFine_21 : decode cX11_payFine 21 = .ok (.iload 4, 2) := by decide +kernel
theorem dX11_payFine_23 : decode cX11_payFine 23 = .ok (.iadd, 1) := by decide +kernel
theorem dX11_payFine_24 : decode cX11_payFine 24 = .ok (.iastore, 1) := by decide +kernel
theorem dX11_payFine_25 : decode cX11_payFine 25 = .ok (.aload_n 0, 1) := by decide +kernel
theorem dX11_payFine_26 : decode cX11_payFine 26 = .ok (.getfield 22, 3) := by decide +kernel
theorem dX11_payFine_29 : decode cX11_payFine 29 = .ok (.aload_n 1, 1) := by decide +kernel
theorem dX11_payFine_30 : decode cX11_payFine 30 = .ok (.getfield 121, 3) := by decide +kernel
theorem dX11_payFine_33 : decode cX11_payFine 33 = .ok (.dup2, 1) := by decide +kernel
theorem dX11_payFine_34 : decode cX11_payFine 34 = .ok (.iaload, 1) := by decide +kernel
theorem dX11_payFine_35 : decode cX11_payFine 35 = .ok (.iload_n 3, 1) := by decide +kernel
theorem dX11_payFine_36 : decode cX11_payFine 36 = .ok (.iload 4, 2) := by decide +kernel
theorem dX11_payFine_38 : decode cX11_payFine 38 = .ok (.isub, 1) := by decide +kernel
theorem dX11_payFine_39 : decode cX11_payFine 39 = .ok (.iadd, 1) := by decide +kernel
theorem dX11_payFine_40 : decode cX11_payFine 40 = .ok (.iastore, 1) := by decide +kernel
theorem dX11_payFine_41 : decode cX11_payFine 41 = .ok (.iload_n 3, 1) := by decide +kernel
theorem dX11_payFine_42 : decode cX11_payFine 42 = .ok (.ireturn, 1) := by decide +kernel
theorem dX11_splitLot_0 : decode cX11_splitLot 0 = .ok (.aload_n 0, 1) := by decide +kernel
theorem dX11_splitLot_1 : decode cX11_splitLot 1 = .ok (.getfield 16, 3) := by decide +kernel
theorem dX11_splitLot_4 : decode cX11_splitLot 4 = .ok (.iload_n 1, 1) := by decide +kernel
theorem dX11_splitLot_5 : decode cX11_splitLot 5 = .ok (.invokevirtual 151, 3) := by decide +kernel
theorem dX11_splitLot_8 : decode cX11_splitLot 8 = .ok (.checkcast 146, 3) := by decide +kernel
theorem dX11_splitLot_11 : decode cX11_splitLot 11 = .ok (.astore 4, 2) := by decide +kernel
theorem dX11_splitLot_13 : decode cX11_splitLot 13 = .ok (.aload 4, 2) := by decide +kernel
theorem dX11_splitLot_15 : decode cX11_splitLot 15 = .ok (.dup, 1) := by decide +kernel
theorem dX11_splitLot_16 : decode cX11_splitLot 16 = .ok (.getfield 158, 3) := by decide +kernel
theorem dX11_splitLot_19 : decode cX11_splitLot 19 = .ok (.iload_n 2, 1) := by decide +kernel
theorem dX11_splitLot_20 : decode cX11_splitLot 20 = .ok (.isub, 1) := by decide +kernel
theorem dX11_splitLot_21 : decode cX11_splitLot 21 = .ok (.putfield 158, 3) := by decide +kernel
theorem dX11_splitLot_24 : decode cX11_splitLot 24 = .ok (.aload_n 0, 1) := by decide +kernel
theorem dX11_splitLot_25 : decode cX11_splitLot 25 = .ok (.getfield 16, 3) := by decide +kernel
theorem dX11_splitLot_28 : decode cX11_splitLot 28 = .ok (.new 146, 3) := by decide +kernel
theorem dX11_splitLot_31 : decode cX11_splitLot 31 = .ok (.dup, 1) := by decide +kernel
theorem dX11_splitLot_32 : decode cX11_splitLot 32 = .ok (.aload 4, 2) := by decide +kernel
theorem dX11_splitLot_34 : decode cX11_splitLot 34 = .ok (.getfield 155, 3) := by decide +kernel
theorem dX11_splitLot_37 : decode cX11_splitLot 37 = .ok (.iload_n 2, 1) := by decide +kernel
theorem dX11_splitLot_38 : decode cX11_splitLot 38 = .ok (.iload_n 3, 1) := by decide +kernel
theorem dX11_splitLot_39 : decode cX11_splitLot 39 = .ok (.iload_n 1, 1) := by decide +kernel
theorem dX11_splitLot_40 : decode cX11_splitLot 40 = .ok (.invokespecial 148, 3) := by decide +kernel
theorem dX11_splitLot_43 : decode cX11_splitLot 43 = .ok (.invokevirtual 103, 3) := by decide +kernel
theorem dX11_splitLot_46 : decode cX11_splitLot 46 = .ok (.pop, 1) := by decide +kernel
theorem dX11_splitLot_47 : decode cX11_splitLot 47 = .ok (.return_, 1) := by decide +kernel
theorem dX11_refusal_0 : decode cX11_refusal 0 = .ok (.aload_n 0, 1) := by decide +kernel
theorem dX11_refusal_1 : decode cX11_refusal 1 = .ok (.iload_n 1, 1) := by decide +kernel
theorem dX11_refusal_2 : decode cX11_refusal 2 = .ok (.invokevirtual 107, 3) := by decide +kernel
theorem dX11_refusal_5 : decode cX11_refusal 5 = .ok (.ifnull 16, 3) := by decide +kernel
theorem dX11_refusal_8 : decode cX11_refusal 8 = .ok (.aload_n 0, 1) := by decide +kernel
theorem dX11_refusal_9 : decode cX11_refusal 9 = .ok (.iload_n 2, 1) := by decide +kernel
theorem dX11_refusal_10 : decode cX11_refusal 10 = .ok (.invokevirtual 107, 3) := by decide +kernel
theorem dX11_refusal_13 : decode cX11_refusal 13 = .ok (.ifnull 8, 3) := by decide +kernel
theorem dX11_refusal_16 : decode cX11_refusal 16 = .ok (.iload_n 1, 1) := by decide +kernel
theorem dX11_refusal_17 : decode cX11_refusal 17 = .ok (.iload_n 2, 1) := by decide +kernel
theorem dX11_refusal_18 : decode cX11_refusal 18 = .ok (.if_icmp .ne 5, 3) := by decide +kernel
theorem dX11_refusal_21 : decode cX11_refusal 21 = .ok (.iconst 1, 1) := by decide +kernel
theorem dX11_refusal_22 : decode cX11_refusal 22 = .ok (.ireturn, 1) := by decide +kernel
theorem dX11_refusal_23 : decode cX11_refusal 23 = .ok (.iload_n 3, 1) := by decide +kernel
theorem dX11_refusal_24 : decode cX11_refusal 24 = .ok (.ifCond .lt 32, 3) := by decide +kernel
theorem dX11_refusal_27 : decode cX11_refusal 27 = .ok (.iload_n 3, 1) := by decide +kernel
theorem dX11_refusal_28 : decode cX11_refusal 28 = .ok (.aload_n 0, 1) := by decide +kernel
theorem dX11_refusal_29 : decode cX11_refusal 29 = .ok (.getfield 16, 3) := by decide +kernel
theorem dX11_refusal_32 : decode cX11_refusal 32 = .ok (.invokevirtual 89, 3) := by decide +kernel
theorem dX11_refusal_35 : decode cX11_refusal 35 = .ok (.if_icmp .ge 21, 3) := by decide +kernel
theorem dX11_refusal_38 : decode cX11_refusal 38 = .ok (.aload_n 0, 1) := by decide +kernel
theorem dX11_refusal_39 : decode cX11_refusal 39 = .ok (.getfield 16, 3) := by decide +kernel
theorem dX11_refusal_42 : decode cX11_refusal 42 = .ok (.iload_n 3, 1) := by decide +kernel
theorem dX11_refusal_43 : decode cX11_refusal 43 = .ok (.invokevirtual 151, 3) := by decide +kernel
theorem dX11_refusal_46 : decode cX11_refusal 46 = .ok (.checkcast 146, 3) := by decide +kernel
theorem dX11_refusal_49 : decode cX11_refusal 49 = .ok (.getfield 161, 3) := by decide +kernel
theorem dX11_refusal_52 : decode cX11_refusal 52 = .ok (.iload_n 1, 1) := by decide +kernel
theorem dX11_refusal_53 : decode cX11_refusal 53 = .ok (.if_icmp .eq 5, 3) := by decide +kernel
theorem dX11_refusal_56 : decode cX11_refusal 56 = .ok (.iconst 2, 1) := by decide +kernel
theorem dX11_refusal_57 : decode cX11_refusal 57 = .ok (.ireturn, 1) := by decide +kernel
theorem dX11_refusal_58 : decode cX11_refusal 58 = .ok (.iload 4, 2) := by decide +kernel
theorem dX11_refusal_60 : decode cX11_refusal 60 = .ok (.iconst 1, 1) := by decide +kernel
theorem dX11_refusal_61 : decode cX11_refusal 61 = .ok (.aload_n 0, 1) := by decide +kernel
theorem dX11_refusal_62 : decode cX11_refusal 62 = .ok (.getfield 16, 3) := by decide +kernel
theorem dX11_refusal_65 : decode cX11_refusal 65 = .ok (.iload_n 3, 1) := by decide +kernel
theorem dX11_refusal_66 : decode cX11_refusal 66 = .ok (.invokevirtual 151, 3) := by decide +kernel
theorem dX11_refusal_69 : decode cX11_refusal 69 = .ok (.checkcast 146, 3) := by decide +kernel
theorem dX11_refusal_72 : decode cX11_refusal 72 = .ok (.getfield 158, 3) := by decide +kernel
theorem dX11_refusal_75 : decode cX11_refusal 75 = .ok (.invokestatic 93, 3) := by decide +kernel
theorem dX11_refusal_78 : decode cX11_refusal 78 = .ok (.ifCond .ne 5, 3) := by decide +kernel
theorem dX11_refusal_81 : decode cX11_refusal 81 = .ok (.iconst 2, 1) := by decide +kernel
theorem dX11_refusal_82 : decode cX11_refusal 82 = .ok (.ireturn, 1) := by decide +kernel
theorem dX11_refusal_83 : decode cX11_refusal 83 = .ok (.iload 5, 2) := by decide +kernel
theorem dX11_refusal_85 : decode cX11_refusal 85 = .ok (.iconst 0, 1) := by decide +kernel
theorem dX11_refusal_86 : decode cX11_refusal 86 = .ok (.ldc 97, 2) := by decide +kernel
theorem dX11_refusal_88 : decode cX11_refusal 88 = .ok (.invokestatic 93, 3) := by decide +kernel
theorem dX11_refusal_91 : decode cX11_refusal 91 = .ok (.ifCond .eq 26, 3) := by decide +kernel
theorem dX11_refusal_94 : decode cX11_refusal 94 = .ok (.iload 6, 2) := by decide +kernel
theorem dX11_refusal_96 : decode cX11_refusal 96 = .ok (.iconst 0, 1) := by decide +kernel
theorem dX11_refusal_97 : decode cX11_refusal 97 = .ok (.sipush 720, 3) := by decide +kernel
theorem dX11_refusal_100 : decode cX11_refusal 100 = .ok (.invokestatic 93, 3) := by decide +kernel
theorem dX11_refusal_103 : decode cX11_refusal 103 = .ok (.ifCond .eq 14, 3) := by decide +kernel
theorem dX11_refusal_106 : decode cX11_refusal 106 = .ok (.iload 7, 2) := by decide +kernel
theorem dX11_refusal_108 : decode cX11_refusal 108 = .ok (.iconst 0, 1) := by decide +kernel
theorem dX11_refusal_109 : decode cX11_refusal 109 = .ok (.bipush 23, 2) := by decide +kernel
theorem dX11_refusal_111 : decode cX11_refusal 111 = .ok (.invokestatic 93, 3) := by decide +kernel
theorem dX11_refusal_114 : decode cX11_refusal 114 = .ok (.ifCond .ne 5, 3) := by decide +kernel
theorem dX11_refusal_117 : decode cX11_refusal 117 = .ok (.iconst 3, 1) := by decide +kernel
theorem dX11_refusal_118 : decode cX11_refusal 118 = .ok (.ireturn, 1) := by decide +kernel
theorem dX11_refusal_119 : decode cX11_refusal 119 = .ok (.iconst 0, 1) := by decide +kernel
theorem dX11_refusal_120 : decode cX11_refusal 120 = .ok (.ireturn, 1) := by decide +kernel
theorem dX11_judge_0 : decode cX11_judge 0 = .ok (.aload_n 0, 1) := by decide +kernel
theorem dX11_judge_1 : decode cX11_judge 1 = .ok (.getfield 10, 3) := by decide +kernel
theorem dX11_judge_4 : decode cX11_judge 4 = .ok (.iload_n 1, 1) := by decide +kernel
theorem dX11_judge_5 : decode cX11_judge 5 = .ok (.invokevirtual 151, 3) := by decide +kernel
theorem dX11_judge_8 : decode cX11_judge 8 = .ok (.checkcast 98, 3) := by decide +kernel
theorem dX11_judge_11 : decode cX11_judge 11 = .ok (.astore 8, 2) := by decide +kernel
theorem dX11_judge_13 : decode cX11_judge 13 = .ok (.aload_n 0, 1) := by decide +kernel
theorem dX11_judge_14 : decode cX11_judge 14 = .ok (.getfield 10, 3) := by decide +kernel
theorem dX11_judge_17 : decode cX11_judge 17 = .ok (.iload_n 2, 1) := by decide +kernel
theorem dX11_judge_18 : decode cX11_judge 18 = .ok (.invokevirtual 151, 3) := by decide +kernel
theorem dX11_judge_21 : decode cX11_judge 21 = .ok (.checkcast 98, 3) := by decide +kernel
theorem dX11_judge_24 : decode cX11_judge 24 = .ok (.astore 9, 2) := by decide +kernel
theorem dX11_judge_26 : decode cX11_judge 26 = .ok (.aload_n 0, 1) := by decide +kernel
theorem dX11_judge_27 : decode cX11_judge 27 = .ok (.getfield 16, 3) := by decide +kernel
theorem dX11_judge_30 : decode cX11_judge 30 = .ok (.iload_n 3, 1) := by decide +kernel
theorem dX11_judge_31 : decode cX11_judge 31 = .ok (.invokevirtual 151, 3) := by decide +kernel
theorem dX11_judge_34 : decode cX11_judge 34 = .ok (.checkcast 146, 3) := by decide +kernel
theorem dX11_judge_37 : decode cX11_judge 37 = .ok (.getfield 155, 3) := by decide +kernel
theorem dX11_judge_40 : decode cX11_judge 40 = .ok (.istore 10, 2) := by decide +kernel
theorem dX11_judge_42 : decode cX11_judge 42 = .ok (.aload_n 0, 1) := by decide +kernel
theorem dX11_judge_43 : decode cX11_judge 43 = .ok (.aload_n 0, 1) := by decide +kernel
theorem dX11_judge_44 : decode cX11_judge 44 = .ok (.getfield 75, 3) := by decide +kernel
theorem dX11_judge_47 : decode cX11_judge 47 = .ok (.invokevirtual 364, 3) := by decide +kernel
theorem dX11_judge_50 : decode cX11_judge 50 = .ok (.istore 11, 2) := by decide +kernel
theorem dX11_judge_52 : decode cX11_judge 52 = .ok (.aload_n 0, 1) := by decide +kernel
theorem dX11_judge_53 : decode cX11_judge 53 = .ok (.getfield 50, 3) := by decide +kernel
theorem dX11_judge_56 : decode cX11_judge 56 = .ok (.aload 8, 2) := by decide +kernel
theorem dX11_judge_58 : decode cX11_judge 58 = .ok (.getfield 121, 3) := by decide +kernel
theorem dX11_judge_61 : decode cX11_judge 61 = .ok (.aload_n 0, 1) := by decide +kernel
theorem dX11_judge_62 : decode cX11_judge 62 = .ok (.getfield 75, 3) := by decide +kernel
theorem dX11_judge_65 : decode cX11_judge 65 = .ok (.aload_n 0, 1) := by decide +kernel
theorem dX11_judge_66 : decode cX11_judge 66 = .ok (.getfield 75, 3) := by decide +kernel
theorem dX11_judge_69 : decode cX11_judge 69 = .ok (.invokevirtual 250, 3) := by decide +kernel
theorem dX11_judge_72 : decode cX11_judge 72 = .ok (.ifCond .ne 26, 3) := by decide +kernel
theorem dX11_judge_75 : decode cX11_judge 75 = .ok (.aload_n 0, 1) := by decide +kernel
theorem dX11_judge_76 : decode cX11_judge 76 = .ok (.getfield 50, 3) := by decide +kernel
theorem dX11_judge_79 : decode cX11_judge 79 = .ok (.aload 9, 2) := by decide +kernel
theorem dX11_judge_81 : decode cX11_judge 81 = .ok (.getfield 121, 3) := by decide +kernel
theorem dX11_judge_84 : decode cX11_judge 84 = .ok (.aload_n 0, 1) := by decide +kernel
theorem dX11_judge_85 : decode cX11_judge 85 = .ok (.getfield 75, 3) := by decide +kernel
theorem dX11_judge_88 : decode cX11_judge 88 = .ok (.aload_n 0, 1) := by decide +kernel
theorem dX11_judge_89 : decode cX11_judge 89 = .ok (.getfield 75, 3) := by decide +kernel
theorem dX11_judge_92 : decode cX11_judge 92 = .ok (.invokevirtual 250, 3) := by decide +kernel
theorem dX11_judge_95 : decode cX11_judge 95 = .ok (.ifCond .eq 7, 3) := by decide +kernel
theorem dX11_judge_98 : decode cX11_judge 98 = .ok (.iconst 1, 1) := by decide +kernel
theorem dX11_judge_99 : decode cX11_judge 99 = .ok (.goto 4, 3) := by decide +kernel
theorem dX11_judge_102 : decode cX11_judge 102 = .ok (.iconst 0, 1) := by decide +kernel
theorem dX11_judge_103 : decode cX11_judge 103 = .ok (.istore 12, 2) := by decide +kernel
theorem dX11_judge_105 : decode cX11_judge 105 = .ok (.aload_n 0, 1) := by decide +kernel
theorem dX11_judge_106 : decode cX11_judge 106 = .ok (.getfield 36, 3) := by decide +kernel
theorem dX11_judge_109 : decode cX11_judge 109 = .ok (.getfield 504, 3) := by decide +kernel
theorem dX11_judge_112 : decode cX11_judge 112 = .ok (.astore 13, 2) := by decide +kernel
theorem dX11_judge_114 : decode cX11_judge 114 = .ok (.aload 13, 2) := by decide +kernel
theorem dX11_judge_116 : decode cX11_judge 116 = .ok (.iconst 0, 1) := by decide +kernel
theorem dX11_judge_117 : decode cX11_judge 117 = .ok (.aload 8, 2) := by decide +kernel
theorem dX11_judge_119 : decode cX11_judge 119 = .ok (.getfield 121, 3) := by decide +kernel
theorem dX11_judge_122 : decode cX11_judge 122 = .ok (.i2l, 1) := by decide +kernel
theorem dX11_judge_123 : decode cX11_judge 123 = .ok (.lastore, 1) := by decide +kernel
theorem dX11_judge_124 : decode cX11_judge 124 = .ok (.aload 13, 2) := by decide +kernel
theorem dX11_judge_126 : decode cX11_judge 126 = .ok (.iconst 1, 1) := by decide +kernel
theorem dX11_judge_127 : decode cX11_judge 127 = .ok (.aload 9, 2) := by decide +kernel
theorem dX11_judge_129 : decode cX11_judge 129 = .ok (.getfield 121, 3) := by decide +kernel
theorem dX11_judge_132 : decode cX11_judge 132 = .ok (.i2l, 1) := by decide +kernel
theorem dX11_judge_133 : decode cX11_judge 133 = .ok (.lastore, 1) := by decide +kernel
theorem dX11_judge_134 : decode cX11_judge 134 = .ok (.aload 13, 2) := by decide +kernel
theorem dX11_judge_136 : decode cX11_judge 136 = .ok (.iconst 2, 1) := by decide +kernel
theorem dX11_judge_137 : decode cX11_judge 137 = .ok (.iload 10, 2) := by decide +kernel
theorem dX11_judge_139 : decode cX11_judge 139 = .ok (.i2l, 1) := by decide +kernel
theorem dX11_judge_140 : decode cX11_judge 140 = .ok (.lastore, 1) := by decide +kernel
theorem dX11_judge_141 : decode cX11_judge 141 = .ok (.aload 13, 2) := by decide +kernel
theorem dX11_judge_143 : decode cX11_judge 143 = .ok (.iconst 3, 1) := by decide +kernel
theorem dX11_judge_144 : decode cX11_judge 144 = .ok (.iload 4, 2) := by decide +kernel
theorem dX11_judge_146 : decode cX11_judge 146 = .ok (.i2l, 1) := by decide +kernel
theorem dX11_judge_147 : decode cX11_judge 147 = .ok (.lastore, 1) := by decide +kernel
theorem dX11_judge_148 : decode cX11_judge 148 = .ok (.aload 13, 2) := by decide +kernel
theorem dX11_judge_150 : decode cX11_judge 150 = .ok (.iconst 4, 1) := by decide +kernel
theorem dX11_judge_151 : decode cX11_judge 151 = .ok (.iload 5, 2) := by decide +kernel
theorem dX11_judge_153 : decode cX11_judge 153 = .ok (.i2l, 1) := by decide +kernel
theorem dX11_judge_154 : decode cX11_judge 154 = .ok (.lastore, 1) := by decide +kernel
theorem dX11_judge_155 : decode cX11_judge 155 = .ok (.aload 13, 2) := by decide +kernel
theorem dX11_judge_157 : decode cX11_judge 157 = .ok (.iconst 5, 1) := by decide +kernel
theorem dX11_judge_158 : decode cX11_judge 158 = .ok (.iload 6, 2) := by decide +kernel
theorem dX11_judge_160 : decode cX11_judge 160 = .ok (.i2l, 1) := by decide +kernel
theorem dX11_judge_161 : decode cX11_judge 161 = .ok (.lastore, 1) := by decide +kernel
theorem dX11_judge_162 : decode cX11_judge 162 = .ok (.aload 13, 2) := by decide +kernel
theorem dX11_judge_164 : decode cX11_judge 164 = .ok (.bipush 6, 2) := by decide +kernel
theorem dX11_judge_166 : decode cX11_judge 166 = .ok (.iload 7, 2) := by decide +kernel
theorem dX11_judge_168 : decode cX11_judge 168 = .ok (.i2l, 1) := by decide +kernel
theorem dX11_judge_169 : decode cX11_judge 169 = .ok (.lastore, 1) := by decide +kernel
theorem dX11_judge_170 : decode cX11_judge 170 = .ok (.aload 13, 2) := by decide +kernel
theorem dX11_judge_172 : decode cX11_judge 172 = .ok (.bipush 7, 2) := by decide +kernel
theorem dX11_judge_174 : decode cX11_judge 174 = .ok (.aload_n 0, 1) := by decide +kernel
theorem dX11_judge_175 : decode cX11_judge 175 = .ok (.getfield 75, 3) := by decide +kernel
theorem dX11_judge_178 : decode cX11_judge 178 = .ok (.i2l, 1) := by decide +kernel
theorem dX11_judge_179 : decode cX11_judge 179 = .ok (.lastore, 1) := by decide +kernel
theorem dX11_judge_180 : decode cX11_judge 180 = .ok (.aload 13, 2) := by decide +kernel
theorem dX11_judge_182 : decode cX11_judge 182 = .ok (.bipush 8, 2) := by decide +kernel
theorem dX11_judge_184 : decode cX11_judge 184 = .ok (.aload 8, 2) := by decide +kernel
theorem dX11_judge_186 : decode cX11_judge 186 = .ok (.getfield 174, 3) := by decide +kernel
theorem dX11_judge_189 : decode cX11_judge 189 = .ok (.ifCond .ne 11, 3) := by decide +kernel
theorem dX11_judge_192 : decode cX11_judge 192 = .ok (.aload 9, 2) := by decide +kernel
theorem dX11_judge_194 : decode cX11_judge 194 = .ok (.getfield 174, 3) := by decide +kernel
theorem dX11_judge_197 : decode cX11_judge 197 = .ok (.ifCond .eq 7, 3) := by decide +kernel
theorem dX11_judge_200 : decode cX11_judge 200 = .ok (.lconst 1, 1) := by decide +kernel
theorem dX11_judge_201 : decode cX11_judge 201 = .ok (.goto 4, 3) := by decide +kernel
theorem dX11_judge_204 : decode cX11_judge 204 = .ok (.lconst 0, 1) := by decide +kernel
theorem dX11_judge_205 : decode cX11_judge 205 = .ok (.lastore, 1) := by decide +kernel
theorem dX11_judge_206 : decode cX11_judge 206 = .ok (.aload 13, 2) := by decide +kernel
theorem dX11_judge_208 : decode cX11_judge 208 = .ok (.bipush 9, 2) := by decide +kernel
theorem dX11_judge_210 : decode cX11_judge 210 = .ok (.iload 11, 2) := by decide +kernel
theorem dX11_judge_212 : decode cX11_judge 212 = .ok (.iload_n 1, 1) := by decide +kernel
theorem dX11_judge_213 : decode cX11_judge 213 = .ok (.if_icmp .eq 9, 3) := by decide +kernel
theorem dX11_judge_216 : decode cX11_judge 216 = .ok (.iload 11, 2) := by decide +kernel
theorem dX11_judge_218 : decode cX11_judge 218 = .ok (.iload_n 2, 1) := by decide +kernel
theorem dX11_judge_219 : decode cX11_judge 219 = .ok (.if_icmp .ne 7, 3) := by decide +kernel
theorem dX11_judge_222 : decode cX11_judge 222 = .ok (.lconst 1, 1) := by decide +kernel
theorem dX11_judge_223 : decode cX11_judge 223 = .ok (.goto 4, 3) := by decide +kernel
theorem dX11_judge_226 : decode cX11_judge 226 = .ok (.lconst 0, 1) := by decide +kernel
theorem dX11_judge_227 : decode cX11_judge 227 = .ok (.lastore, 1) := by decide +kernel
theorem dX11_judge_228 : decode cX11_judge 228 = .ok (.aload 13, 2) := by decide +kernel
theorem dX11_judge_230 : decode cX11_judge 230 = .ok (.bipush 10, 2) := by decide +kernel
theorem dX11_judge_232 : decode cX11_judge 232 = .ok (.aload_n 0, 1) := by decide +kernel
theorem dX11_judge_233 : decode cX11_judge 233 = .ok (.iload_n 2, 1) := by decide +kernel
theorem dX11_judge_234 : decode cX11_judge 234 = .ok (.iconst 0, 1) := by decide +kernel
theorem dX11_judge_235 : decode cX11_judge 235 = .ok (.invokevirtual 170, 3) := by decide +kernel
theorem dX11_judge_238 : decode cX11_judge 238 = .ok (.i2l, 1) := by decide +kernel
theorem dX11_judge_239 : decode cX11_judge 239 = .ok (.lastore, 1) := by decide +kernel
theorem dX11_judge_240 : decode cX11_judge 240 = .ok (.aload 13, 2) := by decide +kernel
theorem dX11_judge_242 : decode cX11_judge 242 = .ok (.bipush 11, 2) := by decide +kernel
theorem dX11_judge_244 : decode cX11_judge 244 = .ok (.aload_n 0, 1) := by decide +kernel
theorem dX11_judge_245 : decode cX11_judge 245 = .ok (.iload_n 2, 1) := by decide +kernel
theorem dX11_judge_246 : decode cX11_judge 246 = .ok (.iconst 1, 1) := by decide +kernel
theorem dX11_judge_247 : decode cX11_judge 247 = .ok (.invokevirtual 170, 3) := by decide +kernel
theorem dX11_judge_250 : decode cX11_judge 250 = .ok (.i2l, 1) := by decide +kernel
theorem dX11_judge_251 : decode cX11_judge 251 = .ok (.lastore, 1) := by decide +kernel
theorem dX11_judge_252 : decode cX11_judge 252 = .ok (.aload 13, 2) := by decide +kernel
theorem dX11_judge_254 : decode cX11_judge 254 = .ok (.bipush 12, 2) := by decide +kernel
theorem dX11_judge_256 : decode cX11_judge 256 = .ok (.iload 12, 2) := by decide +kernel
theorem dX11_judge_258 : decode cX11_judge 258 = .ok (.ifCond .eq 7, 3) := by decide +kernel
theorem dX11_judge_261 : decode cX11_judge 261 = .ok (.lconst 1, 1) := by decide +kernel
theorem dX11_judge_262 : decode cX11_judge 262 = .ok (.goto 4, 3) := by decide +kernel
theorem dX11_judge_265 : decode cX11_judge 265 = .ok (.lconst 0, 1) := by decide +kernel
theorem dX11_judge_266 : decode cX11_judge 266 = .ok (.lastore, 1) := by decide +kernel
theorem dX11_judge_267 : decode cX11_judge 267 = .ok (.aload 13, 2) := by decide +kernel
theorem dX11_judge_269 : decode cX11_judge 269 = .ok (.bipush 13, 2) := by decide +kernel
theorem dX11_judge_271 : decode cX11_judge 271 = .ok (.aload_n 0, 1) := by decide +kernel
theorem dX11_judge_272 : decode cX11_judge 272 = .ok (.getfield 50, 3) := by decide +kernel
theorem dX11_judge_275 : decode cX11_judge 275 = .ok (.bipush 8, 2) := by decide +kernel
theorem dX11_judge_277 : decode cX11_judge 277 = .ok (.iload 10, 2) := by decide +kernel
theorem dX11_judge_279 : decode cX11_judge 279 = .ok (.aload_n 0, 1) := by decide +kernel
theorem dX11_judge_280 : decode cX11_judge 280 = .ok (.getfield 75, 3) := by decide +kernel
theorem dX11_judge_283 : decode cX11_judge 283 = .ok (.invokevirtual 374, 3) := by decide +kernel
theorem dX11_judge_286 : decode cX11_judge 286 = .ok (.i2l, 1) := by decide +kernel
theorem dX11_judge_287 : decode cX11_judge 287 = .ok (.lastore, 1) := by decide +kernel
theorem dX11_judge_288 : decode cX11_judge 288 = .ok (.aload_n 0, 1) := by decide +kernel
theorem dX11_judge_289 : decode cX11_judge 289 = .ok (.getfield 36, 3) := by decide +kernel
theorem dX11_judge_292 : decode cX11_judge 292 = .ok (.aload_n 0, 1) := by decide +kernel
theorem dX11_judge_293 : decode cX11_judge 293 = .ok (.getfield 75, 3) := by decide +kernel
theorem dX11_judge_296 : decode cX11_judge 296 = .ok (.invokevirtual 508, 3) := by decide +kernel
theorem dX11_judge_299 : decode cX11_judge 299 = .ok (.ireturn, 1) := by decide +kernel
theorem dX11_elderOn_0 : decode cX11_elderOn 0 = .ok (.aload_n 0, 1) := by decide +kernel
theorem dX11_elderOn_1 : decode cX11_elderOn 1 = .ok (.getfield 86, 3) := by decide +kernel
theorem dX11_elderOn_4 : decode cX11_elderOn 4 = .ok (.iconst 1, 1) := by decide +kernel
theorem dX11_elderOn_5 : decode cX11_elderOn 5 = .ok (.if_icmp .lt 12, 3) := by decide +kernel
theorem dX11_elderOn_8 : decode cX11_elderOn 8 = .ok (.aload_n 0, 1) := by decide +kernel
theorem dX11_elderOn_9 : decode cX11_elderOn 9 = .ok (.getfield 83, 3) := by decide +kernel
theorem dX11_elderOn_12 : decode cX11_elderOn 12 = .ok (.arraylength, 1) := by decide +kernel
theorem dX11_elderOn_13 : decode cX11_elderOn 13 = .ok (.iconst 1, 1) := by decide +kernel
theorem dX11_elderOn_14 : decode cX11_elderOn 14 = .ok (.if_icmp .ge 5, 3) := by decide +kernel
theorem dX11_elderOn_17 : decode cX11_elderOn 17 = .ok (.iconst (-1), 1) := by decide +kernel
theorem dX11_elderOn_18 : decode cX11_elderOn 18 = .ok (.ireturn, 1) := by decide +kernel
theorem dX11_elderOn_19 : decode cX11_elderOn 19 = .ok (.iload_n 1, 1) := by decide +kernel
theorem dX11_elderOn_20 : decode cX11_elderOn 20 = .ok (.aload_n 0, 1) := by decide +kernel
theorem dX11_elderOn_21 : decode cX11_elderOn 21 = .ok (.getfield 86, 3) := by decide +kernel
theorem dX11_elderOn_24 : decode cX11_elderOn 24 = .ok (.idiv, 1) := by decide +kernel
theorem dX11_elderOn_25 : decode cX11_elderOn 25 = .ok (.istore_n 2, 1) := by decide +kernel
theorem dX11_elderOn_26 : decode cX11_elderOn 26 = .ok (.iconst 0, 1) := by decide +kernel
theorem dX11_elderOn_27 : decode cX11_elderOn 27 = .ok (.istore_n 3, 1) := by decide +kernel
theorem dX11_elderOn_28 : decode cX11_elderOn 28 = .ok (.iload_n 3, 1) := by decide +kernel
theorem dX11_elderOn_29 : decode cX11_elderOn 29 = .ok (.aload_n 0, 1) := by decide +kernel
theorem dX11_elderOn_30 : decode cX11_elderOn 30 = .ok (.getfield 83, 3) := by decide +kernel
theorem dX11_elderOn_33 : decode cX11_elderOn 33 = .ok (.arraylength, 1) := by decide +kernel
theorem dX11_elderOn_34 : decode cX11_elderOn 34 = .ok (.if_icmp .ge 44, 3) := by decide +kernel
theorem dX11_elderOn_37 : decode cX11_elderOn 37 = .ok (.aload_n 0, 1) := by decide +kernel
theorem dX11_elderOn_38 : decode cX11_elderOn 38 = .ok (.aload_n 0, 1) := by decide +kernel
theorem dX11_elderOn_39 : decode cX11_elderOn 39 = .ok (.getfield 83, 3) := by decide +kernel
theorem dX11_elderOn_42 : decode cX11_elderOn 42 = .ok (.iload_n 2, 1) := by decide +kernel
theorem dX11_elderOn_43 : decode cX11_elderOn 43 = .ok (.iload_n 3, 1) := by decide +kernel
theorem dX11_elderOn_44 : decode cX11_elderOn 44 = .ok (.iadd, 1) := by decide +kernel
theorem dX11_elderOn_45 : decode cX11_elderOn 45 = .ok (.aload_n 0, 1) := by decide +kernel
theorem dX11_elderOn_46 : decode cX11_elderOn 46 = .ok (.getfield 83, 3) := by decide +kernel
theorem dX11_elderOn_49 : decode cX11_elderOn 49 = .ok (.arraylength, 1) := by decide +kernel
theorem dX11_elderOn_50 : decode cX11_elderOn 50 = .ok (.irem, 1) := by decide +kernel
theorem dX11_elderOn_51 : decode cX11_elderOn 51 = .ok (.iaload, 1) := by decide +kernel
theorem dX11_elderOn_52 : decode cX11_elderOn 52 = .ok (.iload_n 2, 1) := by decide +kernel
theorem dX11_elderOn_53 : decode cX11_elderOn 53 = .ok (.aload_n 0, 1) := by decide +kernel
theorem dX11_elderOn_54 : decode cX11_elderOn 54 = .ok (.getfield 86, 3) := by decide +kernel
theorem dX11_elderOn_57 : decode cX11_elderOn 57 = .ok (.imul, 1) := by decide +kernel
theorem dX11_elderOn_58 : decode cX11_elderOn 58 = .ok (.invokevirtual 511, 3) := by decide +kernel
theorem dX11_elderOn_61 : decode cX11_elderOn 61 = .ok (.istore 4, 2) := by decide +kernel
theorem dX11_elderOn_63 : decode cX11_elderOn 63 = .ok (.iload 4, 2) := by decide +kernel
theorem dX11_elderOn_65 : decode cX11_elderOn 65 = .ok (.iconst (-1), 1) := by decide +kernel
theorem dX11_elderOn_66 : decode cX11_elderOn 66 = .ok (.if_icmp .eq 6, 3) := by decide +kernel
theorem dX11_elderOn_69 : decode cX11_elderOn 69 = .ok (.iload 4, 2) := by decide +kernel
theorem dX11_elderOn_71 : decode cX11_elderOn 71 = .ok (.ireturn, 1) := by decide +kernel
theorem dX11_elderOn_72 : decode cX11_elderOn 72 = .ok (.iinc 3 1, 3) := by decide +kernel
theorem dX11_elderOn_75 : decode cX11_elderOn 75 = .ok (.goto (-47), 3) := by decide +kernel
theorem dX11_elderOn_78 : decode cX11_elderOn 78 = .ok (.iconst (-1), 1) := by decide +kernel
theorem dX11_elderOn_79 : decode cX11_elderOn 79 = .ok (.ireturn, 1) := by decide +kernel
theorem dX11_leastMan_0 : decode cX11_leastMan 0 = .ok (.iconst 0, 1) := by decide +kernel
theorem dX11_leastMan_1 : decode cX11_leastMan 1 = .ok (.istore_n 3, 1) := by decide +kernel
theorem dX11_leastMan_2 : decode cX11_leastMan 2 = .ok (.iload_n 3, 1) := by decide +kernel
theorem dX11_leastMan_3 : decode cX11_leastMan 3 = .ok (.aload_n 0, 1) := by decide +kernel
theorem dX11_leastMan_4 : decode cX11_leastMan 4 = .ok (.getfield 10, 3) := by decide +kernel
theorem dX11_leastMan_7 : decode cX11_leastMan 7 = .ok (.invokevirtual 89, 3) := by decide +kernel
theorem dX11_leastMan_10 : decode cX11_leastMan 10 = .ok (.if_icmp .ge 47, 3) := by decide +kernel
theorem dX11_leastMan_13 : decode cX11_leastMan 13 = .ok (.aload_n 0, 1) := by decide +kernel
theorem dX11_leastMan_14 : decode cX11_leastMan 14 = .ok (.getfield 10, 3) := by decide +kernel
theorem dX11_leastMan_17 : decode cX11_leastMan 17 = .ok (.iload_n 3, 1) := by decide +kernel
theorem dX11_leastMan_18 : decode cX11_leastMan 18 = .ok (.invokevirtual 151, 3) := by decide +kernel
theorem dX11_leastMan_21 : decode cX11_leastMan 21 = .ok (.checkcast 98, 3) := by decide +kernel
theorem dX11_leastMan_24 : decode cX11_leastMan 24 = .ok (.getfield 121, 3) := by decide +kernel
theorem dX11_leastMan_27 : decode cX11_leastMan 27 = .ok (.iload_n 1, 1) := by decide +kernel
theorem dX11_leastMan_28 : decode cX11_leastMan 28 = .ok (.if_icmp .ne 23, 3) := by decide +kernel
theorem dX11_leastMan_31 : decode cX11_leastMan 31 = .ok (.aload_n 0, 1) := by decide +kernel
theorem dX11_leastMan_32 : decode cX11_leastMan 32 = .ok (.getfield 10, 3) := by decide +kernel
theorem dX11_leastMan_35 : decode cX11_leastMan 35 = .ok (.iload_n 3, 1) := by decide +kernel
theorem dX11_leastMan_36 : decode cX11_leastMan 36 = .ok (.invokevirtual 151, 3) := by decide +kernel
theorem dX11_leastMan_39 : decode cX11_leastMan 39 = .ok (.checkcast 98, 3) := by decide +kernel
theorem dX11_leastMan_42 : decode cX11_leastMan 42 = .ok (.iload_n 2, 1) := by decide +kernel
theorem dX11_leastMan_43 : decode cX11_leastMan 43 = .ok (.invokevirtual 514, 3) := by decide +kernel
theorem dX11_leastMan_46 : decode cX11_leastMan 46 = .ok (.ifCond .eq 5, 3) := by decide +kernel
theorem dX11_leastMan_49 : decode cX11_leastMan 49 = .ok (.iload_n 3, 1) := by decide +kernel
theorem dX11_leastMan_50 : decode cX11_leastMan 50 = .ok (.ireturn, 1) := by decide +kernel
theorem dX11_leastMan_51 : decode cX11_leastMan 51 = .ok (.iinc 3 1, 3) := by decide +kernel
theorem dX11_leastMan_54 : decode cX11_leastMan 54 = .ok (.goto (-52), 3) := by decide +kernel
theorem dX11_leastMan_57 : decode cX11_leastMan 57 = .ok (.iconst (-1), 1) := by decide +kernel
theorem dX11_leastMan_58 : decode cX11_leastMan 58 = .ok (.ireturn, 1) := by decide +kernel
theorem dX11_heirOf_0 : decode cX11_heirOf 0 = .ok (.aload_n 0, 1) := by decide +kernel
theorem dX11_heirOf_1 : decode cX11_heirOf 1 = .ok (.iload_n 1, 1) := by decide +kernel
theorem dX11_heirOf_2 : decode cX11_heirOf 2 = .ok (.aload_n 0, 1) := by decide +kernel
theorem dX11_heirOf_3 : decode cX11_heirOf 3 = .ok (.getfield 75, 3) := by decide +kernel
theorem dX11_heirOf_6 : decode cX11_heirOf 6 = .ok (.invokevirtual 511, 3) := by decide +kernel
theorem dX11_heirOf_9 : decode cX11_heirOf 9 = .ok (.ireturn, 1) := by decide +kernel
theorem dX11_payBargainsOf_0 : decode cX11_payBargainsOf 0 = .ok (.aload_n 0, 1) := by decide +kernel
theorem dX11_payBargainsOf_1 : decode cX11_payBargainsOf 1 = .ok (.iload_n 1, 1) := by decide +kernel
theorem dX11_payBargainsOf_2 : decode cX11_payBargainsOf 2 = .ok (.iconst (-1), 1) := by decide +kernel
theorem dX11_payBargainsOf_3 : decode cX11_payBargainsOf 3 = .ok (.invokevirtual 517, 3) := by decide +kernel
theorem dX11_payBargainsOf_6 : decode cX11_payBargainsOf 6 = .ok (.istore_n 2, 1) := by decide +kernel
theorem dX11_payBargainsOf_7 : decode cX11_payBargainsOf 7 = .ok (.iconst 0, 1) := by decide +kernel
theorem dX11_payBargainsOf_8 : decode cX11_payBargainsOf 8 = .ok (.istore_n 3, 1) := by decide +kernel
theorem dX11_payBargainsOf_9 : decode cX11_payBargainsOf 9 = .ok (.iload_n 3, 1) := by decide +kernel
theorem dX11_payBargainsOf_10 : decode cX11_payBargainsOf 10 = .ok (.sipush 300, 3) := by decide +kernel
theorem dX11_payBargainsOf_13 : decode cX11_payBargainsOf 13 = .ok (.if_icmp .ge 46, 3) := by decide +kernel
theorem dX11_payBargainsOf_16 : decode cX11_payBargainsOf 16 = .ok (.iload_n 2, 1) := by decide +kernel
theorem dX11_payBargainsOf_17 : decode cX11_payBargainsOf 17 = .ok (.iconst (-1), 1) := by decide +kernel
theorem dX11_payBargainsOf_18 : decode cX11_payBargainsOf 18 = .ok (.if_icmp .eq 41, 3) := by decide +kernel
theorem dX11_payBargainsOf_21 : decode cX11_payBargainsOf 21 = .ok (.aload_n 0, 1) := by decide +kernel
theorem dX11_payBargainsOf_22 : decode cX11_payBargainsOf 22 = .ok (.getfield 19, 3) := by decide +kernel
theorem dX11_payBargainsOf_25 : decode cX11_payBargainsOf 25 = .ok (.iload_n 2, 1) := by decide +kernel
theorem dX11_payBargainsOf_26 : decode cX11_payBargainsOf 26 = .ok (.invokevirtual 151, 3) := by decide +kernel
theorem dX11_payBargainsOf_29 : decode cX11_payBargainsOf 29 = .ok (.checkcast 256, 3) := by decide +kernel
theorem dX11_payBargainsOf_32 : decode cX11_payBargainsOf 32 = .ok (.astore 4, 2) := by decide +kernel
theorem dX11_payBargainsOf_34 : decode cX11_payBargainsOf 34 = .ok (.aload_n 0, 1) := by decide +kernel
theorem dX11_payBargainsOf_35 : decode cX11_payBargainsOf 35 = .ok (.aload 4, 2) := by decide +kernel
theorem dX11_payBargainsOf_37 : decode cX11_payBargainsOf 37 = .ok (.aload 4, 2) := by decide +kernel
theorem dX11_payBargainsOf_39 : decode cX11_payBargainsOf 39 = .ok (.getfield 288, 3) := by decide +kernel
theorem dX11_payBargainsOf_42 : decode cX11_payBargainsOf 42 = .ok (.invokevirtual 261, 3) := by decide +kernel
theorem dX11_payBargainsOf_45 : decode cX11_payBargainsOf 45 = .ok (.pop, 1) := by decide +kernel
theorem dX11_payBargainsOf_46 : decode cX11_payBargainsOf 46 = .ok (.aload_n 0, 1) := by decide +kernel
theorem dX11_payBargainsOf_47 : decode cX11_payBargainsOf 47 = .ok (.iload_n 1, 1) := by decide +kernel
theorem dX11_payBargainsOf_48 : decode cX11_payBargainsOf 48 = .ok (.iload_n 2, 1) := by decide +kernel
theorem dX11_payBargainsOf_49 : decode cX11_payBargainsOf 49 = .ok (.invokevirtual 517, 3) := by decide +kernel
theorem dX11_payBargainsOf_52 : decode cX11_payBargainsOf 52 = .ok (.istore_n 2, 1) := by decide +kernel
theorem dX11_payBargainsOf_53 : decode cX11_payBargainsOf 53 = .ok (.iinc 3 1, 3) := by decide +kernel
theorem dX11_payBargainsOf_56 : decode cX11_payBargainsOf 56 = .ok (.goto (-47), 3) := by decide +kernel
theorem dX11_payBargainsOf_59 : decode cX11_payBargainsOf 59 = .ok (.return_, 1) := by decide +kernel
theorem dX11_nextDebt_0 : decode cX11_nextDebt 0 = .ok (.iload_n 2, 1) := by decide +kernel
theorem dX11_nextDebt_1 : decode cX11_nextDebt 1 = .ok (.iconst (-1), 1) := by decide +kernel
theorem dX11_nextDebt_2 : decode cX11_nextDebt 2 = .ok (.if_icmp .ne 7, 3) := by decide +kernel
theorem dX11_nextDebt_5 : decode cX11_nextDebt 5 = .ok (.iconst (-1), 1) := by decide +kernel
theorem dX11_nextDebt_6 : decode cX11_nextDebt 6 = .ok (.goto 17, 3) := by decide +kernel
theorem dX11_nextDebt_9 : decode cX11_nextDebt 9 = .ok (.aload_n 0, 1) := by decide +kernel
theorem dX11_nextDebt_10 : decode cX11_nextDebt 10 = .ok (.getfield 19, 3) := by decide +kernel
theorem dX11_nextDebt_13 : decode cX11_nextDebt 13 = .ok (.iload_n 2, 1) := by decide +kernel
theorem dX11_nextDebt_14 : decode cX11_nextDebt 14 = .ok (.invokevirtual 151, 3) := by decide +kernel
theorem dX11_nextDebt_17 : decode cX11_nextDebt 17 = .ok (.checkcast 256, 3) := by decide +kernel
theorem dX11_nextDebt_20 : decode cX11_nextDebt 20 = .ok (.getfield 291, 3) := by decide +kernel
theorem dX11_nextDebt_23 : decode cX11_nextDebt 23 = .ok (.istore_n 3, 1) := by decide +kernel
theorem dX11_nextDebt_24 : decode cX11_nextDebt 24 = .ok (.iconst (-1), 1) := by decide +kernel
theorem dX11_nextDebt_25 : decode cX11_nextDebt 25 = .ok (.istore 4, 2) := by decide +kernel
theorem dX11_nextDebt_27 : decode cX11_nextDebt 27 = .ok (.iconst (-1), 1) := by decide +kernel
theorem dX11_nextDebt_28 : decode cX11_nextDebt 28 = .ok (.istore 5, 2) := by decide +kernel
theorem dX11_nextDebt_30 : decode cX11_nextDebt 30 = .ok (.iconst 0, 1) := by decide +kernel
theorem dX11_nextDebt_31 : decode cX11_nextDebt 31 = .ok (.istore 6, 2) := by decide +kernel
theorem dX11_nextDebt_33 : decode cX11_nextDebt 33 = .ok (.iload 6, 2) := by decide +kernel
theorem dX11_nextDebt_35 : decode cX11_nextDebt 35 = .ok (.aload_n 0, 1) := by decide +kernel
theorem dX11_nextDebt_36 : decode cX11_nextDebt 36 = .ok (.getfield 19, 3) := by decide +kernel
theorem dX11_nextDebt_39 : decode cX11_nextDebt 39 = .ok (.invokevirtual 89, 3) := by decide +kernel
theorem dX11_nextDebt_42 : decode cX11_nextDebt 42 = .ok (.if_icmp .ge 104, 3) := by decide +kernel
theorem dX11_nextDebt_45 : decode cX11_nextDebt 45 = .ok (.aload_n 0, 1) := by decide +kernel
theorem dX11_nextDebt_46 : decode cX11_nextDebt 46 = .ok (.getfield 19, 3) := by decide +kernel
theorem dX11_nextDebt_49 : decode cX11_nextDebt 49 = .ok (.iload 6, 2) := by decide +kernel
theorem dX11_nextDebt_51 : decode cX11_nextDebt 51 = .ok (.invokevirtual 151, 3) := by decide +kernel
theorem dX11_nextDebt_54 : decode cX11_nextDebt 54 = .ok (.checkcast 256, 3) := by decide +kernel
theorem dX11_nextDebt_57 : decode cX11_nextDebt 57 = .ok (.astore 7, 2) := by decide +kernel
theorem dX11_nextDebt_59 : decode cX11_nextDebt 59 = .ok (.aload 7, 2) := by decide +kernel
theorem dX11_nextDebt_61 : decode cX11_nextDebt 61 = .ok (.getfield 291, 3) := by decide +kernel
theorem dX11_nextDebt_64 : decode cX11_nextDebt 64 = .ok (.iload_n 3, 1) := by decide +kernel
theorem dX11_nextDebt_65 : decode cX11_nextDebt 65 = .ok (.if_icmp .gt 18, 3) := by decide +kernel
theorem dX11_nextDebt_68 : decode cX11_nextDebt 68 = .ok (.aload 7, 2) := by decide +kernel
theorem dX11_nextDebt_70 : decode cX11_nextDebt 70 = .ok (.getfield 291, 3) := by decide +kernel
theorem dX11_nextDebt_73 : decode cX11_nextDebt 73 = .ok (.iload_n 3, 1) := by decide +kernel
theorem dX11_nextDebt_74 : decode cX11_nextDebt 74 = .ok (.if_icmp .ne 13, 3) := by decide +kernel
theorem dX11_nextDebt_77 : decode cX11_nextDebt 77 = .ok (.iload 6, 2) := by decide +kernel
theorem dX11_nextDebt_79 : decode cX11_nextDebt 79 = .ok (.iload_n 2, 1) := by decide +kernel
theorem dX11_nextDebt_80 : decode cX11_nextDebt 80 = .ok (.if_icmp .le 7, 3) := by decide +kernel
theorem dX11_nextDebt_83 : decode cX11_nextDebt 83 = .ok (.iconst 1, 1) := by decide +kernel
theorem dX11_nextDebt_84 : decode cX11_nextDebt 84 = .ok (.goto 4, 3) := by decide +kernel
theorem dX11_nextDebt_87 : decode cX11_nextDebt 87 = .ok (.iconst 0, 1) := by decide +kernel
theorem dX11_nextDebt_88 : decode cX11_nextDebt 88 = .ok (.istore 8, 2) := by decide +kernel
theorem dX11_nextDebt_90 : decode cX11_nextDebt 90 = .ok (.aload 7, 2) := by decide +kernel
theorem dX11_nextDebt_92 : decode cX11_nextDebt 92 = .ok (.getfield 279, 3) := by decide +kernel
theorem dX11_nextDebt_95 : decode cX11_nextDebt 95 = .ok (.iload_n 1, 1) := by decide +kernel
theorem dX11_nextDebt_96 : decode cX11_nextDebt 96 = .ok (.if_icmp .ne 44, 3) := by decide +kernel
theorem dX11_nextDebt_99 : decode cX11_nextDebt 99 = .ok (.aload 7, 2) := by decide +kernel
theorem dX11_nextDebt_101 : decode cX11_nextDebt 101 = .ok (.getfield 291, 3) := by decide +kernel
theorem dX11_nextDebt_104 : decode cX11_nextDebt 104 = .ok (.iconst (-1), 1) := by decide +kernel
theorem dX11_nextDebt_105 : decode cX11_nextDebt 105 = .ok (.if_icmp .eq 35, 3) := by decide +kernel
theorem dX11_nextDebt_108 : decode cX11_nextDebt 108 = .ok (.iload 8, 2) := by decide +kernel
theorem dX11_nextDebt_110 : decode cX11_nextDebt 110 = .ok (.ifCond .eq 30, 3) := by decide +kernel
theorem dX11_nextDebt_113 : decode cX11_nextDebt 113 = .ok (.iload 4, 2) := by decide +kernel
theorem dX11_nextDebt_115 : decode cX11_nextDebt 115 = .ok (.iconst (-1), 1) := by decide +kernel
theorem dX11_nextDebt_116 : decode cX11_nextDebt 116 = .ok (.if_icmp .eq 13, 3) := by decide +kernel
theorem dX11_nextDebt_119 : decode cX11_nextDebt 119 = .ok (.aload 7, 2) := by decide +kernel
theorem dX11_nextDebt_121 : decode cX11_nextDebt 121 = .ok (.getfield 291, 3) := by decide +kernel
theorem dX11_nextDebt_124 : decode cX11_nextDebt 124 = .ok (.iload 5, 2) := by decide +kernel
theorem dX11_nextDebt_126 : decode cX11_nextDebt 126 = .ok (.if_icmp .ge 14, 3) := by decide +kernel
theorem dX11_nextDebt_129 : decode cX11_nextDebt 129 = .ok (.iload 6, 2) := by decide +kernel
theorem dX11_nextDebt_131 : decode cX11_nextDebt 131 = .ok (.istore 4, 2) := by decide +kernel
theorem dX11_nextDebt_133 : decode cX11_nextDebt 133 = .ok (.aload 7, 2) := by decide +kernel
theorem dX11_nextDebt_135 : decode cX11_nextDebt 135 = .ok (.getfield 291, 3) := by decide +kernel
theorem dX11_nextDebt_138 : decode cX11_nextDebt 138 = .ok (.istore 5, 2) := by decide +kernel
theorem dX11_nextDebt_140 : decode cX11_nextDebt 140 = .ok (.iinc 6 1, 3) := by decide +kernel
theorem dX11_nextDebt_143 : decode cX11_nextDebt 143 = .ok (.goto (-110), 3) := by decide +kernel
theorem dX11_nextDebt_146 : decode cX11_nextDebt 146 = .ok (.iload 4, 2) := by decide +kernel
theorem dX11_nextDebt_148 : decode cX11_nextDebt 148 = .ok (.ireturn, 1) := by decide +kernel
theorem dX11_payClaimsOf_0 : decode cX11_payClaimsOf 0 = .ok (.iconst 0, 1) := by decide +kernel
theorem dX11_payClaimsOf_1 : decode cX11_payClaimsOf 1 = .ok (.istore_n 2, 1) := by decide +kernel
theorem dX11_payClaimsOf_2 : decode cX11_payClaimsOf 2 = .ok (.iload_n 2, 1) := by decide +kernel
theorem dX11_payClaimsOf_3 : decode cX11_payClaimsOf 3 = .ok (.aload_n 0, 1) := by decide +kernel
theorem dX11_payClaimsOf_4 : decode cX11_payClaimsOf 4 = .ok (.getfield 19, 3) := by decide +kernel
theorem dX11_payClaimsOf_7 : decode cX11_payClaimsOf 7 = .ok (.invokevirtual 89, 3) := by decide +kernel
theorem dX11_payClaimsOf_10 : decode cX11_payClaimsOf 10 = .ok (.if_icmp .ge 62, 3) := by decide +kernel
theorem dX11_payClaimsOf_13 : decode cX11_payClaimsOf 13 = .ok (.aload_n 0, 1) := by decide +kernel
theorem dX11_payClaimsOf_14 : decode cX11_payClaimsOf 14 = .ok (.getfield 19, 3) := by decide +kernel
theorem dX11_payClaimsOf_17 : decode cX11_payClaimsOf 17 = .ok (.iload_n 2, 1) := by decide +kernel
