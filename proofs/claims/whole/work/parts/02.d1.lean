theorem dX5_readValue_96 : decode cX5_readValue 96 = .ok (.invokevirtual 121, 3) := by decide +kernel
theorem dX5_readValue_99 : decode cX5_readValue 99 = .ok (.ireturn, 1) := by decide +kernel
theorem dX5_readValue_100 : decode cX5_readValue 100 = .ok (.aload_n 0, 1) := by decide +kernel
theorem dX5_readValue_101 : decode cX5_readValue 101 = .ok (.dup, 1) := by decide +kernel
theorem dX5_readValue_102 : decode cX5_readValue 102 = .ok (.getfield 48, 3) := by decide +kernel
theorem dX5_readValue_105 : decode cX5_readValue 105 = .ok (.iconst 1, 1) := by decide +kernel
theorem dX5_readValue_106 : decode cX5_readValue 106 = .ok (.iadd, 1) := by decide +kernel
theorem dX5_readValue_107 : decode cX5_readValue 107 = .ok (.putfield 48, 3) := by decide +kernel
theorem dX5_readValue_110 : decode cX5_readValue 110 = .ok (.iload_n 3, 1) := by decide +kernel
theorem dX5_readValue_111 : decode cX5_readValue 111 = .ok (.ifCond .ne 34, 3) := by decide +kernel
theorem dX5_readValue_114 : decode cX5_readValue 114 = .ok (.aload_n 0, 1) := by decide +kernel
theorem dX5_readValue_115 : decode cX5_readValue 115 = .ok (.iload_n 2, 1) := by decide +kernel
theorem dX5_readValue_116 : decode cX5_readValue 116 = .ok (.bipush 21, 2) := by decide +kernel
theorem dX5_readValue_118 : decode cX5_readValue 118 = .ok (.if_icmp .ne 15, 3) := by decide +kernel
theorem dX5_readValue_121 : decode cX5_readValue 121 = .ok (.aload_n 0, 1) := by decide +kernel
theorem dX5_readValue_122 : decode cX5_readValue 122 = .ok (.getfield 22, 3) := by decide +kernel
theorem dX5_readValue_125 : decode cX5_readValue 125 = .ok (.aload_n 0, 1) := by decide +kernel
theorem dX5_readValue_126 : decode cX5_readValue 126 = .ok (.getfield 45, 3) := by decide +kernel
theorem dX5_readValue_129 : decode cX5_readValue 129 = .ok (.iaload, 1) := by decide +kernel
theorem dX5_readValue_130 : decode cX5_readValue 130 = .ok (.goto 6, 3) := by decide +kernel
theorem dX5_readValue_133 : decode cX5_readValue 133 = .ok (.iconst (-1), 1) := by decide +kernel
theorem dX5_readValue_134 : decode cX5_readValue 134 = .ok (.iload_n 2, 1) := by decide +kernel
theorem dX5_readValue_135 : decode cX5_readValue 135 = .ok (.isub, 1) := by decide +kernel
theorem dX5_readValue_136 : decode cX5_readValue 136 = .ok (.invokevirtual 136, 3) := by decide +kernel
theorem dX5_readValue_139 : decode cX5_readValue 139 = .ok (.aload_n 0, 1) := by decide +kernel
theorem dX5_readValue_140 : decode cX5_readValue 140 = .ok (.invokevirtual 124, 3) := by decide +kernel
theorem dX5_readValue_143 : decode cX5_readValue 143 = .ok (.iconst 1, 1) := by decide +kernel
theorem dX5_readValue_144 : decode cX5_readValue 144 = .ok (.ireturn, 1) := by decide +kernel
theorem dX5_readValue_145 : decode cX5_readValue 145 = .ok (.aload_n 0, 1) := by decide +kernel
theorem dX5_readValue_146 : decode cX5_readValue 146 = .ok (.invokevirtual 124, 3) := by decide +kernel
theorem dX5_readValue_149 : decode cX5_readValue 149 = .ok (.aload_n 0, 1) := by decide +kernel
theorem dX5_readValue_150 : decode cX5_readValue 150 = .ok (.iload_n 1, 1) := by decide +kernel
theorem dX5_readValue_151 : decode cX5_readValue 151 = .ok (.iconst 1, 1) := by decide +kernel
theorem dX5_readValue_152 : decode cX5_readValue 152 = .ok (.iadd, 1) := by decide +kernel
theorem dX5_readValue_153 : decode cX5_readValue 153 = .ok (.invokevirtual 140, 3) := by decide +kernel
theorem dX5_readValue_156 : decode cX5_readValue 156 = .ok (.ifCond .ne 5, 3) := by decide +kernel
theorem dX5_readValue_159 : decode cX5_readValue 159 = .ok (.iconst 0, 1) := by decide +kernel
theorem dX5_readValue_160 : decode cX5_readValue 160 = .ok (.ireturn, 1) := by decide +kernel
theorem dX5_readValue_161 : decode cX5_readValue 161 = .ok (.aload_n 0, 1) := by decide +kernel
theorem dX5_readValue_162 : decode cX5_readValue 162 = .ok (.getfield 15, 3) := by decide +kernel
theorem dX5_readValue_165 : decode cX5_readValue 165 = .ok (.aload_n 0, 1) := by decide +kernel
theorem dX5_readValue_166 : decode cX5_readValue 166 = .ok (.getfield 45, 3) := by decide +kernel
theorem dX5_readValue_169 : decode cX5_readValue 169 = .ok (.iaload, 1) := by decide +kernel
theorem dX5_readValue_170 : decode cX5_readValue 170 = .ok (.bipush 25, 2) := by decide +kernel
theorem dX5_readValue_172 : decode cX5_readValue 172 = .ok (.if_icmp .eq 9, 3) := by decide +kernel
theorem dX5_readValue_175 : decode cX5_readValue 175 = .ok (.aload_n 0, 1) := by decide +kernel
theorem dX5_readValue_176 : decode cX5_readValue 176 = .ok (.iconst 0, 1) := by decide +kernel
theorem dX5_readValue_177 : decode cX5_readValue 177 = .ok (.invokevirtual 121, 3) := by decide +kernel
theorem dX5_readValue_180 : decode cX5_readValue 180 = .ok (.ireturn, 1) := by decide +kernel
theorem dX5_readValue_181 : decode cX5_readValue 181 = .ok (.aload_n 0, 1) := by decide +kernel
theorem dX5_readValue_182 : decode cX5_readValue 182 = .ok (.invokevirtual 124, 3) := by decide +kernel
theorem dX5_readValue_185 : decode cX5_readValue 185 = .ok (.iconst 1, 1) := by decide +kernel
theorem dX5_readValue_186 : decode cX5_readValue 186 = .ok (.ireturn, 1) := by decide +kernel
theorem dX5_goOn_0 : decode cX5_goOn 0 = .ok (.aload_n 0, 1) := by decide +kernel
theorem dX5_goOn_1 : decode cX5_goOn 1 = .ok (.getfield 45, 3) := by decide +kernel
theorem dX5_goOn_4 : decode cX5_goOn 4 = .ok (.iconst 1, 1) := by decide +kernel
theorem dX5_goOn_5 : decode cX5_goOn 5 = .ok (.iadd, 1) := by decide +kernel
theorem dX5_goOn_6 : decode cX5_goOn 6 = .ok (.aload_n 0, 1) := by decide +kernel
theorem dX5_goOn_7 : decode cX5_goOn 7 = .ok (.getfield 78, 3) := by decide +kernel
theorem dX5_goOn_10 : decode cX5_goOn 10 = .ok (.if_icmp .ge 13, 3) := by decide +kernel
theorem dX5_goOn_13 : decode cX5_goOn 13 = .ok (.aload_n 0, 1) := by decide +kernel
theorem dX5_goOn_14 : decode cX5_goOn 14 = .ok (.dup, 1) := by decide +kernel
theorem dX5_goOn_15 : decode cX5_goOn 15 = .ok (.getfield 45, 3) := by decide +kernel
theorem dX5_goOn_18 : decode cX5_goOn 18 = .ok (.iconst 1, 1) := by decide +kernel
theorem dX5_goOn_19 : decode cX5_goOn 19 = .ok (.iadd, 1) := by decide +kernel
theorem dX5_goOn_20 : decode cX5_goOn 20 = .ok (.putfield 45, 3) := by decide +kernel
theorem dX5_goOn_23 : decode cX5_goOn 23 = .ok (.return_, 1) := by decide +kernel
theorem dX5_pass_0 : decode cX5_pass 0 = .ok (.aload_n 0, 1) := by decide +kernel
theorem dX5_pass_1 : decode cX5_pass 1 = .ok (.getfield 15, 3) := by decide +kernel
theorem dX5_pass_4 : decode cX5_pass 4 = .ok (.aload_n 0, 1) := by decide +kernel
theorem dX5_pass_5 : decode cX5_pass 5 = .ok (.getfield 45, 3) := by decide +kernel
theorem dX5_pass_8 : decode cX5_pass 8 = .ok (.iaload, 1) := by decide +kernel
theorem dX5_pass_9 : decode cX5_pass 9 = .ok (.iload_n 1, 1) := by decide +kernel
theorem dX5_pass_10 : decode cX5_pass 10 = .ok (.if_icmp .eq 9, 3) := by decide +kernel
theorem dX5_pass_13 : decode cX5_pass 13 = .ok (.aload_n 0, 1) := by decide +kernel
theorem dX5_pass_14 : decode cX5_pass 14 = .ok (.iconst 0, 1) := by decide +kernel
theorem dX5_pass_15 : decode cX5_pass 15 = .ok (.invokevirtual 121, 3) := by decide +kernel
theorem dX5_pass_18 : decode cX5_pass 18 = .ok (.ireturn, 1) := by decide +kernel
theorem dX5_pass_19 : decode cX5_pass 19 = .ok (.aload_n 0, 1) := by decide +kernel
theorem dX5_pass_20 : decode cX5_pass 20 = .ok (.invokevirtual 124, 3) := by decide +kernel
theorem dX5_pass_23 : decode cX5_pass 23 = .ok (.iconst 1, 1) := by decide +kernel
theorem dX5_pass_24 : decode cX5_pass 24 = .ok (.ireturn, 1) := by decide +kernel
theorem dX5_fail_0 : decode cX5_fail 0 = .ok (.aload_n 0, 1) := by decide +kernel
theorem dX5_fail_1 : decode cX5_fail 1 = .ok (.iconst 1, 1) := by decide +kernel
theorem dX5_fail_2 : decode cX5_fail 2 = .ok (.bipush 8, 2) := by decide +kernel
theorem dX5_fail_4 : decode cX5_fail 4 = .ok (.aload_n 0, 1) := by decide +kernel
theorem dX5_fail_5 : decode cX5_fail 5 = .ok (.getfield 19, 3) := by decide +kernel
theorem dX5_fail_8 : decode cX5_fail 8 = .ok (.aload_n 0, 1) := by decide +kernel
theorem dX5_fail_9 : decode cX5_fail 9 = .ok (.getfield 45, 3) := by decide +kernel
theorem dX5_fail_12 : decode cX5_fail 12 = .ok (.iaload, 1) := by decide +kernel
theorem dX5_fail_13 : decode cX5_fail 13 = .ok (.imul, 1) := by decide +kernel
theorem dX5_fail_14 : decode cX5_fail 14 = .ok (.iadd, 1) := by decide +kernel
theorem dX5_fail_15 : decode cX5_fail 15 = .ok (.iload_n 1, 1) := by decide +kernel
theorem dX5_fail_16 : decode cX5_fail 16 = .ok (.iadd, 1) := by decide +kernel
theorem dX5_fail_17 : decode cX5_fail 17 = .ok (.putfield 51, 3) := by decide +kernel
theorem dX5_fail_20 : decode cX5_fail 20 = .ok (.iconst 0, 1) := by decide +kernel
theorem dX5_fail_21 : decode cX5_fail 21 = .ok (.ireturn, 1) := by decide +kernel
theorem dX5_emit_0 : decode cX5_emit 0 = .ok (.aload_n 0, 1) := by decide +kernel
theorem dX5_emit_1 : decode cX5_emit 1 = .ok (.getfield 54, 3) := by decide +kernel
theorem dX5_emit_4 : decode cX5_emit 4 = .ok (.aload_n 0, 1) := by decide +kernel
theorem dX5_emit_5 : decode cX5_emit 5 = .ok (.getfield 25, 3) := by decide +kernel
theorem dX5_emit_8 : decode cX5_emit 8 = .ok (.arraylength, 1) := by decide +kernel
theorem dX5_emit_9 : decode cX5_emit 9 = .ok (.if_icmp .ge 23, 3) := by decide +kernel
theorem dX5_emit_12 : decode cX5_emit 12 = .ok (.aload_n 0, 1) := by decide +kernel
theorem dX5_emit_13 : decode cX5_emit 13 = .ok (.getfield 25, 3) := by decide +kernel
theorem dX5_emit_16 : decode cX5_emit 16 = .ok (.aload_n 0, 1) := by decide +kernel
theorem dX5_emit_17 : decode cX5_emit 17 = .ok (.getfield 54, 3) := by decide +kernel
theorem dX5_emit_20 : decode cX5_emit 20 = .ok (.iload_n 1, 1) := by decide +kernel
theorem dX5_emit_21 : decode cX5_emit 21 = .ok (.iastore, 1) := by decide +kernel
theorem dX5_emit_22 : decode cX5_emit 22 = .ok (.aload_n 0, 1) := by decide +kernel
theorem dX5_emit_23 : decode cX5_emit 23 = .ok (.dup, 1) := by decide +kernel
theorem dX5_emit_24 : decode cX5_emit 24 = .ok (.getfield 54, 3) := by decide +kernel
theorem dX5_emit_27 : decode cX5_emit 27 = .ok (.iconst 1, 1) := by decide +kernel
theorem dX5_emit_28 : decode cX5_emit 28 = .ok (.iadd, 1) := by decide +kernel
theorem dX5_emit_29 : decode cX5_emit 29 = .ok (.putfield 54, 3) := by decide +kernel
theorem dX5_emit_32 : decode cX5_emit 32 = .ok (.return_, 1) := by decide +kernel
theorem dX6_init_0 : decode cX6_init 0 = .ok (.aload_n 0, 1) := by decide +kernel
theorem dX6_init_1 : decode cX6_init 1 = .ok (.invokespecial 1, 3) := by decide +kernel
theorem dX6_init_4 : decode cX6_init 4 = .ok (.aload_n 0, 1) := by decide +kernel
theorem dX6_init_5 : decode cX6_init 5 = .ok (.iload_n 1, 1) := by decide +kernel
theorem dX6_init_6 : decode cX6_init 6 = .ok (.putfield 7, 3) := by decide +kernel
theorem dX6_init_9 : decode cX6_init 9 = .ok (.aload_n 0, 1) := by decide +kernel
theorem dX6_init_10 : decode cX6_init 10 = .ok (.iload 4, 2) := by decide +kernel
theorem dX6_init_12 : decode cX6_init 12 = .ok (.putfield 13, 3) := by decide +kernel
theorem dX6_init_15 : decode cX6_init 15 = .ok (.aload_n 0, 1) := by decide +kernel
theorem dX6_init_16 : decode cX6_init 16 = .ok (.iload_n 2, 1) := by decide +kernel
theorem dX6_init_17 : decode cX6_init 17 = .ok (.putfield 16, 3) := by decide +kernel
theorem dX6_init_20 : decode cX6_init 20 = .ok (.aload_n 0, 1) := by decide +kernel
theorem dX6_init_21 : decode cX6_init 21 = .ok (.iload_n 2, 1) := by decide +kernel
theorem dX6_init_22 : decode cX6_init 22 = .ok (.putfield 19, 3) := by decide +kernel
theorem dX6_init_25 : decode cX6_init 25 = .ok (.aload_n 0, 1) := by decide +kernel
theorem dX6_init_26 : decode cX6_init 26 = .ok (.iload_n 3, 1) := by decide +kernel
theorem dX6_init_27 : decode cX6_init 27 = .ok (.putfield 22, 3) := by decide +kernel
theorem dX6_init_30 : decode cX6_init 30 = .ok (.return_, 1) := by decide +kernel
theorem dX7_init_0 : decode cX7_init 0 = .ok (.aload_n 0, 1) := by decide +kernel
theorem dX7_init_1 : decode cX7_init 1 = .ok (.invokespecial 3, 3) := by decide +kernel
theorem dX7_init_4 : decode cX7_init 4 = .ok (.aload_n 0, 1) := by decide +kernel
theorem dX7_init_5 : decode cX7_init 5 = .ok (.iload_n 1, 1) := by decide +kernel
theorem dX7_init_6 : decode cX7_init 6 = .ok (.putfield 9, 3) := by decide +kernel
theorem dX7_init_9 : decode cX7_init 9 = .ok (.aload_n 0, 1) := by decide +kernel
theorem dX7_init_10 : decode cX7_init 10 = .ok (.iload_n 2, 1) := by decide +kernel
theorem dX7_init_11 : decode cX7_init 11 = .ok (.putfield 15, 3) := by decide +kernel
theorem dX7_init_14 : decode cX7_init 14 = .ok (.aload_n 0, 1) := by decide +kernel
theorem dX7_init_15 : decode cX7_init 15 = .ok (.iload 4, 2) := by decide +kernel
theorem dX7_init_17 : decode cX7_init 17 = .ok (.putfield 19, 3) := by decide +kernel
theorem dX7_init_20 : decode cX7_init 20 = .ok (.aload_n 0, 1) := by decide +kernel
theorem dX7_init_21 : decode cX7_init 21 = .ok (.iload_n 3, 1) := by decide +kernel
theorem dX7_init_22 : decode cX7_init 22 = .ok (.putfield 22, 3) := by decide +kernel
theorem dX7_init_25 : decode cX7_init 25 = .ok (.aload_n 0, 1) := by decide +kernel
theorem dX7_init_26 : decode cX7_init 26 = .ok (.iconst (-1), 1) := by decide +kernel
theorem dX7_init_27 : decode cX7_init 27 = .ok (.putfield 25, 3) := by decide +kernel
theorem dX7_init_30 : decode cX7_init 30 = .ok (.return_, 1) := by decide +kernel
theorem dX7_wasThere_0 : decode cX7_wasThere 0 = .ok (.aload_n 0, 1) := by decide +kernel
theorem dX7_wasThere_1 : decode cX7_wasThere 1 = .ok (.getfield 19, 3) := by decide +kernel
theorem dX7_wasThere_4 : decode cX7_wasThere 4 = .ok (.iload_n 1, 1) := by decide +kernel
theorem dX7_wasThere_5 : decode cX7_wasThere 5 = .ok (.if_icmp .gt 23, 3) := by decide +kernel
theorem dX7_wasThere_8 : decode cX7_wasThere 8 = .ok (.aload_n 0, 1) := by decide +kernel
theorem dX7_wasThere_9 : decode cX7_wasThere 9 = .ok (.getfield 25, 3) := by decide +kernel
theorem dX7_wasThere_12 : decode cX7_wasThere 12 = .ok (.iconst (-1), 1) := by decide +kernel
theorem dX7_wasThere_13 : decode cX7_wasThere 13 = .ok (.if_icmp .eq 11, 3) := by decide +kernel
theorem dX7_wasThere_16 : decode cX7_wasThere 16 = .ok (.iload_n 1, 1) := by decide +kernel
theorem dX7_wasThere_17 : decode cX7_wasThere 17 = .ok (.aload_n 0, 1) := by decide +kernel
theorem dX7_wasThere_18 : decode cX7_wasThere 18 = .ok (.getfield 25, 3) := by decide +kernel
theorem dX7_wasThere_21 : decode cX7_wasThere 21 = .ok (.if_icmp .ge 7, 3) := by decide +kernel
theorem dX7_wasThere_24 : decode cX7_wasThere 24 = .ok (.iconst 1, 1) := by decide +kernel
theorem dX7_wasThere_25 : decode cX7_wasThere 25 = .ok (.goto 4, 3) := by decide +kernel
theorem dX7_wasThere_28 : decode cX7_wasThere 28 = .ok (.iconst 0, 1) := by decide +kernel
theorem dX7_wasThere_29 : decode cX7_wasThere 29 = .ok (.ireturn, 1) := by decide +kernel
theorem dX7_spend_0 : decode cX7_spend 0 = .ok (.iload_n 1, 1) := by decide +kernel
theorem dX7_spend_1 : decode cX7_spend 1 = .ok (.aload_n 0, 1) := by decide +kernel
theorem dX7_spend_2 : decode cX7_spend 2 = .ok (.getfield 22, 3) := by decide +kernel
theorem dX7_spend_5 : decode cX7_spend 5 = .ok (.invokestatic 28, 3) := by decide +kernel
theorem dX7_spend_8 : decode cX7_spend 8 = .ok (.istore_n 2, 1) := by decide +kernel
theorem dX7_spend_9 : decode cX7_spend 9 = .ok (.aload_n 0, 1) := by decide +kernel
theorem dX7_spend_10 : decode cX7_spend 10 = .ok (.dup, 1) := by decide +kernel
theorem dX7_spend_11 : decode cX7_spend 11 = .ok (.getfield 22, 3) := by decide +kernel
theorem dX7_spend_14 : decode cX7_spend 14 = .ok (.iload_n 2, 1) := by decide +kernel
theorem dX7_spend_15 : decode cX7_spend 15 = .ok (.isub, 1) := by decide +kernel
theorem dX7_spend_16 : decode cX7_spend 16 = .ok (.putfield 22, 3) := by decide +kernel
theorem dX7_spend_19 : decode cX7_spend 19 = .ok (.iload_n 2, 1) := by decide +kernel
theorem dX7_spend_20 : decode cX7_spend 20 = .ok (.ireturn, 1) := by decide +kernel
theorem dX7_receive_0 : decode cX7_receive 0 = .ok (.iload_n 1, 1) := by decide +kernel
theorem dX7_receive_1 : decode cX7_receive 1 = .ok (.ldc 34, 2) := by decide +kernel
theorem dX7_receive_3 : decode cX7_receive 3 = .ok (.aload_n 0, 1) := by decide +kernel
theorem dX7_receive_4 : decode cX7_receive 4 = .ok (.getfield 22, 3) := by decide +kernel
theorem dX7_receive_7 : decode cX7_receive 7 = .ok (.isub, 1) := by decide +kernel
theorem dX7_receive_8 : decode cX7_receive 8 = .ok (.invokestatic 28, 3) := by decide +kernel
theorem dX7_receive_11 : decode cX7_receive 11 = .ok (.istore_n 2, 1) := by decide +kernel
theorem dX7_receive_12 : decode cX7_receive 12 = .ok (.aload_n 0, 1) := by decide +kernel
theorem dX7_receive_13 : decode cX7_receive 13 = .ok (.dup, 1) := by decide +kernel
theorem dX7_receive_14 : decode cX7_receive 14 = .ok (.getfield 22, 3) := by decide +kernel
theorem dX7_receive_17 : decode cX7_receive 17 = .ok (.iload_n 2, 1) := by decide +kernel
theorem dX7_receive_18 : decode cX7_receive 18 = .ok (.iadd, 1) := by decide +kernel
theorem dX7_receive_19 : decode cX7_receive 19 = .ok (.putfield 22, 3) := by decide +kernel
theorem dX7_receive_22 : decode cX7_receive 22 = .ok (.iload_n 1, 1) := by decide +kernel
theorem dX7_receive_23 : decode cX7_receive 23 = .ok (.iload_n 2, 1) := by decide +kernel
theorem dX7_receive_24 : decode cX7_receive 24 = .ok (.isub, 1) := by decide +kernel
theorem dX7_receive_25 : decode cX7_receive 25 = .ok (.ireturn, 1) := by decide +kernel
theorem dX8_init_0 : decode cX8_init 0 = .ok (.aload_n 0, 1) := by decide +kernel
theorem dX8_init_1 : decode cX8_init 1 = .ok (.invokespecial 3, 3) := by decide +kernel
theorem dX8_init_4 : decode cX8_init 4 = .ok (.aload_n 0, 1) := by decide +kernel
theorem dX8_init_5 : decode cX8_init 5 = .ok (.bipush 100, 2) := by decide +kernel
theorem dX8_init_7 : decode cX8_init 7 = .ok (.newarray .int, 2) := by decide +kernel
theorem dX8_init_9 : decode cX8_init 9 = .ok (.putfield 11, 3) := by decide +kernel
theorem dX8_init_12 : decode cX8_init 12 = .ok (.aload_n 0, 1) := by decide +kernel
theorem dX8_init_13 : decode cX8_init 13 = .ok (.bipush 100, 2) := by decide +kernel
theorem dX8_init_15 : decode cX8_init 15 = .ok (.newarray .int, 2) := by decide +kernel
theorem dX8_init_17 : decode cX8_init 17 = .ok (.putfield 15, 3) := by decide +kernel
theorem dX8_init_20 : decode cX8_init 20 = .ok (.aload_n 0, 1) := by decide +kernel
theorem dX8_init_21 : decode cX8_init 21 = .ok (.bipush 100, 2) := by decide +kernel
theorem dX8_init_23 : decode cX8_init 23 = .ok (.newarray .int, 2) := by decide +kernel
theorem dX8_init_25 : decode cX8_init 25 = .ok (.putfield 18, 3) := by decide +kernel
theorem dX8_init_28 : decode cX8_init 28 = .ok (.aload_n 0, 1) := by decide +kernel
theorem dX8_init_29 : decode cX8_init 29 = .ok (.bipush 100, 2) := by decide +kernel
theorem dX8_init_31 : decode cX8_init 31 = .ok (.newarray .int, 2) := by decide +kernel
theorem dX8_init_33 : decode cX8_init 33 = .ok (.putfield 21, 3) := by decide +kernel
theorem dX8_init_36 : decode cX8_init 36 = .ok (.aload_n 0, 1) := by decide +kernel
theorem dX8_init_37 : decode cX8_init 37 = .ok (.bipush 100, 2) := by decide +kernel
theorem dX8_init_39 : decode cX8_init 39 = .ok (.newarray .int, 2) := by decide +kernel
theorem dX8_init_41 : decode cX8_init 41 = .ok (.putfield 24, 3) := by decide +kernel
theorem dX8_init_44 : decode cX8_init 44 = .ok (.return_, 1) := by decide +kernel
theorem dX8_add_0 : decode cX8_add 0 = .ok (.aload_n 0, 1) := by decide +kernel
theorem dX8_add_1 : decode cX8_add 1 = .ok (.getfield 27, 3) := by decide +kernel
theorem dX8_add_4 : decode cX8_add 4 = .ok (.bipush 100, 2) := by decide +kernel
theorem dX8_add_6 : decode cX8_add 6 = .ok (.if_icmp .lt 5, 3) := by decide +kernel
theorem dX8_add_9 : decode cX8_add 9 = .ok (.iconst (-1), 1) := by decide +kernel
theorem dX8_add_10 : decode cX8_add 10 = .ok (.ireturn, 1) := by decide +kernel
theorem dX8_add_11 : decode cX8_add 11 = .ok (.aload_n 0, 1) := by decide +kernel
theorem dX8_add_12 : decode cX8_add 12 = .ok (.getfield 11, 3) := by decide +kernel
theorem dX8_add_15 : decode cX8_add 15 = .ok (.aload_n 0, 1) := by decide +kernel
theorem dX8_add_16 : decode cX8_add 16 = .ok (.getfield 27, 3) := by decide +kernel
theorem dX8_add_19 : decode cX8_add 19 = .ok (.iload_n 1, 1) := by decide +kernel
theorem dX8_add_20 : decode cX8_add 20 = .ok (.iastore, 1) := by decide +kernel
theorem dX8_add_21 : decode cX8_add 21 = .ok (.aload_n 0, 1) := by decide +kernel
theorem dX8_add_22 : decode cX8_add 22 = .ok (.getfield 15, 3) := by decide +kernel
theorem dX8_add_25 : decode cX8_add 25 = .ok (.aload_n 0, 1) := by decide +kernel
theorem dX8_add_26 : decode cX8_add 26 = .ok (.getfield 27, 3) := by decide +kernel
theorem dX8_add_29 : decode cX8_add 29 = .ok (.iload_n 2, 1) := by decide +kernel
theorem dX8_add_30 : decode cX8_add 30 = .ok (.iastore, 1) := by decide +kernel
theorem dX8_add_31 : decode cX8_add 31 = .ok (.aload_n 0, 1) := by decide +kernel
theorem dX8_add_32 : decode cX8_add 32 = .ok (.getfield 18, 3) := by decide +kernel
theorem dX8_add_35 : decode cX8_add 35 = .ok (.aload_n 0, 1) := by decide +kernel
theorem dX8_add_36 : decode cX8_add 36 = .ok (.getfield 27, 3) := by decide +kernel
theorem dX8_add_39 : decode cX8_add 39 = .ok (.iload_n 3, 1) := by decide +kernel
theorem dX8_add_40 : decode cX8_add 40 = .ok (.iastore, 1) := by decide +kernel
theorem dX8_add_41 : decode cX8_add 41 = .ok (.aload_n 0, 1) := by decide +kernel
theorem dX8_add_42 : decode cX8_add 42 = .ok (.getfield 21, 3) := by decide +kernel
theorem dX8_add_45 : decode cX8_add 45 = .ok (.aload_n 0, 1) := by decide +kernel
theorem dX8_add_46 : decode cX8_add 46 = .ok (.getfield 27, 3) := by decide +kernel
theorem dX8_add_49 : decode cX8_add 49 = .ok (.iload 4, 2) := by decide +kernel
theorem dX8_add_51 : decode cX8_add 51 = .ok (.iastore, 1) := by decide +kernel
theorem dX8_add_52 : decode cX8_add 52 = .ok (.aload_n 0, 1) := by decide +kernel
theorem dX8_add_53 : decode cX8_add 53 = .ok (.getfield 24, 3) := by decide +kernel
theorem dX8_add_56 : decode cX8_add 56 = .ok (.aload_n 0, 1) := by decide +kernel
theorem dX8_add_57 : decode cX8_add 57 = .ok (.getfield 27, 3) := by decide +kernel
theorem dX8_add_60 : decode cX8_add 60 = .ok (.iconst (-1), 1) := by decide +kernel
theorem dX8_add_61 : decode cX8_add 61 = .ok (.iastore, 1) := by decide +kernel
theorem dX8_add_62 : decode cX8_add 62 = .ok (.aload_n 0, 1) := by decide +kernel
theorem dX8_add_63 : decode cX8_add 63 = .ok (.dup, 1) := by decide +kernel
theorem dX8_add_64 : decode cX8_add 64 = .ok (.getfield 27, 3) := by decide +kernel
theorem dX8_add_67 : decode cX8_add 67 = .ok (.iconst 1, 1) := by decide +kernel
theorem dX8_add_68 : decode cX8_add 68 = .ok (.iadd, 1) := by decide +kernel
theorem dX8_add_69 : decode cX8_add 69 = .ok (.putfield 27, 3) := by decide +kernel
theorem dX8_add_72 : decode cX8_add 72 = .ok (.aload_n 0, 1) := by decide +kernel
theorem dX8_add_73 : decode cX8_add 73 = .ok (.getfield 27, 3) := by decide +kernel
theorem dX8_add_76 : decode cX8_add 76 = .ok (.iconst 1, 1) := by decide +kernel
theorem dX8_add_77 : decode cX8_add 77 = .ok (.isub, 1) := by decide +kernel
theorem dX8_add_78 : decode cX8_add 78 = .ok (.ireturn, 1) := by decide +kernel
theorem dX8_withdraw_0 : decode cX8_withdraw 0 = .ok (.iload_n 1, 1) := by decide +kernel
theorem dX8_withdraw_1 : decode cX8_withdraw 1 = .ok (.ifCond .lt 21, 3) := by decide +kernel
theorem dX8_withdraw_4 : decode cX8_withdraw 4 = .ok (.iload_n 1, 1) := by decide +kernel
theorem dX8_withdraw_5 : decode cX8_withdraw 5 = .ok (.aload_n 0, 1) := by decide +kernel
theorem dX8_withdraw_6 : decode cX8_withdraw 6 = .ok (.getfield 27, 3) := by decide +kernel
theorem dX8_withdraw_9 : decode cX8_withdraw 9 = .ok (.if_icmp .ge 13, 3) := by decide +kernel
theorem dX8_withdraw_12 : decode cX8_withdraw 12 = .ok (.aload_n 0, 1) := by decide +kernel
theorem dX8_withdraw_13 : decode cX8_withdraw 13 = .ok (.getfield 24, 3) := by decide +kernel
theorem dX8_withdraw_16 : decode cX8_withdraw 16 = .ok (.iload_n 1, 1) := by decide +kernel
theorem dX8_withdraw_17 : decode cX8_withdraw 17 = .ok (.iaload, 1) := by decide +kernel
theorem dX8_withdraw_18 : decode cX8_withdraw 18 = .ok (.iconst (-1), 1) := by decide +kernel
theorem dX8_withdraw_19 : decode cX8_withdraw 19 = .ok (.if_icmp .eq 5, 3) := by decide +kernel
theorem dX8_withdraw_22 : decode cX8_withdraw 22 = .ok (.iconst 0, 1) := by decide +kernel
theorem dX8_withdraw_23 : decode cX8_withdraw 23 = .ok (.ireturn, 1) := by decide +kernel
theorem dX8_withdraw_24 : decode cX8_withdraw 24 = .ok (.aload_n 0, 1) := by decide +kernel
theorem dX8_withdraw_25 : decode cX8_withdraw 25 = .ok (.getfield 24, 3) := by decide +kernel
theorem dX8_withdraw_28 : decode cX8_withdraw 28 = .ok (.iload_n 1, 1) := by decide +kernel
theorem dX8_withdraw_29 : decode cX8_withdraw 29 = .ok (.iload_n 2, 1) := by decide +kernel
theorem dX8_withdraw_30 : decode cX8_withdraw 30 = .ok (.iastore, 1) := by decide +kernel
theorem dX8_withdraw_31 : decode cX8_withdraw 31 = .ok (.iconst 1, 1) := by decide +kernel
theorem dX8_withdraw_32 : decode cX8_withdraw 32 = .ok (.ireturn, 1) := by decide +kernel
theorem dX8_isKnown_0 : decode cX8_isKnown 0 = .ok (.aload_n 0, 1) := by decide +kernel
theorem dX8_isKnown_1 : decode cX8_isKnown 1 = .ok (.getfield 11, 3) := by decide +kernel
theorem dX8_isKnown_4 : decode cX8_isKnown 4 = .ok (.iload_n 1, 1) := by decide +kernel
theorem dX8_isKnown_5 : decode cX8_isKnown 5 = .ok (.iaload, 1) := by decide +kernel
theorem dX8_isKnown_6 : decode cX8_isKnown 6 = .ok (.iload_n 2, 1) := by decide +kernel
theorem dX8_isKnown_7 : decode cX8_isKnown 7 = .ok (.if_icmp .ne 37, 3) := by decide +kernel
theorem dX8_isKnown_10 : decode cX8_isKnown 10 = .ok (.aload_n 0, 1) := by decide +kernel
theorem dX8_isKnown_11 : decode cX8_isKnown 11 = .ok (.getfield 21, 3) := by decide +kernel
theorem dX8_isKnown_14 : decode cX8_isKnown 14 = .ok (.iload_n 1, 1) := by decide +kernel
theorem dX8_isKnown_15 : decode cX8_isKnown 15 = .ok (.iaload, 1) := by decide +kernel
theorem dX8_isKnown_16 : decode cX8_isKnown 16 = .ok (.iload_n 3, 1) := by decide +kernel
theorem dX8_isKnown_17 : decode cX8_isKnown 17 = .ok (.if_icmp .gt 27, 3) := by decide +kernel
theorem dX8_isKnown_20 : decode cX8_isKnown 20 = .ok (.aload_n 0, 1) := by decide +kernel
theorem dX8_isKnown_21 : decode cX8_isKnown 21 = .ok (.getfield 24, 3) := by decide +kernel
theorem dX8_isKnown_24 : decode cX8_isKnown 24 = .ok (.iload_n 1, 1) := by decide +kernel
theorem dX8_isKnown_25 : decode cX8_isKnown 25 = .ok (.iaload, 1) := by decide +kernel
theorem dX8_isKnown_26 : decode cX8_isKnown 26 = .ok (.iconst (-1), 1) := by decide +kernel
theorem dX8_isKnown_27 : decode cX8_isKnown 27 = .ok (.if_icmp .eq 13, 3) := by decide +kernel
theorem dX8_isKnown_30 : decode cX8_isKnown 30 = .ok (.iload_n 3, 1) := by decide +kernel
theorem dX8_isKnown_31 : decode cX8_isKnown 31 = .ok (.aload_n 0, 1) := by decide +kernel
theorem dX8_isKnown_32 : decode cX8_isKnown 32 = .ok (.getfield 24, 3) := by decide +kernel
theorem dX8_isKnown_35 : decode cX8_isKnown 35 = .ok (.iload_n 1, 1) := by decide +kernel
theorem dX8_isKnown_36 : decode cX8_isKnown 36 = .ok (.iaload, 1) := by decide +kernel
theorem dX8_isKnown_37 : decode cX8_isKnown 37 = .ok (.if_icmp .ge 7, 3) := by decide +kernel
theorem dX8_isKnown_40 : decode cX8_isKnown 40 = .ok (.iconst 1, 1) := by decide +kernel
theorem dX8_isKnown_41 : decode cX8_isKnown 41 = .ok (.goto 4, 3) := by decide +kernel
theorem dX8_isKnown_44 : decode cX8_isKnown 44 = .ok (.iconst 0, 1) := by decide +kernel
theorem dX8_isKnown_45 : decode cX8_isKnown 45 = .ok (.ireturn, 1) := by decide +kernel
theorem dX8_greatestLower_0 : decode cX8_greatestLower 0 = .ok (.iconst (-1), 1) := by decide +kernel
theorem dX8_greatestLower_1 : decode cX8_greatestLower 1 = .ok (.istore_n 3, 1) := by decide +kernel
theorem dX8_greatestLower_2 : decode cX8_greatestLower 2 = .ok (.iconst 0, 1) := by decide +kernel
theorem dX8_greatestLower_3 : decode cX8_greatestLower 3 = .ok (.istore 4, 2) := by decide +kernel
theorem dX8_greatestLower_5 : decode cX8_greatestLower 5 = .ok (.iload 4, 2) := by decide +kernel
theorem dX8_greatestLower_7 : decode cX8_greatestLower 7 = .ok (.aload_n 0, 1) := by decide +kernel
theorem dX8_greatestLower_8 : decode cX8_greatestLower 8 = .ok (.getfield 27, 3) := by decide +kernel
theorem dX8_greatestLower_11 : decode cX8_greatestLower 11 = .ok (.if_icmp .ge 38, 3) := by decide +kernel
theorem dX8_greatestLower_14 : decode cX8_greatestLower 14 = .ok (.aload_n 0, 1) := by decide +kernel
theorem dX8_greatestLower_15 : decode cX8_greatestLower 15 = .ok (.iload 4, 2) := by decide +kernel
theorem dX8_greatestLower_17 : decode cX8_greatestLower 17 = .ok (.iload_n 1, 1) := by decide +kernel
theorem dX8_greatestLower_18 : decode cX8_greatestLower 18 = .ok (.iload_n 2, 1) := by decide +kernel
theorem dX8_greatestLower_19 : decode cX8_greatestLower 19 = .ok (.invokevirtual 31, 3) := by decide +kernel
theorem dX8_greatestLower_22 : decode cX8_greatestLower 22 = .ok (.ifCond .eq 21, 3) := by decide +kernel
theorem dX8_greatestLower_25 : decode cX8_greatestLower 25 = .ok (.iload_n 3, 1) := by decide +kernel
theorem dX8_greatestLower_26 : decode cX8_greatestLower 26 = .ok (.iconst (-1), 1) := by decide +kernel
theorem dX8_greatestLower_27 : decode cX8_greatestLower 27 = .ok (.if_icmp .eq 13, 3) := by decide +kernel
theorem dX8_greatestLower_30 : decode cX8_greatestLower 30 = .ok (.aload_n 0, 1) := by decide +kernel
theorem dX8_greatestLower_31 : decode cX8_greatestLower 31 = .ok (.iload 4, 2) := by decide +kernel
theorem dX8_greatestLower_33 : decode cX8_greatestLower 33 = .ok (.iload_n 3, 1) := by decide +kernel
theorem dX8_greatestLower_34 : decode cX8_greatestLower 34 = .ok (.invokevirtual 35, 3) := by decide +kernel
theorem dX8_greatestLower_37 : decode cX8_greatestLower 37 = .ok (.ifCond .eq 6, 3) := by decide +kernel
theorem dX8_greatestLower_40 : decode cX8_greatestLower 40 = .ok (.iload 4, 2) := by decide +kernel
theorem dX8_greatestLower_42 : decode cX8_greatestLower 42 = .ok (.istore_n 3, 1) := by decide +kernel
theorem dX8_greatestLower_43 : decode cX8_greatestLower 43 = .ok (.iinc 4 1, 3) := by decide +kernel
theorem dX8_greatestLower_46 : decode cX8_greatestLower 46 = .ok (.goto (-41), 3) := by decide +kernel
theorem dX8_greatestLower_49 : decode cX8_greatestLower 49 = .ok (.iload_n 3, 1) := by decide +kernel
theorem dX8_greatestLower_50 : decode cX8_greatestLower 50 = .ok (.ireturn, 1) := by decide +kernel
theorem dX8_leastUpper_0 : decode cX8_leastUpper 0 = .ok (.iconst (-1), 1) := by decide +kernel
theorem dX8_leastUpper_1 : decode cX8_leastUpper 1 = .ok (.istore_n 3, 1) := by decide +kernel
theorem dX8_leastUpper_2 : decode cX8_leastUpper 2 = .ok (.iconst 0, 1) := by decide +kernel
theorem dX8_leastUpper_3 : decode cX8_leastUpper 3 = .ok (.istore 4, 2) := by decide +kernel
theorem dX8_leastUpper_5 : decode cX8_leastUpper 5 = .ok (.iload 4, 2) := by decide +kernel
theorem dX8_leastUpper_7 : decode cX8_leastUpper 7 = .ok (.aload_n 0, 1) := by decide +kernel
theorem dX8_leastUpper_8 : decode cX8_leastUpper 8 = .ok (.getfield 27, 3) := by decide +kernel
theorem dX8_leastUpper_11 : decode cX8_leastUpper 11 = .ok (.if_icmp .ge 38, 3) := by decide +kernel
theorem dX8_leastUpper_14 : decode cX8_leastUpper 14 = .ok (.aload_n 0, 1) := by decide +kernel
theorem dX8_leastUpper_15 : decode cX8_leastUpper 15 = .ok (.iload 4, 2) := by decide +kernel
theorem dX8_leastUpper_17 : decode cX8_leastUpper 17 = .ok (.iload_n 1, 1) := by decide +kernel
theorem dX8_leastUpper_18 : decode cX8_leastUpper 18 = .ok (.iload_n 2, 1) := by decide +kernel
theorem dX8_leastUpper_19 : decode cX8_leastUpper 19 = .ok (.invokevirtual 31, 3) := by decide +kernel
theorem dX8_leastUpper_22 : decode cX8_leastUpper 22 = .ok (.ifCond .eq 21, 3) := by decide +kernel
theorem dX8_leastUpper_25 : decode cX8_leastUpper 25 = .ok (.iload_n 3, 1) := by decide +kernel
theorem dX8_leastUpper_26 : decode cX8_leastUpper 26 = .ok (.iconst (-1), 1) := by decide +kernel
theorem dX8_leastUpper_27 : decode cX8_leastUpper 27 = .ok (.if_icmp .eq 13, 3) := by decide +kernel
theorem dX8_leastUpper_30 : decode cX8_leastUpper 30 = .ok (.aload_n 0, 1) := by decide +kernel
theorem dX8_leastUpper_31 : decode cX8_leastUpper 31 = .ok (.iload_n 3, 1) := by decide +kernel
theorem dX8_leastUpper_32 : decode cX8_leastUpper 32 = .ok (.iload 4, 2) := by decide +kernel
theorem dX8_leastUpper_34 : decode cX8_leastUpper 34 = .ok (.invokevirtual 39, 3) := by decide +kernel
theorem dX8_leastUpper_37 : decode cX8_leastUpper 37 = .ok (.ifCond .eq 6, 3) := by decide +kernel
theorem dX8_leastUpper_40 : decode cX8_leastUpper 40 = .ok (.iload 4, 2) := by decide +kernel
theorem dX8_leastUpper_42 : decode cX8_leastUpper 42 = .ok (.istore_n 3, 1) := by decide +kernel
theorem dX8_leastUpper_43 : decode cX8_leastUpper 43 = .ok (.iinc 4 1, 3) := by decide +kernel
theorem dX8_leastUpper_46 : decode cX8_leastUpper 46 = .ok (.goto (-41), 3) := by decide +kernel
theorem dX8_leastUpper_49 : decode cX8_leastUpper 49 = .ok (.iload_n 3, 1) := by decide +kernel
theorem dX8_leastUpper_50 : decode cX8_leastUpper 50 = .ok (.ireturn, 1) := by decide +kernel
theorem dX8_lowerExceeds_0 : decode cX8_lowerExceeds 0 = .ok (.aload_n 0, 1) := by decide +kernel
theorem dX8_lowerExceeds_1 : decode cX8_lowerExceeds 1 = .ok (.iload_n 1, 1) := by decide +kernel
theorem dX8_lowerExceeds_2 : decode cX8_lowerExceeds 2 = .ok (.invokevirtual 42, 3) := by decide +kernel
theorem dX8_lowerExceeds_5 : decode cX8_lowerExceeds 5 = .ok (.i2l, 1) := by decide +kernel
theorem dX8_lowerExceeds_6 : decode cX8_lowerExceeds 6 = .ok (.aload_n 0, 1) := by decide +kernel
theorem dX8_lowerExceeds_7 : decode cX8_lowerExceeds 7 = .ok (.iload_n 2, 1) := by decide +kernel
theorem dX8_lowerExceeds_8 : decode cX8_lowerExceeds 8 = .ok (.invokevirtual 46, 3) := by decide +kernel
theorem dX8_lowerExceeds_11 : decode cX8_lowerExceeds 11 = .ok (.i2l, 1) := by decide +kernel
theorem dX8_lowerExceeds_12 : decode cX8_lowerExceeds 12 = .ok (.lmul, 1) := by decide +kernel
theorem dX8_lowerExceeds_13 : decode cX8_lowerExceeds 13 = .ok (.aload_n 0, 1) := by decide +kernel
theorem dX8_lowerExceeds_14 : decode cX8_lowerExceeds 14 = .ok (.iload_n 2, 1) := by decide +kernel
theorem dX8_lowerExceeds_15 : decode cX8_lowerExceeds 15 = .ok (.invokevirtual 42, 3) := by decide +kernel
theorem dX8_lowerExceeds_18 : decode cX8_lowerExceeds 18 = .ok (.i2l, 1) := by decide +kernel
theorem dX8_lowerExceeds_19 : decode cX8_lowerExceeds 19 = .ok (.aload_n 0, 1) := by decide +kernel
theorem dX8_lowerExceeds_20 : decode cX8_lowerExceeds 20 = .ok (.iload_n 1, 1) := by decide +kernel
theorem dX8_lowerExceeds_21 : decode cX8_lowerExceeds 21 = .ok (.invokevirtual 46, 3) := by decide +kernel
theorem dX8_lowerExceeds_24 : decode cX8_lowerExceeds 24 = .ok (.i2l, 1) := by decide +kernel
theorem dX8_lowerExceeds_25 : decode cX8_lowerExceeds 25 = .ok (.lmul, 1) := by decide +kernel
theorem dX8_lowerExceeds_26 : decode cX8_lowerExceeds 26 = .ok (.lcmp, 1) := by decide +kernel
theorem dX8_lowerExceeds_27 : decode cX8_lowerExceeds 27 = .ok (.ifCond .le 7, 3) := by decide +kernel
theorem dX8_lowerExceeds_30 : decode cX8_lowerExceeds 30 = .ok (.iconst 1, 1) := by decide +kernel
theorem dX8_lowerExceeds_31 : decode cX8_lowerExceeds 31 = .ok (.goto 4, 3) := by decide +kernel
theorem dX8_lowerExceeds_34 : decode cX8_lowerExceeds 34 = .ok (.iconst 0, 1) := by decide +kernel
theorem dX8_lowerExceeds_35 : decode cX8_lowerExceeds 35 = .ok (.ireturn, 1) := by decide +kernel
theorem dX8_upperExceeds_0 : decode cX8_upperExceeds 0 = .ok (.aload_n 0, 1) := by decide +kernel
theorem dX8_upperExceeds_1 : decode cX8_upperExceeds 1 = .ok (.iload_n 1, 1) := by decide +kernel
theorem dX8_upperExceeds_2 : decode cX8_upperExceeds 2 = .ok (.invokevirtual 49, 3) := by decide +kernel
theorem dX8_upperExceeds_5 : decode cX8_upperExceeds 5 = .ok (.i2l, 1) := by decide +kernel
theorem dX8_upperExceeds_6 : decode cX8_upperExceeds 6 = .ok (.aload_n 0, 1) := by decide +kernel
theorem dX8_upperExceeds_7 : decode cX8_upperExceeds 7 = .ok (.iload_n 2, 1) := by decide +kernel
theorem dX8_upperExceeds_8 : decode cX8_upperExceeds 8 = .ok (.invokevirtual 52, 3) := by decide +kernel
theorem dX8_upperExceeds_11 : decode cX8_upperExceeds 11 = .ok (.i2l, 1) := by decide +kernel
theorem dX8_upperExceeds_12 : decode cX8_upperExceeds 12 = .ok (.lmul, 1) := by decide +kernel
theorem dX8_upperExceeds_13 : decode cX8_upperExceeds 13 = .ok (.aload_n 0, 1) := by decide +kernel
theorem dX8_upperExceeds_14 : decode cX8_upperExceeds 14 = .ok (.iload_n 2, 1) := by decide +kernel
theorem dX8_upperExceeds_15 : decode cX8_upperExceeds 15 = .ok (.invokevirtual 49, 3) := by decide +kernel
theorem dX8_upperExceeds_18 : decode cX8_upperExceeds 18 = .ok (.i2l, 1) := by decide +kernel
theorem dX8_upperExceeds_19 : decode cX8_upperExceeds 19 = .ok (.aload_n 0, 1) := by decide +kernel
theorem dX8_upperExceeds_20 : decode cX8_upperExceeds 20 = .ok (.iload_n 1, 1) := by decide +kernel
theorem dX8_upperExceeds_21 : decode cX8_upperExceeds 21 = .ok (.invokevirtual 52, 3) := by decide +kernel
theorem dX8_upperExceeds_24 : decode cX8_upperExceeds 24 = .ok (.i2l, 1) := by decide +kernel
theorem dX8_upperExceeds_25 : decode cX8_upperExceeds 25 = .ok (.lmul, 1) := by decide +kernel
theorem dX8_upperExceeds_26 : decode cX8_upperExceeds 26 = .ok (.lcmp, 1) := by decide +kernel
theorem dX8_upperExceeds_27 : decode cX8_upperExceeds 27 = .ok (.ifCond .le 7, 3) := by decide +kernel
theorem dX8_upperExceeds_30 : decode cX8_upperExceeds 30 = .ok (.iconst 1, 1) := by decide +kernel
theorem dX8_upperExceeds_31 : decode cX8_upperExceeds 31 = .ok (.goto 4, 3) := by decide +kernel
theorem dX8_upperExceeds_34 : decode cX8_upperExceeds 34 = .ok (.iconst 0, 1) := by decide +kernel
theorem dX8_upperExceeds_35 : decode cX8_upperExceeds 35 = .ok (.ireturn, 1) := by decide +kernel
theorem dX8_liesAbove_0 : decode cX8_liesAbove 0 = .ok (.aload_n 0, 1) := by decide +kernel
theorem dX8_liesAbove_1 : decode cX8_liesAbove 1 = .ok (.iload_n 1, 1) := by decide +kernel
theorem dX8_liesAbove_2 : decode cX8_liesAbove 2 = .ok (.invokevirtual 42, 3) := by decide +kernel
theorem dX8_liesAbove_5 : decode cX8_liesAbove 5 = .ok (.i2l, 1) := by decide +kernel
theorem dX8_liesAbove_6 : decode cX8_liesAbove 6 = .ok (.aload_n 0, 1) := by decide +kernel
theorem dX8_liesAbove_7 : decode cX8_liesAbove 7 = .ok (.iload_n 2, 1) := by decide +kernel
theorem dX8_liesAbove_8 : decode cX8_liesAbove 8 = .ok (.invokevirtual 52, 3) := by decide +kernel
theorem dX8_liesAbove_11 : decode cX8_liesAbove 11 = .ok (.i2l, 1) := by decide +kernel
theorem dX8_liesAbove_12 : decode cX8_liesAbove 12 = .ok (.lmul, 1) := by decide +kernel
theorem dX8_liesAbove_13 : decode cX8_liesAbove 13 = .ok (.aload_n 0, 1) := by decide +kernel
theorem dX8_liesAbove_14 : decode cX8_liesAbove 14 = .ok (.iload_n 2, 1) := by decide +kernel
theorem dX8_liesAbove_15 : decode cX8_liesAbove 15 = .ok (.invokevirtual 49, 3) := by decide +kernel
theorem dX8_liesAbove_18 : decode cX8_liesAbove 18 = .ok (.i2l, 1) := by decide +kernel
theorem dX8_liesAbove_19 : decode cX8_liesAbove 19 = .ok (.aload_n 0, 1) := by decide +kernel
theorem dX8_liesAbove_20 : decode cX8_liesAbove 20 = .ok (.iload_n 1, 1) := by decide +kernel
theorem dX8_liesAbove_21 : decode cX8_liesAbove 21 = .ok (.invokevirtual 46, 3) := by decide +kernel
theorem dX8_liesAbove_24 : decode cX8_liesAbove 24 = .ok (.i2l, 1) := by decide +kernel
theorem dX8_liesAbove_25 : decode cX8_liesAbove 25 = .ok (.lmul, 1) := by decide +kernel
theorem dX8_liesAbove_26 : decode cX8_liesAbove 26 = .ok (.lcmp, 1) := by decide +kernel
theorem dX8_liesAbove_27 : decode cX8_liesAbove 27 = .ok (.ifCond .le 7, 3) := by decide +kernel
theorem dX8_liesAbove_30 : decode cX8_liesAbove 30 = .ok (.iconst 1, 1) := by decide +kernel
theorem dX8_liesAbove_31 : decode cX8_liesAbove 31 = .ok (.goto 4, 3) := by decide +kernel
theorem dX8_liesAbove_34 : decode cX8_liesAbove 34 = .ok (.iconst 0, 1) := by decide +kernel
theorem dX8_liesAbove_35 : decode cX8_liesAbove 35 = .ok (.ireturn, 1) := by decide +kernel
theorem dX8_lowerAbove_0 : decode cX8_lowerAbove 0 = .ok (.aload_n 0, 1) := by decide +kernel
theorem dX8_lowerAbove_1 : decode cX8_lowerAbove 1 = .ok (.iload_n 1, 1) := by decide +kernel
theorem dX8_lowerAbove_2 : decode cX8_lowerAbove 2 = .ok (.invokevirtual 55, 3) := by decide +kernel
theorem dX8_lowerAbove_5 : decode cX8_lowerAbove 5 = .ok (.ifCond .eq 14, 3) := by decide +kernel
theorem dX8_lowerAbove_8 : decode cX8_lowerAbove 8 = .ok (.aload_n 0, 1) := by decide +kernel
theorem dX8_lowerAbove_9 : decode cX8_lowerAbove 9 = .ok (.getfield 18, 3) := by decide +kernel
theorem dX8_lowerAbove_12 : decode cX8_lowerAbove 12 = .ok (.iload_n 1, 1) := by decide +kernel
theorem dX8_lowerAbove_13 : decode cX8_lowerAbove 13 = .ok (.iaload, 1) := by decide +kernel
theorem dX8_lowerAbove_14 : decode cX8_lowerAbove 14 = .ok (.iconst 1, 1) := by decide +kernel
theorem dX8_lowerAbove_15 : decode cX8_lowerAbove 15 = .ok (.isub, 1) := by decide +kernel
theorem dX8_lowerAbove_16 : decode cX8_lowerAbove 16 = .ok (.goto 4, 3) := by decide +kernel
theorem dX8_lowerAbove_19 : decode cX8_lowerAbove 19 = .ok (.iconst 0, 1) := by decide +kernel
theorem dX8_lowerAbove_20 : decode cX8_lowerAbove 20 = .ok (.ireturn, 1) := by decide +kernel
theorem dX8_lowerBelow_0 : decode cX8_lowerBelow 0 = .ok (.aload_n 0, 1) := by decide +kernel
theorem dX8_lowerBelow_1 : decode cX8_lowerBelow 1 = .ok (.iload_n 1, 1) := by decide +kernel
theorem dX8_lowerBelow_2 : decode cX8_lowerBelow 2 = .ok (.invokevirtual 55, 3) := by decide +kernel
theorem dX8_lowerBelow_5 : decode cX8_lowerBelow 5 = .ok (.ifCond .eq 14, 3) := by decide +kernel
theorem dX8_lowerBelow_8 : decode cX8_lowerBelow 8 = .ok (.aload_n 0, 1) := by decide +kernel
theorem dX8_lowerBelow_9 : decode cX8_lowerBelow 9 = .ok (.getfield 15, 3) := by decide +kernel
theorem dX8_lowerBelow_12 : decode cX8_lowerBelow 12 = .ok (.iload_n 1, 1) := by decide +kernel
theorem dX8_lowerBelow_13 : decode cX8_lowerBelow 13 = .ok (.iaload, 1) := by decide +kernel
theorem dX8_lowerBelow_14 : decode cX8_lowerBelow 14 = .ok (.iconst 1, 1) := by decide +kernel
theorem dX8_lowerBelow_15 : decode cX8_lowerBelow 15 = .ok (.iadd, 1) := by decide +kernel
theorem dX8_lowerBelow_16 : decode cX8_lowerBelow 16 = .ok (.goto 4, 3) := by decide +kernel
theorem dX8_lowerBelow_19 : decode cX8_lowerBelow 19 = .ok (.iconst 1, 1) := by decide +kernel
theorem dX8_lowerBelow_20 : decode cX8_lowerBelow 20 = .ok (.ireturn, 1) := by decide +kernel
theorem dX8_upperAbove_0 : decode cX8_upperAbove 0 = .ok (.aload_n 0, 1) := by decide +kernel
theorem dX8_upperAbove_1 : decode cX8_upperAbove 1 = .ok (.iload_n 1, 1) := by decide +kernel
theorem dX8_upperAbove_2 : decode cX8_upperAbove 2 = .ok (.invokevirtual 55, 3) := by decide +kernel
theorem dX8_upperAbove_5 : decode cX8_upperAbove 5 = .ok (.ifCond .eq 14, 3) := by decide +kernel
theorem dX8_upperAbove_8 : decode cX8_upperAbove 8 = .ok (.aload_n 0, 1) := by decide +kernel
theorem dX8_upperAbove_9 : decode cX8_upperAbove 9 = .ok (.getfield 18, 3) := by decide +kernel
theorem dX8_upperAbove_12 : decode cX8_upperAbove 12 = .ok (.iload_n 1, 1) := by decide +kernel
theorem dX8_upperAbove_13 : decode cX8_upperAbove 13 = .ok (.iaload, 1) := by decide +kernel
theorem dX8_upperAbove_14 : decode cX8_upperAbove 14 = .ok (.iconst 1, 1) := by decide +kernel
theorem dX8_upperAbove_15 : decode cX8_upperAbove 15 = .ok (.iadd, 1) := by decide +kernel
theorem dX8_upperAbove_16 : decode cX8_upperAbove 16 = .ok (.goto 4, 3) := by decide +kernel
theorem dX8_upperAbove_19 : decode cX8_upperAbove 19 = .ok (.iconst 1, 1) := by decide +kernel
theorem dX8_upperAbove_20 : decode cX8_upperAbove 20 = .ok (.ireturn, 1) := by decide +kernel
theorem dX8_upperBelow_0 : decode cX8_upperBelow 0 = .ok (.aload_n 0, 1) := by decide +kernel
theorem dX8_upperBelow_1 : decode cX8_upperBelow 1 = .ok (.iload_n 1, 1) := by decide +kernel
theorem dX8_upperBelow_2 : decode cX8_upperBelow 2 = .ok (.invokevirtual 55, 3) := by decide +kernel
theorem dX8_upperBelow_5 : decode cX8_upperBelow 5 = .ok (.ifCond .eq 14, 3) := by decide +kernel
theorem dX8_upperBelow_8 : decode cX8_upperBelow 8 = .ok (.aload_n 0, 1) := by decide +kernel
theorem dX8_upperBelow_9 : decode cX8_upperBelow 9 = .ok (.getfield 15, 3) := by decide +kernel
theorem dX8_upperBelow_12 : decode cX8_upperBelow 12 = .ok (.iload_n 1, 1) := by decide +kernel
theorem dX8_upperBelow_13 : decode cX8_upperBelow 13 = .ok (.iaload, 1) := by decide +kernel
theorem dX8_upperBelow_14 : decode cX8_upperBelow 14 = .ok (.iconst 1, 1) := by decide +kernel
theorem dX8_upperBelow_15 : decode cX8_upperBelow 15 = .ok (.isub, 1) := by decide +kernel
theorem dX8_upperBelow_16 : decode cX8_upperBelow 16 = .ok (.goto 4, 3) := by decide +kernel
theorem dX8_upperBelow_19 : decode cX8_upperBelow 19 = .ok (.iconst 0, 1) := by decide +kernel
theorem dX8_upperBelow_20 : decode cX8_upperBelow 20 = .ok (.ireturn, 1) := by decide +kernel
theorem dX8_isWeighing_0 : decode cX8_isWeighing 0 = .ok (.iload_n 1, 1) := by decide +kernel
theorem dX8_isWeighing_1 : decode cX8_isWeighing 1 = .ok (.ifCond .lt 15, 3) := by decide +kernel
theorem dX8_isWeighing_4 : decode cX8_isWeighing 4 = .ok (.iload_n 1, 1) := by decide +kernel
theorem dX8_isWeighing_5 : decode cX8_isWeighing 5 = .ok (.aload_n 0, 1) := by decide +kernel
theorem dX8_isWeighing_6 : decode cX8_isWeighing 6 = .ok (.getfield 27, 3) := by decide +kernel
theorem dX8_isWeighing_9 : decode cX8_isWeighing 9 = .ok (.if_icmp .ge 7, 3) := by decide +kernel
theorem dX8_isWeighing_12 : decode cX8_isWeighing 12 = .ok (.iconst 1, 1) := by decide +kernel
theorem dX8_isWeighing_13 : decode cX8_isWeighing 13 = .ok (.goto 4, 3) := by decide +kernel
theorem dX8_isWeighing_16 : decode cX8_isWeighing 16 = .ok (.iconst 0, 1) := by decide +kernel
theorem dX8_isWeighing_17 : decode cX8_isWeighing 17 = .ok (.ireturn, 1) := by decide +kernel
theorem dX8_greaterQuarreller_0 : decode cX8_greaterQuarreller 0 = .ok (.iconst (-1), 1) := by decide +kernel
theorem dX8_greaterQuarreller_1 : decode cX8_greaterQuarreller 1 = .ok (.istore_n 3, 1) := by decide +kernel
theorem dX8_greaterQuarreller_2 : decode cX8_greaterQuarreller 2 = .ok (.iconst (-1), 1) := by decide +kernel
theorem dX8_greaterQuarreller_3 : decode cX8_greaterQuarreller 3 = .ok (.istore 4, 2) := by decide +kernel
theorem dX8_greaterQuarreller_5 : decode cX8_greaterQuarreller 5 = .ok (.iconst 0, 1) := by decide +kernel
theorem dX8_greaterQuarreller_6 : decode cX8_greaterQuarreller 6 = .ok (.istore 5, 2) := by decide +kernel
theorem dX8_greaterQuarreller_8 : decode cX8_greaterQuarreller 8 = .ok (.iload 5, 2) := by decide +kernel
theorem dX8_greaterQuarreller_10 : decode cX8_greaterQuarreller 10 = .ok (.aload_n 0, 1) := by decide +kernel
theorem dX8_greaterQuarreller_11 : decode cX8_greaterQuarreller 11 = .ok (.getfield 27, 3) := by decide +kernel
theorem dX8_greaterQuarreller_14 : decode cX8_greaterQuarreller 14 = .ok (.if_icmp .ge 97, 3) := by decide +kernel
theorem dX8_greaterQuarreller_17 : decode cX8_greaterQuarreller 17 = .ok (.aload_n 0, 1) := by decide +kernel
theorem dX8_greaterQuarreller_18 : decode cX8_greaterQuarreller 18 = .ok (.iload 5, 2) := by decide +kernel
theorem dX8_greaterQuarreller_20 : decode cX8_greaterQuarreller 20 = .ok (.iload_n 1, 1) := by decide +kernel
theorem dX8_greaterQuarreller_21 : decode cX8_greaterQuarreller 21 = .ok (.iload_n 2, 1) := by decide +kernel
theorem dX8_greaterQuarreller_22 : decode cX8_greaterQuarreller 22 = .ok (.invokevirtual 31, 3) := by decide +kernel
theorem dX8_greaterQuarreller_25 : decode cX8_greaterQuarreller 25 = .ok (.ifCond .eq 80, 3) := by decide +kernel
theorem dX8_greaterQuarreller_28 : decode cX8_greaterQuarreller 28 = .ok (.iload_n 3, 1) := by decide +kernel
theorem dX8_greaterQuarreller_29 : decode cX8_greaterQuarreller 29 = .ok (.iconst (-1), 1) := by decide +kernel
theorem dX8_greaterQuarreller_30 : decode cX8_greaterQuarreller 30 = .ok (.if_icmp .eq 27, 3) := by decide +kernel
theorem dX8_greaterQuarreller_33 : decode cX8_greaterQuarreller 33 = .ok (.aload_n 0, 1) := by decide +kernel
theorem dX8_greaterQuarreller_34 : decode cX8_greaterQuarreller 34 = .ok (.iload_n 3, 1) := by decide +kernel
theorem dX8_greaterQuarreller_35 : decode cX8_greaterQuarreller 35 = .ok (.iload 5, 2) := by decide +kernel
theorem dX8_greaterQuarreller_37 : decode cX8_greaterQuarreller 37 = .ok (.invokevirtual 59, 3) := by decide +kernel
theorem dX8_greaterQuarreller_40 : decode cX8_greaterQuarreller 40 = .ok (.ifCond .ne 14, 3) := by decide +kernel
theorem dX8_greaterQuarreller_43 : decode cX8_greaterQuarreller 43 = .ok (.aload_n 0, 1) := by decide +kernel
theorem dX8_greaterQuarreller_44 : decode cX8_greaterQuarreller 44 = .ok (.iload 5, 2) := by decide +kernel
theorem dX8_greaterQuarreller_46 : decode cX8_greaterQuarreller 46 = .ok (.iload 4, 2) := by decide +kernel
theorem dX8_greaterQuarreller_48 : decode cX8_greaterQuarreller 48 = .ok (.invokevirtual 59, 3) := by decide +kernel
theorem dX8_greaterQuarreller_51 : decode cX8_greaterQuarreller 51 = .ok (.ifCond .eq 6, 3) := by decide +kernel
theorem dX8_greaterQuarreller_54 : decode cX8_greaterQuarreller 54 = .ok (.iload 5, 2) := by decide +kernel
theorem dX8_greaterQuarreller_56 : decode cX8_greaterQuarreller 56 = .ok (.ireturn, 1) := by decide +kernel
theorem dX8_greaterQuarreller_57 : decode cX8_greaterQuarreller 57 = .ok (.iload_n 3, 1) := by decide +kernel
theorem dX8_greaterQuarreller_58 : decode cX8_greaterQuarreller 58 = .ok (.iconst (-1), 1) := by decide +kernel
theorem dX8_greaterQuarreller_59 : decode cX8_greaterQuarreller 59 = .ok (.if_icmp .eq 13, 3) := by decide +kernel
theorem dX8_greaterQuarreller_62 : decode cX8_greaterQuarreller 62 = .ok (.aload_n 0, 1) := by decide +kernel
theorem dX8_greaterQuarreller_63 : decode cX8_greaterQuarreller 63 = .ok (.iload 5, 2) := by decide +kernel
theorem dX8_greaterQuarreller_65 : decode cX8_greaterQuarreller 65 = .ok (.iload_n 3, 1) := by decide +kernel
theorem dX8_greaterQuarreller_66 : decode cX8_greaterQuarreller 66 = .ok (.invokevirtual 35, 3) := by decide +kernel
theorem dX8_greaterQuarreller_69 : decode cX8_greaterQuarreller 69 = .ok (.ifCond .eq 8, 3) := by decide +kernel
theorem dX8_greaterQuarreller_72 : decode cX8_greaterQuarreller 72 = .ok (.iload 5, 2) := by decide +kernel
theorem dX8_greaterQuarreller_74 : decode cX8_greaterQuarreller 74 = .ok (.goto 4, 3) := by decide +kernel
theorem dX8_greaterQuarreller_77 : decode cX8_greaterQuarreller 77 = .ok (.iload_n 3, 1) := by decide +kernel
theorem dX8_greaterQuarreller_78 : decode cX8_greaterQuarreller 78 = .ok (.istore_n 3, 1) := by decide +kernel
theorem dX8_greaterQuarreller_79 : decode cX8_greaterQuarreller 79 = .ok (.iload 4, 2) := by decide +kernel
theorem dX8_greaterQuarreller_81 : decode cX8_greaterQuarreller 81 = .ok (.iconst (-1), 1) := by decide +kernel
theorem dX8_greaterQuarreller_82 : decode cX8_greaterQuarreller 82 = .ok (.if_icmp .eq 14, 3) := by decide +kernel
theorem dX8_greaterQuarreller_85 : decode cX8_greaterQuarreller 85 = .ok (.aload_n 0, 1) := by decide +kernel
theorem dX8_greaterQuarreller_86 : decode cX8_greaterQuarreller 86 = .ok (.iload 4, 2) := by decide +kernel
theorem dX8_greaterQuarreller_88 : decode cX8_greaterQuarreller 88 = .ok (.iload 5, 2) := by decide +kernel
theorem dX8_greaterQuarreller_90 : decode cX8_greaterQuarreller 90 = .ok (.invokevirtual 39, 3) := by decide +kernel
theorem dX8_greaterQuarreller_93 : decode cX8_greaterQuarreller 93 = .ok (.ifCond .eq 8, 3) := by decide +kernel
theorem dX8_greaterQuarreller_96 : decode cX8_greaterQuarreller 96 = .ok (.iload 5, 2) := by decide +kernel
theorem dX8_greaterQuarreller_98 : decode cX8_greaterQuarreller 98 = .ok (.goto 5, 3) := by decide +kernel
theorem dX8_greaterQuarreller_101 : decode cX8_greaterQuarreller 101 = .ok (.iload 4, 2) := by decide +kernel
theorem dX8_greaterQuarreller_103 : decode cX8_greaterQuarreller 103 = .ok (.istore 4, 2) := by decide +kernel
theorem dX8_greaterQuarreller_105 : decode cX8_greaterQuarreller 105 = .ok (.iinc 5 1, 3) := by decide +kernel
theorem dX8_greaterQuarreller_108 : decode cX8_greaterQuarreller 108 = .ok (.goto (-100), 3) := by decide +kernel
theorem dX8_greaterQuarreller_111 : decode cX8_greaterQuarreller 111 = .ok (.iconst (-1), 1) := by decide +kernel
theorem dX8_greaterQuarreller_112 : decode cX8_greaterQuarreller 112 = .ok (.ireturn, 1) := by decide +kernel
theorem dX8_lesserQuarreller_0 : decode cX8_lesserQuarreller 0 = .ok (.aload_n 0, 1) := by decide +kernel
theorem dX8_lesserQuarreller_1 : decode cX8_lesserQuarreller 1 = .ok (.iload_n 3, 1) := by decide +kernel
theorem dX8_lesserQuarreller_2 : decode cX8_lesserQuarreller 2 = .ok (.invokevirtual 55, 3) := by decide +kernel
theorem dX8_lesserQuarreller_5 : decode cX8_lesserQuarreller 5 = .ok (.ifCond .eq 13, 3) := by decide +kernel
theorem dX8_lesserQuarreller_8 : decode cX8_lesserQuarreller 8 = .ok (.aload_n 0, 1) := by decide +kernel
theorem dX8_lesserQuarreller_9 : decode cX8_lesserQuarreller 9 = .ok (.iload_n 3, 1) := by decide +kernel
theorem dX8_lesserQuarreller_10 : decode cX8_lesserQuarreller 10 = .ok (.iload_n 1, 1) := by decide +kernel
theorem dX8_lesserQuarreller_11 : decode cX8_lesserQuarreller 11 = .ok (.iload_n 2, 1) := by decide +kernel
theorem dX8_lesserQuarreller_12 : decode cX8_lesserQuarreller 12 = .ok (.invokevirtual 31, 3) := by decide +kernel
theorem dX8_lesserQuarreller_15 : decode cX8_lesserQuarreller 15 = .ok (.ifCond .ne 5, 3) := by decide +kernel
theorem dX8_lesserQuarreller_18 : decode cX8_lesserQuarreller 18 = .ok (.iconst (-1), 1) := by decide +kernel
theorem dX8_lesserQuarreller_19 : decode cX8_lesserQuarreller 19 = .ok (.ireturn, 1) := by decide +kernel
theorem dX8_lesserQuarreller_20 : decode cX8_lesserQuarreller 20 = .ok (.iconst 0, 1) := by decide +kernel
theorem dX8_lesserQuarreller_21 : decode cX8_lesserQuarreller 21 = .ok (.istore 4, 2) := by decide +kernel
theorem dX8_lesserQuarreller_23 : decode cX8_lesserQuarreller 23 = .ok (.iload 4, 2) := by decide +kernel
theorem dX8_lesserQuarreller_25 : decode cX8_lesserQuarreller 25 = .ok (.iload_n 3, 1) := by decide +kernel
theorem dX8_lesserQuarreller_26 : decode cX8_lesserQuarreller 26 = .ok (.if_icmp .ge 43, 3) := by decide +kernel
theorem dX8_lesserQuarreller_29 : decode cX8_lesserQuarreller 29 = .ok (.aload_n 0, 1) := by decide +kernel
theorem dX8_lesserQuarreller_30 : decode cX8_lesserQuarreller 30 = .ok (.iload 4, 2) := by decide +kernel
theorem dX8_lesserQuarreller_32 : decode cX8_lesserQuarreller 32 = .ok (.iload_n 1, 1) := by decide +kernel
theorem dX8_lesserQuarreller_33 : decode cX8_lesserQuarreller 33 = .ok (.iload_n 2, 1) := by decide +kernel
theorem dX8_lesserQuarreller_34 : decode cX8_lesserQuarreller 34 = .ok (.invokevirtual 31, 3) := by decide +kernel
theorem dX8_lesserQuarreller_37 : decode cX8_lesserQuarreller 37 = .ok (.ifCond .eq 26, 3) := by decide +kernel
theorem dX8_lesserQuarreller_40 : decode cX8_lesserQuarreller 40 = .ok (.aload_n 0, 1) := by decide +kernel
theorem dX8_lesserQuarreller_41 : decode cX8_lesserQuarreller 41 = .ok (.iload 4, 2) := by decide +kernel
theorem dX8_lesserQuarreller_43 : decode cX8_lesserQuarreller 43 = .ok (.iload_n 3, 1) := by decide +kernel
theorem dX8_lesserQuarreller_44 : decode cX8_lesserQuarreller 44 = .ok (.invokevirtual 59, 3) := by decide +kernel
theorem dX8_lesserQuarreller_47 : decode cX8_lesserQuarreller 47 = .ok (.ifCond .ne 13, 3) := by decide +kernel
theorem dX8_lesserQuarreller_50 : decode cX8_lesserQuarreller 50 = .ok (.aload_n 0, 1) := by decide +kernel
theorem dX8_lesserQuarreller_51 : decode cX8_lesserQuarreller 51 = .ok (.iload_n 3, 1) := by decide +kernel
theorem dX8_lesserQuarreller_52 : decode cX8_lesserQuarreller 52 = .ok (.iload 4, 2) := by decide +kernel
theorem dX8_lesserQuarreller_54 : decode cX8_lesserQuarreller 54 = .ok (.invokevirtual 59, 3) := by decide +kernel
theorem dX8_lesserQuarreller_57 : decode cX8_lesserQuarreller 57 = .ok (.ifCond .eq 6, 3) := by decide +kernel
theorem dX8_lesserQuarreller_60 : decode cX8_lesserQuarreller 60 = .ok (.iload 4, 2) := by decide +kernel
theorem dX8_lesserQuarreller_62 : decode cX8_lesserQuarreller 62 = .ok (.ireturn, 1) := by decide +kernel
theorem dX8_lesserQuarreller_63 : decode cX8_lesserQuarreller 63 = .ok (.iinc 4 1, 3) := by decide +kernel
theorem dX8_lesserQuarreller_66 : decode cX8_lesserQuarreller 66 = .ok (.goto (-43), 3) := by decide +kernel
theorem dX8_lesserQuarreller_69 : decode cX8_lesserQuarreller 69 = .ok (.iconst (-1), 1) := by decide +kernel
theorem dX8_lesserQuarreller_70 : decode cX8_lesserQuarreller 70 = .ok (.ireturn, 1) := by decide +kernel
theorem dX8_leastOf_0 : decode cX8_leastOf 0 = .ok (.aload_n 0, 1) := by decide +kernel
theorem dX8_leastOf_1 : decode cX8_leastOf 1 = .ok (.iload_n 1, 1) := by decide +kernel
theorem dX8_leastOf_2 : decode cX8_leastOf 2 = .ok (.iload_n 3, 1) := by decide +kernel
theorem dX8_leastOf_3 : decode cX8_leastOf 3 = .ok (.invokevirtual 62, 3) := by decide +kernel
theorem dX8_leastOf_6 : decode cX8_leastOf 6 = .ok (.istore 4, 2) := by decide +kernel
theorem dX8_leastOf_8 : decode cX8_leastOf 8 = .ok (.aload_n 0, 1) := by decide +kernel
theorem dX8_leastOf_9 : decode cX8_leastOf 9 = .ok (.iload 4, 2) := by decide +kernel
theorem dX8_leastOf_11 : decode cX8_leastOf 11 = .ok (.invokevirtual 46, 3) := by decide +kernel
theorem dX8_leastOf_14 : decode cX8_leastOf 14 = .ok (.istore 5, 2) := by decide +kernel
theorem dX8_leastOf_16 : decode cX8_leastOf 16 = .ok (.iload 5, 2) := by decide +kernel
theorem dX8_leastOf_18 : decode cX8_leastOf 18 = .ok (.iconst 1, 1) := by decide +kernel
theorem dX8_leastOf_19 : decode cX8_leastOf 19 = .ok (.if_icmp .ge 7, 3) := by decide +kernel
theorem dX8_leastOf_22 : decode cX8_leastOf 22 = .ok (.iconst (-1), 1) := by decide +kernel
theorem dX8_leastOf_23 : decode cX8_leastOf 23 = .ok (.goto 20, 3) := by decide +kernel
theorem dX8_leastOf_26 : decode cX8_leastOf 26 = .ok (.iload_n 2, 1) := by decide +kernel
theorem dX8_leastOf_27 : decode cX8_leastOf 27 = .ok (.i2l, 1) := by decide +kernel
theorem dX8_leastOf_28 : decode cX8_leastOf 28 = .ok (.aload_n 0, 1) := by decide +kernel
theorem dX8_leastOf_29 : decode cX8_leastOf 29 = .ok (.iload 4, 2) := by decide +kernel
theorem dX8_leastOf_31 : decode cX8_leastOf 31 = .ok (.invokevirtual 42, 3) := by decide +kernel
theorem dX8_leastOf_34 : decode cX8_leastOf 34 = .ok (.i2l, 1) := by decide +kernel
theorem dX8_leastOf_35 : decode cX8_leastOf 35 = .ok (.lmul, 1) := by decide +kernel
theorem dX8_leastOf_36 : decode cX8_leastOf 36 = .ok (.iload 5, 2) := by decide +kernel
theorem dX8_leastOf_38 : decode cX8_leastOf 38 = .ok (.i2l, 1) := by decide +kernel
theorem dX8_leastOf_39 : decode cX8_leastOf 39 = .ok (.ldiv, 1) := by decide +kernel
theorem dX8_leastOf_40 : decode cX8_leastOf 40 = .ok (.invokestatic 66, 3) := by decide +kernel
theorem dX8_leastOf_43 : decode cX8_leastOf 43 = .ok (.ireturn, 1) := by decide +kernel
theorem dX8_mostOf_0 : decode cX8_mostOf 0 = .ok (.aload_n 0, 1) := by decide +kernel
theorem dX8_mostOf_1 : decode cX8_mostOf 1 = .ok (.iload_n 1, 1) := by decide +kernel
theorem dX8_mostOf_2 : decode cX8_mostOf 2 = .ok (.iload_n 3, 1) := by decide +kernel
theorem dX8_mostOf_3 : decode cX8_mostOf 3 = .ok (.invokevirtual 70, 3) := by decide +kernel
theorem dX8_mostOf_6 : decode cX8_mostOf 6 = .ok (.istore 4, 2) := by decide +kernel
theorem dX8_mostOf_8 : decode cX8_mostOf 8 = .ok (.aload_n 0, 1) := by decide +kernel
theorem dX8_mostOf_9 : decode cX8_mostOf 9 = .ok (.iload 4, 2) := by decide +kernel
theorem dX8_mostOf_11 : decode cX8_mostOf 11 = .ok (.invokevirtual 52, 3) := by decide +kernel
theorem dX8_mostOf_14 : decode cX8_mostOf 14 = .ok (.istore 5, 2) := by decide +kernel
theorem dX8_mostOf_16 : decode cX8_mostOf 16 = .ok (.iload 5, 2) := by decide +kernel
theorem dX8_mostOf_18 : decode cX8_mostOf 18 = .ok (.iconst 1, 1) := by decide +kernel
theorem dX8_mostOf_19 : decode cX8_mostOf 19 = .ok (.if_icmp .ge 8, 3) := by decide +kernel
theorem dX8_mostOf_22 : decode cX8_mostOf 22 = .ok (.ldc 73, 2) := by decide +kernel
theorem dX8_mostOf_24 : decode cX8_mostOf 24 = .ok (.goto 26, 3) := by decide +kernel
theorem dX8_mostOf_27 : decode cX8_mostOf 27 = .ok (.iload_n 2, 1) := by decide +kernel
theorem dX8_mostOf_28 : decode cX8_mostOf 28 = .ok (.i2l, 1) := by decide +kernel
theorem dX8_mostOf_29 : decode cX8_mostOf 29 = .ok (.aload_n 0, 1) := by decide +kernel
theorem dX8_mostOf_30 : decode cX8_mostOf 30 = .ok (.iload 4, 2) := by decide +kernel
theorem dX8_mostOf_32 : decode cX8_mostOf 32 = .ok (.invokevirtual 49, 3) := by decide +kernel
theorem dX8_mostOf_35 : decode cX8_mostOf 35 = .ok (.i2l, 1) := by decide +kernel
theorem dX8_mostOf_36 : decode cX8_mostOf 36 = .ok (.lmul, 1) := by decide +kernel
theorem dX8_mostOf_37 : decode cX8_mostOf 37 = .ok (.iload 5, 2) := by decide +kernel
theorem dX8_mostOf_39 : decode cX8_mostOf 39 = .ok (.i2l, 1) := by decide +kernel
theorem dX8_mostOf_40 : decode cX8_mostOf 40 = .ok (.ladd, 1) := by decide +kernel
theorem dX8_mostOf_41 : decode cX8_mostOf 41 = .ok (.lconst 1, 1) := by decide +kernel
theorem dX8_mostOf_42 : decode cX8_mostOf 42 = .ok (.lsub, 1) := by decide +kernel
theorem dX8_mostOf_43 : decode cX8_mostOf 43 = .ok (.iload 5, 2) := by decide +kernel
theorem dX8_mostOf_45 : decode cX8_mostOf 45 = .ok (.i2l, 1) := by decide +kernel
theorem dX8_mostOf_46 : decode cX8_mostOf 46 = .ok (.ldiv, 1) := by decide +kernel
theorem dX8_mostOf_47 : decode cX8_mostOf 47 = .ok (.invokestatic 66, 3) := by decide +kernel
theorem dX8_mostOf_50 : decode cX8_mostOf 50 = .ok (.ireturn, 1) := by decide +kernel
theorem dX8_capped_0 : decode cX8_capped 0 = .ok (.lload_n 0, 1) := by decide +kernel
theorem dX8_capped_1 : decode cX8_capped 1 = .ok (.ldc2_w 74, 3) := by decide +kernel
theorem dX8_capped_4 : decode cX8_capped 4 = .ok (.invokestatic 76, 3) := by decide +kernel
theorem dX8_capped_7 : decode cX8_capped 7 = .ok (.l2i, 1) := by decide +kernel
theorem dX8_capped_8 : decode cX8_capped 8 = .ok (.ireturn, 1) := by decide +kernel
theorem dX9_init_0 : decode cX9_init 0 = .ok (.aload_n 0, 1) := by decide +kernel
theorem dX9_init_1 : decode cX9_init 1 = .ok (.invokespecial 3, 3) := by decide +kernel
theorem dX9_init_4 : decode cX9_init 4 = .ok (.aload_n 0, 1) := by decide +kernel
theorem dX9_init_5 : decode cX9_init 5 = .ok (.iconst 5, 1) := by decide +kernel
theorem dX9_init_6 : decode cX9_init 6 = .ok (.newarray .int, 2) := by decide +kernel
theorem dX9_init_8 : decode cX9_init 8 = .ok (.putfield 11, 3) := by decide +kernel
theorem dX9_init_11 : decode cX9_init 11 = .ok (.aload_n 0, 1) := by decide +kernel
theorem dX9_init_12 : decode cX9_init 12 = .ok (.iconst 5, 1) := by decide +kernel
theorem dX9_init_13 : decode cX9_init 13 = .ok (.newarray .int, 2) := by decide +kernel
theorem dX9_init_15 : decode cX9_init 15 = .ok (.putfield 15, 3) := by decide +kernel
theorem dX9_init_18 : decode cX9_init 18 = .ok (.aload_n 0, 1) := by decide +kernel
theorem dX9_init_19 : decode cX9_init 19 = .ok (.iconst 4, 1) := by decide +kernel
theorem dX9_init_20 : decode cX9_init 20 = .ok (.newarray .int, 2) := by decide +kernel
theorem dX9_init_22 : decode cX9_init 22 = .ok (.putfield 18, 3) := by decide +kernel
theorem dX9_init_25 : decode cX9_init 25 = .ok (.aload_n 0, 1) := by decide +kernel
theorem dX9_init_26 : decode cX9_init 26 = .ok (.iconst 4, 1) := by decide +kernel
theorem dX9_init_27 : decode cX9_init 27 = .ok (.newarray .int, 2) := by decide +kernel
theorem dX9_init_29 : decode cX9_init 29 = .ok (.putfield 21, 3) := by decide +kernel
theorem dX9_init_32 : decode cX9_init 32 = .ok (.aload_n 0, 1) := by decide +kernel
theorem dX9_init_33 : decode cX9_init 33 = .ok (.bipush 25, 2) := by decide +kernel
theorem dX9_init_35 : decode cX9_init 35 = .ok (.newarray .long, 2) := by decide +kernel
theorem dX9_init_37 : decode cX9_init 37 = .ok (.putfield 24, 3) := by decide +kernel
theorem dX9_init_40 : decode cX9_init 40 = .ok (.aload_n 0, 1) := by decide +kernel
theorem dX9_init_41 : decode cX9_init 41 = .ok (.bipush 25, 2) := by decide +kernel
theorem dX9_init_43 : decode cX9_init 43 = .ok (.newarray .long, 2) := by decide +kernel
theorem dX9_init_45 : decode cX9_init 45 = .ok (.putfield 28, 3) := by decide +kernel
theorem dX9_init_48 : decode cX9_init 48 = .ok (.aload_n 0, 1) := by decide +kernel
theorem dX9_init_49 : decode cX9_init 49 = .ok (.bipush 6, 2) := by decide +kernel
theorem dX9_init_51 : decode cX9_init 51 = .ok (.newarray .long, 2) := by decide +kernel
theorem dX9_init_53 : decode cX9_init 53 = .ok (.putfield 31, 3) := by decide +kernel
theorem dX9_init_56 : decode cX9_init 56 = .ok (.aload_n 0, 1) := by decide +kernel
theorem dX9_init_57 : decode cX9_init 57 = .ok (.iconst 5, 1) := by decide +kernel
theorem dX9_init_58 : decode cX9_init 58 = .ok (.newarray .int, 2) := by decide +kernel
theorem dX9_init_60 : decode cX9_init 60 = .ok (.putfield 34, 3) := by decide +kernel
theorem dX9_init_63 : decode cX9_init 63 = .ok (.aload_n 0, 1) := by decide +kernel
theorem dX9_init_64 : decode cX9_init 64 = .ok (.iconst 5, 1) := by decide +kernel
theorem dX9_init_65 : decode cX9_init 65 = .ok (.newarray .int, 2) := by decide +kernel
theorem dX9_init_67 : decode cX9_init 67 = .ok (.putfield 37, 3) := by decide +kernel
theorem dX9_init_70 : decode cX9_init 70 = .ok (.return_, 1) := by decide +kernel
theorem dX9_clearPlan_0 : decode cX9_clearPlan 0 = .ok (.aload_n 0, 1) := by decide +kernel
theorem dX9_clearPlan_1 : decode cX9_clearPlan 1 = .ok (.iconst 0, 1) := by decide +kernel
theorem dX9_clearPlan_2 : decode cX9_clearPlan 2 = .ok (.putfield 40, 3) := by decide +kernel
theorem dX9_clearPlan_5 : decode cX9_clearPlan 5 = .ok (.aload_n 0, 1) := by decide +kernel
theorem dX9_clearPlan_6 : decode cX9_clearPlan 6 = .ok (.iconst 0, 1) := by decide +kernel
theorem dX9_clearPlan_7 : decode cX9_clearPlan 7 = .ok (.putfield 44, 3) := by decide +kernel
theorem dX9_clearPlan_10 : decode cX9_clearPlan 10 = .ok (.return_, 1) := by decide +kernel
theorem dX9_addLot_0 : decode cX9_addLot 0 = .ok (.aload_n 0, 1) := by decide +kernel
theorem dX9_addLot_1 : decode cX9_addLot 1 = .ok (.getfield 40, 3) := by decide +kernel
theorem dX9_addLot_4 : decode cX9_addLot 4 = .ok (.iconst 5, 1) := by decide +kernel
theorem dX9_addLot_5 : decode cX9_addLot 5 = .ok (.if_icmp .ge 33, 3) := by decide +kernel
theorem dX9_addLot_8 : decode cX9_addLot 8 = .ok (.aload_n 0, 1) := by decide +kernel
theorem dX9_addLot_9 : decode cX9_addLot 9 = .ok (.getfield 11, 3) := by decide +kernel
theorem dX9_addLot_12 : decode cX9_addLot 12 = .ok (.aload_n 0, 1) := by decide +kernel
theorem dX9_addLot_13 : decode cX9_addLot 13 = .ok (.getfield 40, 3) := by decide +kernel
theorem dX9_addLot_16 : decode cX9_addLot 16 = .ok (.iload_n 1, 1) := by decide +kernel
theorem dX9_addLot_17 : decode cX9_addLot 17 = .ok (.iastore, 1) := by decide +kernel
theorem dX9_addLot_18 : decode cX9_addLot 18 = .ok (.aload_n 0, 1) := by decide +kernel
theorem dX9_addLot_19 : decode cX9_addLot 19 = .ok (.getfield 15, 3) := by decide +kernel
theorem dX9_addLot_22 : decode cX9_addLot 22 = .ok (.aload_n 0, 1) := by decide +kernel
theorem dX9_addLot_23 : decode cX9_addLot 23 = .ok (.getfield 40, 3) := by decide +kernel
theorem dX9_addLot_26 : decode cX9_addLot 26 = .ok (.iload_n 2, 1) := by decide +kernel
theorem dX9_addLot_27 : decode cX9_addLot 27 = .ok (.iastore, 1) := by decide +kernel
theorem dX9_addLot_28 : decode cX9_addLot 28 = .ok (.aload_n 0, 1) := by decide +kernel
theorem dX9_addLot_29 : decode cX9_addLot 29 = .ok (.dup, 1) := by decide +kernel
theorem dX9_addLot_30 : decode cX9_addLot 30 = .ok (.getfield 40, 3) := by decide +kernel
theorem dX9_addLot_33 : decode cX9_addLot 33 = .ok (.iconst 1, 1) := by decide +kernel
theorem dX9_addLot_34 : decode cX9_addLot 34 = .ok (.iadd, 1) := by decide +kernel
theorem dX9_addLot_35 : decode cX9_addLot 35 = .ok (.putfield 40, 3) := by decide +kernel
theorem dX9_addLot_38 : decode cX9_addLot 38 = .ok (.return_, 1) := by decide +kernel
theorem dX9_addShip_0 : decode cX9_addShip 0 = .ok (.aload_n 0, 1) := by decide +kernel
theorem dX9_addShip_1 : decode cX9_addShip 1 = .ok (.getfield 44, 3) := by decide +kernel
theorem dX9_addShip_4 : decode cX9_addShip 4 = .ok (.iconst 4, 1) := by decide +kernel
theorem dX9_addShip_5 : decode cX9_addShip 5 = .ok (.if_icmp .ge 33, 3) := by decide +kernel
theorem dX9_addShip_8 : decode cX9_addShip 8 = .ok (.aload_n 0, 1) := by decide +kernel
theorem dX9_addShip_9 : decode cX9_addShip 9 = .ok (.getfield 18, 3) := by decide +kernel
theorem dX9_addShip_12 : decode cX9_addShip 12 = .ok (.aload_n 0, 1) := by decide +kernel
theorem dX9_addShip_13 : decode cX9_addShip 13 = .ok (.getfield 44, 3) := by decide +kernel
theorem dX9_addShip_16 : decode cX9_addShip 16 = .ok (.iload_n 1, 1) := by decide +kernel
theorem dX9_addShip_17 : decode cX9_addShip 17 = .ok (.iastore, 1) := by decide +kernel
theorem dX9_addShip_18 : decode cX9_addShip 18 = .ok (.aload_n 0, 1) := by decide +kernel
theorem dX9_addShip_19 : decode cX9_addShip 19 = .ok (.getfield 21, 3) := by decide +kernel
theorem dX9_addShip_22 : decode cX9_addShip 22 = .ok (.aload_n 0, 1) := by decide +kernel
theorem dX9_addShip_23 : decode cX9_addShip 23 = .ok (.getfield 44, 3) := by decide +kernel
theorem dX9_addShip_26 : decode cX9_addShip 26 = .ok (.iload_n 2, 1) := by decide +kernel
theorem dX9_addShip_27 : decode cX9_addShip 27 = .ok (.iastore, 1) := by decide +kernel
theorem dX9_addShip_28 : decode cX9_addShip 28 = .ok (.aload_n 0, 1) := by decide +kernel
theorem dX9_addShip_29 : decode cX9_addShip 29 = .ok (.dup, 1) := by decide +kernel
theorem dX9_addShip_30 : decode cX9_addShip 30 = .ok (.getfield 44, 3) := by decide +kernel
theorem dX9_addShip_33 : decode cX9_addShip 33 = .ok (.iconst 1, 1) := by decide +kernel
theorem dX9_addShip_34 : decode cX9_addShip 34 = .ok (.iadd, 1) := by decide +kernel
theorem dX9_addShip_35 : decode cX9_addShip 35 = .ok (.putfield 44, 3) := by decide +kernel
theorem dX9_addShip_38 : decode cX9_addShip 38 = .ok (.return_, 1) := by decide +kernel
theorem dX9_setPrices_0 : decode cX9_setPrices 0 = .ok (.iload_n 1, 1) := by decide +kernel
theorem dX9_setPrices_1 : decode cX9_setPrices 1 = .ok (.ifCond .lt 58, 3) := by decide +kernel
theorem dX9_setPrices_4 : decode cX9_setPrices 4 = .ok (.iload_n 1, 1) := by decide +kernel
theorem dX9_setPrices_5 : decode cX9_setPrices 5 = .ok (.iconst 5, 1) := by decide +kernel
theorem dX9_setPrices_6 : decode cX9_setPrices 6 = .ok (.if_icmp .ge 53, 3) := by decide +kernel
theorem dX9_setPrices_9 : decode cX9_setPrices 9 = .ok (.iload_n 2, 1) := by decide +kernel
theorem dX9_setPrices_10 : decode cX9_setPrices 10 = .ok (.ifCond .lt 49, 3) := by decide +kernel
theorem dX9_setPrices_13 : decode cX9_setPrices 13 = .ok (.iload_n 2, 1) := by decide +kernel
theorem dX9_setPrices_14 : decode cX9_setPrices 14 = .ok (.iconst 5, 1) := by decide +kernel
theorem dX9_setPrices_15 : decode cX9_setPrices 15 = .ok (.if_icmp .ge 44, 3) := by decide +kernel
theorem dX9_setPrices_18 : decode cX9_setPrices 18 = .ok (.aload_n 0, 1) := by decide +kernel
theorem dX9_setPrices_19 : decode cX9_setPrices 19 = .ok (.getfield 24, 3) := by decide +kernel
theorem dX9_setPrices_22 : decode cX9_setPrices 22 = .ok (.iload_n 1, 1) := by decide +kernel
theorem dX9_setPrices_23 : decode cX9_setPrices 23 = .ok (.iconst 5, 1) := by decide +kernel
theorem dX9_setPrices_24 : decode cX9_setPrices 24 = .ok (.imul, 1) := by decide +kernel
theorem dX9_setPrices_25 : decode cX9_setPrices 25 = .ok (.iload_n 2, 1) := by decide +kernel
theorem dX9_setPrices_26 : decode cX9_setPrices 26 = .ok (.iadd, 1) := by decide +kernel
theorem dX9_setPrices_27 : decode cX9_setPrices 27 = .ok (.aload_n 0, 1) := by decide +kernel
theorem dX9_setPrices_28 : decode cX9_setPrices 28 = .ok (.getfield 15, 3) := by decide +kernel
theorem dX9_setPrices_31 : decode cX9_setPrices 31 = .ok (.iload_n 1, 1) := by decide +kernel
theorem dX9_setPrices_32 : decode cX9_setPrices 32 = .ok (.iaload, 1) := by decide +kernel
theorem dX9_setPrices_33 : decode cX9_setPrices 33 = .ok (.i2l, 1) := by decide +kernel
theorem dX9_setPrices_34 : decode cX9_setPrices 34 = .ok (.iload_n 3, 1) := by decide +kernel
theorem dX9_setPrices_35 : decode cX9_setPrices 35 = .ok (.i2l, 1) := by decide +kernel
theorem dX9_setPrices_36 : decode cX9_setPrices 36 = .ok (.lmul, 1) := by decide +kernel
theorem dX9_setPrices_37 : decode cX9_setPrices 37 = .ok (.lastore, 1) := by decide +kernel
theorem dX9_setPrices_38 : decode cX9_setPrices 38 = .ok (.aload_n 0, 1) := by decide +kernel
theorem dX9_setPrices_39 : decode cX9_setPrices 39 = .ok (.getfield 28, 3) := by decide +kernel
theorem dX9_setPrices_42 : decode cX9_setPrices 42 = .ok (.iload_n 1, 1) := by decide +kernel
theorem dX9_setPrices_43 : decode cX9_setPrices 43 = .ok (.iconst 5, 1) := by decide +kernel
theorem dX9_setPrices_44 : decode cX9_setPrices 44 = .ok (.imul, 1) := by decide +kernel
theorem dX9_setPrices_45 : decode cX9_setPrices 45 = .ok (.iload_n 2, 1) := by decide +kernel
theorem dX9_setPrices_46 : decode cX9_setPrices 46 = .ok (.iadd, 1) := by decide +kernel
theorem dX9_setPrices_47 : decode cX9_setPrices 47 = .ok (.aload_n 0, 1) := by decide +kernel
theorem dX9_setPrices_48 : decode cX9_setPrices 48 = .ok (.getfield 15, 3) := by decide +kernel
theorem dX9_setPrices_51 : decode cX9_setPrices 51 = .ok (.iload_n 1, 1) := by decide +kernel
theorem dX9_setPrices_52 : decode cX9_setPrices 52 = .ok (.iaload, 1) := by decide +kernel
theorem dX9_setPrices_53 : decode cX9_setPrices 53 = .ok (.i2l, 1) := by decide +kernel
theorem dX9_setPrices_54 : decode cX9_setPrices 54 = .ok (.iload 4, 2) := by decide +kernel
theorem dX9_setPrices_56 : decode cX9_setPrices 56 = .ok (.i2l, 1) := by decide +kernel
theorem dX9_setPrices_57 : decode cX9_setPrices 57 = .ok (.lmul, 1) := by decide +kernel
theorem dX9_setPrices_58 : decode cX9_setPrices 58 = .ok (.lastore, 1) := by decide +kernel
theorem dX9_setPrices_59 : decode cX9_setPrices 59 = .ok (.return_, 1) := by decide +kernel
theorem dX9_shipOf_0 : decode cX9_shipOf 0 = .ok (.iload_n 1, 1) := by decide +kernel
theorem dX9_shipOf_1 : decode cX9_shipOf 1 = .ok (.ifCond .lt 33, 3) := by decide +kernel
theorem dX9_shipOf_4 : decode cX9_shipOf 4 = .ok (.iload_n 1, 1) := by decide +kernel
theorem dX9_shipOf_5 : decode cX9_shipOf 5 = .ok (.aload_n 0, 1) := by decide +kernel
theorem dX9_shipOf_6 : decode cX9_shipOf 6 = .ok (.getfield 40, 3) := by decide +kernel
theorem dX9_shipOf_9 : decode cX9_shipOf 9 = .ok (.if_icmp .ge 25, 3) := by decide +kernel
theorem dX9_shipOf_12 : decode cX9_shipOf 12 = .ok (.aload_n 0, 1) := by decide +kernel
theorem dX9_shipOf_13 : decode cX9_shipOf 13 = .ok (.getfield 37, 3) := by decide +kernel
theorem dX9_shipOf_16 : decode cX9_shipOf 16 = .ok (.iload_n 1, 1) := by decide +kernel
theorem dX9_shipOf_17 : decode cX9_shipOf 17 = .ok (.iaload, 1) := by decide +kernel
theorem dX9_shipOf_18 : decode cX9_shipOf 18 = .ok (.ifCond .lt 16, 3) := by decide +kernel
theorem dX9_shipOf_21 : decode cX9_shipOf 21 = .ok (.aload_n 0, 1) := by decide +kernel
theorem dX9_shipOf_22 : decode cX9_shipOf 22 = .ok (.getfield 37, 3) := by decide +kernel
theorem dX9_shipOf_25 : decode cX9_shipOf 25 = .ok (.iload_n 1, 1) := by decide +kernel
theorem dX9_shipOf_26 : decode cX9_shipOf 26 = .ok (.iaload, 1) := by decide +kernel
theorem dX9_shipOf_27 : decode cX9_shipOf 27 = .ok (.aload_n 0, 1) := by decide +kernel
theorem dX9_shipOf_28 : decode cX9_shipOf 28 = .ok (.getfield 44, 3) := by decide +kernel
theorem dX9_shipOf_31 : decode cX9_shipOf 31 = .ok (.if_icmp .lt 5, 3) := by decide +kernel
theorem dX9_shipOf_34 : decode cX9_shipOf 34 = .ok (.iconst (-1), 1) := by decide +kernel
theorem dX9_shipOf_35 : decode cX9_shipOf 35 = .ok (.ireturn, 1) := by decide +kernel
theorem dX9_shipOf_36 : decode cX9_shipOf 36 = .ok (.aload_n 0, 1) := by decide +kernel
theorem dX9_shipOf_37 : decode cX9_shipOf 37 = .ok (.getfield 18, 3) := by decide +kernel
theorem dX9_shipOf_40 : decode cX9_shipOf 40 = .ok (.aload_n 0, 1) := by decide +kernel
theorem dX9_shipOf_41 : decode cX9_shipOf 41 = .ok (.getfield 37, 3) := by decide +kernel
theorem dX9_shipOf_44 : decode cX9_shipOf 44 = .ok (.iload_n 1, 1) := by decide +kernel
theorem dX9_shipOf_45 : decode cX9_shipOf 45 = .ok (.iaload, 1) := by decide +kernel
theorem dX9_shipOf_46 : decode cX9_shipOf 46 = .ok (.iaload, 1) := by decide +kernel
theorem dX9_shipOf_47 : decode cX9_shipOf 47 = .ok (.ireturn, 1) := by decide +kernel
theorem dX9_findBest_0 : decode cX9_findBest 0 = .ok (.aload_n 0, 1) := by decide +kernel
theorem dX9_findBest_1 : decode cX9_findBest 1 = .ok (.iconst 1, 1) := by decide +kernel
theorem dX9_findBest_2 : decode cX9_findBest 2 = .ok (.putfield 47, 3) := by decide +kernel
theorem dX9_findBest_5 : decode cX9_findBest 5 = .ok (.aload_n 0, 1) := by decide +kernel
theorem dX9_findBest_6 : decode cX9_findBest 6 = .ok (.ldc2_w 51, 3) := by decide +kernel
theorem dX9_findBest_9 : decode cX9_findBest 9 = .ok (.putfield 53, 3) := by decide +kernel
theorem dX9_findBest_12 : decode cX9_findBest 12 = .ok (.aload_n 0, 1) := by decide +kernel
theorem dX9_findBest_13 : decode cX9_findBest 13 = .ok (.ldc2_w 51, 3) := by decide +kernel
theorem dX9_findBest_16 : decode cX9_findBest 16 = .ok (.putfield 57, 3) := by decide +kernel
theorem dX9_findBest_19 : decode cX9_findBest 19 = .ok (.aload_n 0, 1) := by decide +kernel
theorem dX9_findBest_20 : decode cX9_findBest 20 = .ok (.getfield 31, 3) := by decide +kernel
theorem dX9_findBest_23 : decode cX9_findBest 23 = .ok (.aload_n 0, 1) := by decide +kernel
theorem dX9_findBest_24 : decode cX9_findBest 24 = .ok (.getfield 40, 3) := by decide +kernel
theorem dX9_findBest_27 : decode cX9_findBest 27 = .ok (.lconst 0, 1) := by decide +kernel
theorem dX9_findBest_28 : decode cX9_findBest 28 = .ok (.lastore, 1) := by decide +kernel
theorem dX9_findBest_29 : decode cX9_findBest 29 = .ok (.aload_n 0, 1) := by decide +kernel
theorem dX9_findBest_30 : decode cX9_findBest 30 = .ok (.getfield 40, 3) := by decide +kernel
theorem dX9_findBest_33 : decode cX9_findBest 33 = .ok (.iconst 1, 1) := by decide +kernel
theorem dX9_findBest_34 : decode cX9_findBest 34 = .ok (.isub, 1) := by decide +kernel
theorem dX9_findBest_35 : decode cX9_findBest 35 = .ok (.istore_n 1, 1) := by decide +kernel
theorem dX9_findBest_36 : decode cX9_findBest 36 = .ok (.iload_n 1, 1) := by decide +kernel
theorem dX9_findBest_37 : decode cX9_findBest 37 = .ok (.ifCond .lt 70, 3) := by decide +kernel
theorem dX9_findBest_40 : decode cX9_findBest 40 = .ok (.aload_n 0, 1) := by decide +kernel
theorem dX9_findBest_41 : decode cX9_findBest 41 = .ok (.getfield 24, 3) := by decide +kernel
theorem dX9_findBest_44 : decode cX9_findBest 44 = .ok (.iload_n 1, 1) := by decide +kernel
theorem dX9_findBest_45 : decode cX9_findBest 45 = .ok (.iconst 5, 1) := by decide +kernel
theorem dX9_findBest_46 : decode cX9_findBest 46 = .ok (.imul, 1) := by decide +kernel
theorem dX9_findBest_47 : decode cX9_findBest 47 = .ok (.iconst 4, 1) := by decide +kernel
theorem dX9_findBest_48 : decode cX9_findBest 48 = .ok (.iadd, 1) := by decide +kernel
theorem dX9_findBest_49 : decode cX9_findBest 49 = .ok (.laload, 1) := by decide +kernel
theorem dX9_findBest_50 : decode cX9_findBest 50 = .ok (.lstore_n 2, 1) := by decide +kernel
theorem dX9_findBest_51 : decode cX9_findBest 51 = .ok (.iconst 0, 1) := by decide +kernel
theorem dX9_findBest_52 : decode cX9_findBest 52 = .ok (.istore 4, 2) := by decide +kernel
theorem dX9_findBest_54 : decode cX9_findBest 54 = .ok (.iload 4, 2) := by decide +kernel
theorem dX9_findBest_56 : decode cX9_findBest 56 = .ok (.aload_n 0, 1) := by decide +kernel
theorem dX9_findBest_57 : decode cX9_findBest 57 = .ok (.getfield 44, 3) := by decide +kernel
theorem dX9_findBest_60 : decode cX9_findBest 60 = .ok (.if_icmp .ge 25, 3) := by decide +kernel
theorem dX9_findBest_63 : decode cX9_findBest 63 = .ok (.lload_n 2, 1) := by decide +kernel
theorem dX9_findBest_64 : decode cX9_findBest 64 = .ok (.aload_n 0, 1) := by decide +kernel
theorem dX9_findBest_65 : decode cX9_findBest 65 = .ok (.getfield 24, 3) := by decide +kernel
theorem dX9_findBest_68 : decode cX9_findBest 68 = .ok (.iload_n 1, 1) := by decide +kernel
theorem dX9_findBest_69 : decode cX9_findBest 69 = .ok (.iconst 5, 1) := by decide +kernel
theorem dX9_findBest_70 : decode cX9_findBest 70 = .ok (.imul, 1) := by decide +kernel
theorem dX9_findBest_71 : decode cX9_findBest 71 = .ok (.iload 4, 2) := by decide +kernel
theorem dX9_findBest_73 : decode cX9_findBest 73 = .ok (.iadd, 1) := by decide +kernel
theorem dX9_findBest_74 : decode cX9_findBest 74 = .ok (.laload, 1) := by decide +kernel
theorem dX9_findBest_75 : decode cX9_findBest 75 = .ok (.invokestatic 60, 3) := by decide +kernel
theorem dX9_findBest_78 : decode cX9_findBest 78 = .ok (.lstore_n 2, 1) := by decide +kernel
theorem dX9_findBest_79 : decode cX9_findBest 79 = .ok (.iinc 4 1, 3) := by decide +kernel
theorem dX9_findBest_82 : decode cX9_findBest 82 = .ok (.goto (-28), 3) := by decide +kernel
theorem dX9_findBest_85 : decode cX9_findBest 85 = .ok (.aload_n 0, 1) := by decide +kernel
theorem dX9_findBest_86 : decode cX9_findBest 86 = .ok (.getfield 31, 3) := by decide +kernel
theorem dX9_findBest_89 : decode cX9_findBest 89 = .ok (.iload_n 1, 1) := by decide +kernel
theorem dX9_findBest_90 : decode cX9_findBest 90 = .ok (.aload_n 0, 1) := by decide +kernel
theorem dX9_findBest_91 : decode cX9_findBest 91 = .ok (.getfield 31, 3) := by decide +kernel
theorem dX9_findBest_94 : decode cX9_findBest 94 = .ok (.iload_n 1, 1) := by decide +kernel
theorem dX9_findBest_95 : decode cX9_findBest 95 = .ok (.iconst 1, 1) := by decide +kernel
theorem dX9_findBest_96 : decode cX9_findBest 96 = .ok (.iadd, 1) := by decide +kernel
theorem dX9_findBest_97 : decode cX9_findBest 97 = .ok (.laload, 1) := by decide +kernel
theorem dX9_findBest_98 : decode cX9_findBest 98 = .ok (.lload_n 2, 1) := by decide +kernel
theorem dX9_findBest_99 : decode cX9_findBest 99 = .ok (.ladd, 1) := by decide +kernel
theorem dX9_findBest_100 : decode cX9_findBest 100 = .ok (.lastore, 1) := by decide +kernel
theorem dX9_findBest_101 : decode cX9_findBest 101 = .ok (.iinc 1 (-1), 3) := by decide +kernel
theorem dX9_findBest_104 : decode cX9_findBest 104 = .ok (.goto (-68), 3) := by decide +kernel
theorem dX9_findBest_107 : decode cX9_findBest 107 = .ok (.aload_n 0, 1) := by decide +kernel
theorem dX9_findBest_108 : decode cX9_findBest 108 = .ok (.iconst 0, 1) := by decide +kernel
theorem dX9_findBest_109 : decode cX9_findBest 109 = .ok (.lconst 0, 1) := by decide +kernel
theorem dX9_findBest_110 : decode cX9_findBest 110 = .ok (.lconst 0, 1) := by decide +kernel
theorem dX9_findBest_111 : decode cX9_findBest 111 = .ok (.invokevirtual 66, 3) := by decide +kernel
theorem dX9_findBest_114 : decode cX9_findBest 114 = .ok (.return_, 1) := by decide +kernel
theorem dX9_tryWays_0 : decode cX9_tryWays 0 = .ok (.iload_n 1, 1) := by decide +kernel
theorem dX9_tryWays_1 : decode cX9_tryWays 1 = .ok (.aload_n 0, 1) := by decide +kernel
theorem dX9_tryWays_2 : decode cX9_tryWays 2 = .ok (.getfield 40, 3) := by decide +kernel
theorem dX9_tryWays_5 : decode cX9_tryWays 5 = .ok (.if_icmp .gt 28, 3) := by decide +kernel
theorem dX9_tryWays_8 : decode cX9_tryWays 8 = .ok (.iload_n 1, 1) := by decide +kernel
theorem dX9_tryWays_9 : decode cX9_tryWays 9 = .ok (.aload_n 0, 1) := by decide +kernel
theorem dX9_tryWays_10 : decode cX9_tryWays 10 = .ok (.getfield 31, 3) := by decide +kernel
theorem dX9_tryWays_13 : decode cX9_tryWays 13 = .ok (.arraylength, 1) := by decide +kernel
theorem dX9_tryWays_14 : decode cX9_tryWays 14 = .ok (.if_icmp .ge 19, 3) := by decide +kernel
theorem dX9_tryWays_17 : decode cX9_tryWays 17 = .ok (.lload_n 2, 1) := by decide +kernel
theorem dX9_tryWays_18 : decode cX9_tryWays 18 = .ok (.aload_n 0, 1) := by decide +kernel
theorem dX9_tryWays_19 : decode cX9_tryWays 19 = .ok (.getfield 31, 3) := by decide +kernel
theorem dX9_tryWays_22 : decode cX9_tryWays 22 = .ok (.iload_n 1, 1) := by decide +kernel
theorem dX9_tryWays_23 : decode cX9_tryWays 23 = .ok (.laload, 1) := by decide +kernel
theorem dX9_tryWays_24 : decode cX9_tryWays 24 = .ok (.ladd, 1) := by decide +kernel
theorem dX9_tryWays_25 : decode cX9_tryWays 25 = .ok (.aload_n 0, 1) := by decide +kernel
theorem dX9_tryWays_26 : decode cX9_tryWays 26 = .ok (.getfield 53, 3) := by decide +kernel
theorem dX9_tryWays_29 : decode cX9_tryWays 29 = .ok (.lcmp, 1) := by decide +kernel
theorem dX9_tryWays_30 : decode cX9_tryWays 30 = .ok (.ifCond .ge 4, 3) := by decide +kernel
theorem dX9_tryWays_33 : decode cX9_tryWays 33 = .ok (.return_, 1) := by decide +kernel
theorem dX9_tryWays_34 : decode cX9_tryWays 34 = .ok (.iload_n 1, 1) := by decide +kernel
theorem dX9_tryWays_35 : decode cX9_tryWays 35 = .ok (.aload_n 0, 1) := by decide +kernel
theorem dX9_tryWays_36 : decode cX9_tryWays 36 = .ok (.getfield 40, 3) := by decide +kernel
theorem dX9_tryWays_39 : decode cX9_tryWays 39 = .ok (.if_icmp .ne 11, 3) := by decide +kernel
theorem dX9_tryWays_42 : decode cX9_tryWays 42 = .ok (.aload_n 0, 1) := by decide +kernel
theorem dX9_tryWays_43 : decode cX9_tryWays 43 = .ok (.lload_n 2, 1) := by decide +kernel
theorem dX9_tryWays_44 : decode cX9_tryWays 44 = .ok (.lload 4, 2) := by decide +kernel
theorem dX9_tryWays_46 : decode cX9_tryWays 46 = .ok (.invokevirtual 70, 3) := by decide +kernel
theorem dX9_tryWays_49 : decode cX9_tryWays 49 = .ok (.return_, 1) := by decide +kernel
theorem dX9_tryWays_50 : decode cX9_tryWays 50 = .ok (.iconst 0, 1) := by decide +kernel
theorem dX9_tryWays_51 : decode cX9_tryWays 51 = .ok (.istore 6, 2) := by decide +kernel
theorem dX9_tryWays_53 : decode cX9_tryWays 53 = .ok (.iload 6, 2) := by decide +kernel
theorem dX9_tryWays_55 : decode cX9_tryWays 55 = .ok (.aload_n 0, 1) := by decide +kernel
theorem dX9_tryWays_56 : decode cX9_tryWays 56 = .ok (.getfield 44, 3) := by decide +kernel
theorem dX9_tryWays_59 : decode cX9_tryWays 59 = .ok (.if_icmp .ge 99, 3) := by decide +kernel
theorem dX9_tryWays_62 : decode cX9_tryWays 62 = .ok (.aload_n 0, 1) := by decide +kernel
theorem dX9_tryWays_63 : decode cX9_tryWays 63 = .ok (.getfield 15, 3) := by decide +kernel
theorem dX9_tryWays_66 : decode cX9_tryWays 66 = .ok (.iload_n 1, 1) := by decide +kernel
theorem dX9_tryWays_67 : decode cX9_tryWays 67 = .ok (.iaload, 1) := by decide +kernel
theorem dX9_tryWays_68 : decode cX9_tryWays 68 = .ok (.aload_n 0, 1) := by decide +kernel
theorem dX9_tryWays_69 : decode cX9_tryWays 69 = .ok (.getfield 21, 3) := by decide +kernel
theorem dX9_tryWays_72 : decode cX9_tryWays 72 = .ok (.iload 6, 2) := by decide +kernel
theorem dX9_tryWays_74 : decode cX9_tryWays 74 = .ok (.iaload, 1) := by decide +kernel
theorem dX9_tryWays_75 : decode cX9_tryWays 75 = .ok (.if_icmp .gt 77, 3) := by decide +kernel
theorem dX9_tryWays_78 : decode cX9_tryWays 78 = .ok (.aload_n 0, 1) := by decide +kernel
theorem dX9_tryWays_79 : decode cX9_tryWays 79 = .ok (.getfield 21, 3) := by decide +kernel
theorem dX9_tryWays_82 : decode cX9_tryWays 82 = .ok (.iload 6, 2) := by decide +kernel
theorem dX9_tryWays_84 : decode cX9_tryWays 84 = .ok (.dup2, 1) := by decide +kernel
theorem dX9_tryWays_85 : decode cX9_tryWays 85 = .ok (.iaload, 1) := by decide +kernel
theorem dX9_tryWays_86 : decode cX9_tryWays 86 = .ok (.aload_n 0, 1) := by decide +kernel
theorem dX9_tryWays_87 : decode cX9_tryWays 87 = .ok (.getfield 15, 3) := by decide +kernel
theorem dX9_tryWays_90 : decode cX9_tryWays 90 = .ok (.iload_n 1, 1) := by decide +kernel
theorem dX9_tryWays_91 : decode cX9_tryWays 91 = .ok (.iaload, 1) := by decide +kernel
theorem dX9_tryWays_92 : decode cX9_tryWays 92 = .ok (.isub, 1) := by decide +kernel
theorem dX9_tryWays_93 : decode cX9_tryWays 93 = .ok (.iastore, 1) := by decide +kernel
theorem dX9_tryWays_94 : decode cX9_tryWays 94 = .ok (.aload_n 0, 1) := by decide +kernel
theorem dX9_tryWays_95 : decode cX9_tryWays 95 = .ok (.getfield 34, 3) := by decide +kernel
theorem dX9_tryWays_98 : decode cX9_tryWays 98 = .ok (.iload_n 1, 1) := by decide +kernel
theorem dX9_tryWays_99 : decode cX9_tryWays 99 = .ok (.iload 6, 2) := by decide +kernel
theorem dX9_tryWays_101 : decode cX9_tryWays 101 = .ok (.iastore, 1) := by decide +kernel
theorem dX9_tryWays_102 : decode cX9_tryWays 102 = .ok (.aload_n 0, 1) := by decide +kernel
theorem dX9_tryWays_103 : decode cX9_tryWays 103 = .ok (.iload_n 1, 1) := by decide +kernel
theorem dX9_tryWays_104 : decode cX9_tryWays 104 = .ok (.iconst 1, 1) := by decide +kernel
theorem dX9_tryWays_105 : decode cX9_tryWays 105 = .ok (.iadd, 1) := by decide +kernel
theorem dX9_tryWays_106 : decode cX9_tryWays 106 = .ok (.lload_n 2, 1) := by decide +kernel
theorem dX9_tryWays_107 : decode cX9_tryWays 107 = .ok (.aload_n 0, 1) := by decide +kernel
theorem dX9_tryWays_108 : decode cX9_tryWays 108 = .ok (.getfield 24, 3) := by decide +kernel
theorem dX9_tryWays_111 : decode cX9_tryWays 111 = .ok (.iload_n 1, 1) := by decide +kernel
theorem dX9_tryWays_112 : decode cX9_tryWays 112 = .ok (.iconst 5, 1) := by decide +kernel
theorem dX9_tryWays_113 : decode cX9_tryWays 113 = .ok (.imul, 1) := by decide +kernel
theorem dX9_tryWays_114 : decode cX9_tryWays 114 = .ok (.iload 6, 2) := by decide +kernel
theorem dX9_tryWays_116 : decode cX9_tryWays 116 = .ok (.iadd, 1) := by decide +kernel
theorem dX9_tryWays_117 : decode cX9_tryWays 117 = .ok (.laload, 1) := by decide +kernel
theorem dX9_tryWays_118 : decode cX9_tryWays 118 = .ok (.ladd, 1) := by decide +kernel
theorem dX9_tryWays_119 : decode cX9_tryWays 119 = .ok (.lload 4, 2) := by decide +kernel
theorem dX9_tryWays_121 : decode cX9_tryWays 121 = .ok (.aload_n 0, 1) := by decide +kernel
theorem dX9_tryWays_122 : decode cX9_tryWays 122 = .ok (.getfield 28, 3) := by decide +kernel
theorem dX9_tryWays_125 : decode cX9_tryWays 125 = .ok (.iload_n 1, 1) := by decide +kernel
theorem dX9_tryWays_126 : decode cX9_tryWays 126 = .ok (.iconst 5, 1) := by decide +kernel
theorem dX9_tryWays_127 : decode cX9_tryWays 127 = .ok (.imul, 1) := by decide +kernel
theorem dX9_tryWays_128 : decode cX9_tryWays 128 = .ok (.iload 6, 2) := by decide +kernel
theorem dX9_tryWays_130 : decode cX9_tryWays 130 = .ok (.iadd, 1) := by decide +kernel
theorem dX9_tryWays_131 : decode cX9_tryWays 131 = .ok (.laload, 1) := by decide +kernel
theorem dX9_tryWays_132 : decode cX9_tryWays 132 = .ok (.ladd, 1) := by decide +kernel
theorem dX9_tryWays_133 : decode cX9_tryWays 133 = .ok (.invokevirtual 66, 3) := by decide +kernel
theorem dX9_tryWays_136 : decode cX9_tryWays 136 = .ok (.aload_n 0, 1) := by decide +kernel
theorem dX9_tryWays_137 : decode cX9_tryWays 137 = .ok (.getfield 21, 3) := by decide +kernel
theorem dX9_tryWays_140 : decode cX9_tryWays 140 = .ok (.iload 6, 2) := by decide +kernel
theorem dX9_tryWays_142 : decode cX9_tryWays 142 = .ok (.dup2, 1) := by decide +kernel
theorem dX9_tryWays_143 : decode cX9_tryWays 143 = .ok (.iaload, 1) := by decide +kernel
theorem dX9_tryWays_144 : decode cX9_tryWays 144 = .ok (.aload_n 0, 1) := by decide +kernel
theorem dX9_tryWays_145 : decode cX9_tryWays 145 = .ok (.getfield 15, 3) := by decide +kernel
theorem dX9_tryWays_148 : decode cX9_tryWays 148 = .ok (.iload_n 1, 1) := by decide +kernel
theorem dX9_tryWays_149 : decode cX9_tryWays 149 = .ok (.iaload, 1) := by decide +kernel
theorem dX9_tryWays_150 : decode cX9_tryWays 150 = .ok (.iadd, 1) := by decide +kernel
theorem dX9_tryWays_151 : decode cX9_tryWays 151 = .ok (.iastore, 1) := by decide +kernel
theorem dX9_tryWays_152 : decode cX9_tryWays 152 = .ok (.iinc 6 1, 3) := by decide +kernel
theorem dX9_tryWays_155 : decode cX9_tryWays 155 = .ok (.goto (-102), 3) := by decide +kernel
theorem dX9_tryWays_158 : decode cX9_tryWays 158 = .ok (.aload_n 0, 1) := by decide +kernel
theorem dX9_tryWays_159 : decode cX9_tryWays 159 = .ok (.getfield 34, 3) := by decide +kernel
theorem dX9_tryWays_162 : decode cX9_tryWays 162 = .ok (.iload_n 1, 1) := by decide +kernel
theorem dX9_tryWays_163 : decode cX9_tryWays 163 = .ok (.iconst 4, 1) := by decide +kernel
theorem dX9_tryWays_164 : decode cX9_tryWays 164 = .ok (.iastore, 1) := by decide +kernel
theorem dX9_tryWays_165 : decode cX9_tryWays 165 = .ok (.aload_n 0, 1) := by decide +kernel
theorem dX9_tryWays_166 : decode cX9_tryWays 166 = .ok (.iload_n 1, 1) := by decide +kernel
theorem dX9_tryWays_167 : decode cX9_tryWays 167 = .ok (.iconst 1, 1) := by decide +kernel
theorem dX9_tryWays_168 : decode cX9_tryWays 168 = .ok (.iadd, 1) := by decide +kernel
theorem dX9_tryWays_169 : decode cX9_tryWays 169 = .ok (.lload_n 2, 1) := by decide +kernel
theorem dX9_tryWays_170 : decode cX9_tryWays 170 = .ok (.aload_n 0, 1) := by decide +kernel
theorem dX9_tryWays_171 : decode cX9_tryWays 171 = .ok (.getfield 24, 3) := by decide +kernel
theorem dX9_tryWays_174 : decode cX9_tryWays 174 = .ok (.iload_n 1, 1) := by decide +kernel
theorem dX9_tryWays_175 : decode cX9_tryWays 175 = .ok (.iconst 5, 1) := by decide +kernel
theorem dX9_tryWays_176 : decode cX9_tryWays 176 = .ok (.imul, 1) := by decide +kernel
theorem dX9_tryWays_177 : decode cX9_tryWays 177 = .ok (.iconst 4, 1) := by decide +kernel
theorem dX9_tryWays_178 : decode cX9_tryWays 178 = .ok (.iadd, 1) := by decide +kernel
theorem dX9_tryWays_179 : decode cX9_tryWays 179 = .ok (.laload, 1) := by decide +kernel
theorem dX9_tryWays_180 : decode cX9_tryWays 180 = .ok (.ladd, 1) := by decide +kernel
theorem dX9_tryWays_181 : decode cX9_tryWays 181 = .ok (.lload 4, 2) := by decide +kernel
theorem dX9_tryWays_183 : decode cX9_tryWays 183 = .ok (.aload_n 0, 1) := by decide +kernel
theorem dX9_tryWays_184 : decode cX9_tryWays 184 = .ok (.getfield 28, 3) := by decide +kernel
theorem dX9_tryWays_187 : decode cX9_tryWays 187 = .ok (.iload_n 1, 1) := by decide +kernel
theorem dX9_tryWays_188 : decode cX9_tryWays 188 = .ok (.iconst 5, 1) := by decide +kernel
theorem dX9_tryWays_189 : decode cX9_tryWays 189 = .ok (.imul, 1) := by decide +kernel
theorem dX9_tryWays_190 : decode cX9_tryWays 190 = .ok (.iconst 4, 1) := by decide +kernel
theorem dX9_tryWays_191 : decode cX9_tryWays 191 = .ok (.iadd, 1) := by decide +kernel
theorem dX9_tryWays_192 : decode cX9_tryWays 192 = .ok (.laload, 1) := by decide +kernel
theorem dX9_tryWays_193 : decode cX9_tryWays 193 = .ok (.ladd, 1) := by decide +kernel
theorem dX9_tryWays_194 : decode cX9_tryWays 194 = .ok (.invokevirtual 66, 3) := by decide +kernel
theorem dX9_tryWays_197 : decode cX9_tryWays 197 = .ok (.return_, 1) := by decide +kernel
theorem dX9_keepIfBetter_0 : decode cX9_keepIfBetter 0 = .ok (.lload_n 1, 1) := by decide +kernel
theorem dX9_keepIfBetter_1 : decode cX9_keepIfBetter 1 = .ok (.aload_n 0, 1) := by decide +kernel
theorem dX9_keepIfBetter_2 : decode cX9_keepIfBetter 2 = .ok (.getfield 53, 3) := by decide +kernel
theorem dX9_keepIfBetter_5 : decode cX9_keepIfBetter 5 = .ok (.lcmp, 1) := by decide +kernel
theorem dX9_keepIfBetter_6 : decode cX9_keepIfBetter 6 = .ok (.ifCond .gt 21, 3) := by decide +kernel
theorem dX9_keepIfBetter_9 : decode cX9_keepIfBetter 9 = .ok (.lload_n 1, 1) := by decide +kernel
theorem dX9_keepIfBetter_10 : decode cX9_keepIfBetter 10 = .ok (.aload_n 0, 1) := by decide +kernel
theorem dX9_keepIfBetter_11 : decode cX9_keepIfBetter 11 = .ok (.getfield 53, 3) := by decide +kernel
theorem dX9_keepIfBetter_14 : decode cX9_keepIfBetter 14 = .ok (.lcmp, 1) := by decide +kernel
theorem dX9_keepIfBetter_15 : decode cX9_keepIfBetter 15 = .ok (.ifCond .ne 39, 3) := by decide +kernel
theorem dX9_keepIfBetter_18 : decode cX9_keepIfBetter 18 = .ok (.lload_n 3, 1) := by decide +kernel
theorem dX9_keepIfBetter_19 : decode cX9_keepIfBetter 19 = .ok (.aload_n 0, 1) := by decide +kernel
theorem dX9_keepIfBetter_20 : decode cX9_keepIfBetter 20 = .ok (.getfield 57, 3) := by decide +kernel
theorem dX9_keepIfBetter_23 : decode cX9_keepIfBetter 23 = .ok (.lcmp, 1) := by decide +kernel
theorem dX9_keepIfBetter_24 : decode cX9_keepIfBetter 24 = .ok (.ifCond .le 30, 3) := by decide +kernel
theorem dX9_keepIfBetter_27 : decode cX9_keepIfBetter 27 = .ok (.aload_n 0, 1) := by decide +kernel
theorem dX9_keepIfBetter_28 : decode cX9_keepIfBetter 28 = .ok (.lload_n 1, 1) := by decide +kernel
theorem dX9_keepIfBetter_29 : decode cX9_keepIfBetter 29 = .ok (.putfield 53, 3) := by decide +kernel
theorem dX9_keepIfBetter_32 : decode cX9_keepIfBetter 32 = .ok (.aload_n 0, 1) := by decide +kernel
theorem dX9_keepIfBetter_33 : decode cX9_keepIfBetter 33 = .ok (.lload_n 3, 1) := by decide +kernel
theorem dX9_keepIfBetter_34 : decode cX9_keepIfBetter 34 = .ok (.putfield 57, 3) := by decide +kernel
theorem dX9_keepIfBetter_37 : decode cX9_keepIfBetter 37 = .ok (.aload_n 0, 1) := by decide +kernel
theorem dX9_keepIfBetter_38 : decode cX9_keepIfBetter 38 = .ok (.getfield 34, 3) := by decide +kernel
theorem dX9_keepIfBetter_41 : decode cX9_keepIfBetter 41 = .ok (.iconst 0, 1) := by decide +kernel
theorem dX9_keepIfBetter_42 : decode cX9_keepIfBetter 42 = .ok (.aload_n 0, 1) := by decide +kernel
theorem dX9_keepIfBetter_43 : decode cX9_keepIfBetter 43 = .ok (.getfield 37, 3) := by decide +kernel
theorem dX9_keepIfBetter_46 : decode cX9_keepIfBetter 46 = .ok (.iconst 0, 1) := by decide +kernel
theorem dX9_keepIfBetter_47 : decode cX9_keepIfBetter 47 = .ok (.aload_n 0, 1) := by decide +kernel
theorem dX9_keepIfBetter_48 : decode cX9_keepIfBetter 48 = .ok (.getfield 40, 3) := by decide +kernel
theorem dX9_keepIfBetter_51 : decode cX9_keepIfBetter 51 = .ok (.invokestatic 74, 3) := by decide +kernel
theorem dX9_keepIfBetter_54 : decode cX9_keepIfBetter 54 = .ok (.return_, 1) := by decide +kernel
theorem dX10_init_0 : decode cX10_init 0 = .ok (.aload_n 0, 1) := by decide +kernel
theorem dX10_init_1 : decode cX10_init 1 = .ok (.invokespecial 3, 3) := by decide +kernel
theorem dX10_init_4 : decode cX10_init 4 = .ok (.aload_n 0, 1) := by decide +kernel
theorem dX10_init_5 : decode cX10_init 5 = .ok (.bipush 20, 2) := by decide +kernel
theorem dX10_init_7 : decode cX10_init 7 = .ok (.newarray .int, 2) := by decide +kernel
theorem dX10_init_9 : decode cX10_init 9 = .ok (.putfield 11, 3) := by decide +kernel
theorem dX10_init_12 : decode cX10_init 12 = .ok (.aload_n 0, 1) := by decide +kernel
theorem dX10_init_13 : decode cX10_init 13 = .ok (.bipush 20, 2) := by decide +kernel
theorem dX10_init_15 : decode cX10_init 15 = .ok (.newarray .int, 2) := by decide +kernel
theorem dX10_init_17 : decode cX10_init 17 = .ok (.putfield 15, 3) := by decide +kernel
theorem dX10_init_20 : decode cX10_init 20 = .ok (.aload_n 0, 1) := by decide +kernel
theorem dX10_init_21 : decode cX10_init 21 = .ok (.bipush 20, 2) := by decide +kernel
theorem dX10_init_23 : decode cX10_init 23 = .ok (.newarray .int, 2) := by decide +kernel
theorem dX10_init_25 : decode cX10_init 25 = .ok (.putfield 18, 3) := by decide +kernel
theorem dX10_init_28 : decode cX10_init 28 = .ok (.aload_n 0, 1) := by decide +kernel
theorem dX10_init_29 : decode cX10_init 29 = .ok (.bipush 20, 2) := by decide +kernel
theorem dX10_init_31 : decode cX10_init 31 = .ok (.newarray .int, 2) := by decide +kernel
theorem dX10_init_33 : decode cX10_init 33 = .ok (.putfield 21, 3) := by decide +kernel
theorem dX10_init_36 : decode cX10_init 36 = .ok (.aload_n 0, 1) := by decide +kernel
theorem dX10_init_37 : decode cX10_init 37 = .ok (.sipush 200, 3) := by decide +kernel
theorem dX10_init_40 : decode cX10_init 40 = .ok (.newarray .int, 2) := by decide +kernel
theorem dX10_init_42 : decode cX10_init 42 = .ok (.putfield 24, 3) := by decide +kernel
theorem dX10_init_45 : decode cX10_init 45 = .ok (.aload_n 0, 1) := by decide +kernel
theorem dX10_init_46 : decode cX10_init 46 = .ok (.sipush 200, 3) := by decide +kernel
theorem dX10_init_49 : decode cX10_init 49 = .ok (.newarray .int, 2) := by decide +kernel
theorem dX10_init_51 : decode cX10_init 51 = .ok (.putfield 27, 3) := by decide +kernel
theorem dX10_init_54 : decode cX10_init 54 = .ok (.aload_n 0, 1) := by decide +kernel
theorem dX10_init_55 : decode cX10_init 55 = .ok (.sipush 200, 3) := by decide +kernel
theorem dX10_init_58 : decode cX10_init 58 = .ok (.newarray .int, 2) := by decide +kernel
theorem dX10_init_60 : decode cX10_init 60 = .ok (.putfield 30, 3) := by decide +kernel
theorem dX10_init_63 : decode cX10_init 63 = .ok (.aload_n 0, 1) := by decide +kernel
theorem dX10_init_64 : decode cX10_init 64 = .ok (.sipush 200, 3) := by decide +kernel
theorem dX10_init_67 : decode cX10_init 67 = .ok (.newarray .int, 2) := by decide +kernel
theorem dX10_init_69 : decode cX10_init 69 = .ok (.putfield 33, 3) := by decide +kernel
theorem dX10_init_72 : decode cX10_init 72 = .ok (.aload_n 0, 1) := by decide +kernel
theorem dX10_init_73 : decode cX10_init 73 = .ok (.sipush 200, 3) := by decide +kernel
theorem dX10_init_76 : decode cX10_init 76 = .ok (.newarray .int, 2) := by decide +kernel
theorem dX10_init_78 : decode cX10_init 78 = .ok (.putfield 36, 3) := by decide +kernel
theorem dX10_init_81 : decode cX10_init 81 = .ok (.aload_n 0, 1) := by decide +kernel
theorem dX10_init_82 : decode cX10_init 82 = .ok (.bipush 20, 2) := by decide +kernel
theorem dX10_init_84 : decode cX10_init 84 = .ok (.newarray .int, 2) := by decide +kernel
theorem dX10_init_86 : decode cX10_init 86 = .ok (.putfield 39, 3) := by decide +kernel
theorem dX10_init_89 : decode cX10_init 89 = .ok (.aload_n 0, 1) := by decide +kernel
theorem dX10_init_90 : decode cX10_init 90 = .ok (.bipush 20, 2) := by decide +kernel
theorem dX10_init_92 : decode cX10_init 92 = .ok (.newarray .int, 2) := by decide +kernel
theorem dX10_init_94 : decode cX10_init 94 = .ok (.putfield 42, 3) := by decide +kernel
theorem dX10_init_97 : decode cX10_init 97 = .ok (.aload_n 0, 1) := by decide +kernel
theorem dX10_init_98 : decode cX10_init 98 = .ok (.bipush 20, 2) := by decide +kernel
theorem dX10_init_100 : decode cX10_init 100 = .ok (.newarray .int, 2) := by decide +kernel
theorem dX10_init_102 : decode cX10_init 102 = .ok (.putfield 45, 3) := by decide +kernel
theorem dX10_init_105 : decode cX10_init 105 = .ok (.aload_n 0, 1) := by decide +kernel
theorem dX10_init_106 : decode cX10_init 106 = .ok (.bipush 20, 2) := by decide +kernel
theorem dX10_init_108 : decode cX10_init 108 = .ok (.newarray .int, 2) := by decide +kernel
theorem dX10_init_110 : decode cX10_init 110 = .ok (.putfield 48, 3) := by decide +kernel
theorem dX10_init_113 : decode cX10_init 113 = .ok (.return_, 1) := by decide +kernel
theorem dX10_addShip_0 : decode cX10_addShip 0 = .ok (.aload_n 0, 1) := by decide +kernel
theorem dX10_addShip_1 : decode cX10_addShip 1 = .ok (.getfield 51, 3) := by decide +kernel
theorem dX10_addShip_4 : decode cX10_addShip 4 = .ok (.bipush 20, 2) := by decide +kernel
theorem dX10_addShip_6 : decode cX10_addShip 6 = .ok (.if_icmp .lt 5, 3) := by decide +kernel
theorem dX10_addShip_9 : decode cX10_addShip 9 = .ok (.iconst (-1), 1) := by decide +kernel
theorem dX10_addShip_10 : decode cX10_addShip 10 = .ok (.ireturn, 1) := by decide +kernel
theorem dX10_addShip_11 : decode cX10_addShip 11 = .ok (.aload_n 0, 1) := by decide +kernel
theorem dX10_addShip_12 : decode cX10_addShip 12 = .ok (.getfield 11, 3) := by decide +kernel
theorem dX10_addShip_15 : decode cX10_addShip 15 = .ok (.aload_n 0, 1) := by decide +kernel
theorem dX10_addShip_16 : decode cX10_addShip 16 = .ok (.getfield 51, 3) := by decide +kernel
theorem dX10_addShip_19 : decode cX10_addShip 19 = .ok (.iload_n 1, 1) := by decide +kernel
theorem dX10_addShip_20 : decode cX10_addShip 20 = .ok (.iastore, 1) := by decide +kernel
theorem dX10_addShip_21 : decode cX10_addShip 21 = .ok (.aload_n 0, 1) := by decide +kernel
theorem dX10_addShip_22 : decode cX10_addShip 22 = .ok (.getfield 15, 3) := by decide +kernel
theorem dX10_addShip_25 : decode cX10_addShip 25 = .ok (.aload_n 0, 1) := by decide +kernel
theorem dX10_addShip_26 : decode cX10_addShip 26 = .ok (.getfield 51, 3) := by decide +kernel
theorem dX10_addShip_29 : decode cX10_addShip 29 = .ok (.iload_n 2, 1) := by decide +kernel
theorem dX10_addShip_30 : decode cX10_addShip 30 = .ok (.iastore, 1) := by decide +kernel
theorem dX10_addShip_31 : decode cX10_addShip 31 = .ok (.aload_n 0, 1) := by decide +kernel
theorem dX10_addShip_32 : decode cX10_addShip 32 = .ok (.getfield 18, 3) := by decide +kernel
theorem dX10_addShip_35 : decode cX10_addShip 35 = .ok (.aload_n 0, 1) := by decide +kernel
theorem dX10_addShip_36 : decode cX10_addShip 36 = .ok (.getfield 51, 3) := by decide +kernel
theorem dX10_addShip_39 : decode cX10_addShip 39 = .ok (.iload_n 3, 1) := by decide +kernel
theorem dX10_addShip_40 : decode cX10_addShip 40 = .ok (.iastore, 1) := by decide +kernel
theorem dX10_addShip_41 : decode cX10_addShip 41 = .ok (.aload_n 0, 1) := by decide +kernel
theorem dX10_addShip_42 : decode cX10_addShip 42 = .ok (.getfield 21, 3) := by decide +kernel
theorem dX10_addShip_45 : decode cX10_addShip 45 = .ok (.aload_n 0, 1) := by decide +kernel
theorem dX10_addShip_46 : decode cX10_addShip 46 = .ok (.getfield 51, 3) := by decide +kernel
theorem dX10_addShip_49 : decode cX10_addShip 49 = .ok (.iload 4, 2) := by decide +kernel
theorem dX10_addShip_51 : decode cX10_addShip 51 = .ok (.iastore, 1) := by decide +kernel
theorem dX10_addShip_52 : decode cX10_addShip 52 = .ok (.aload_n 0, 1) := by decide +kernel
theorem dX10_addShip_53 : decode cX10_addShip 53 = .ok (.dup, 1) := by decide +kernel
theorem dX10_addShip_54 : decode cX10_addShip 54 = .ok (.getfield 51, 3) := by decide +kernel
theorem dX10_addShip_57 : decode cX10_addShip 57 = .ok (.iconst 1, 1) := by decide +kernel
theorem dX10_addShip_58 : decode cX10_addShip 58 = .ok (.iadd, 1) := by decide +kernel
theorem dX10_addShip_59 : decode cX10_addShip 59 = .ok (.putfield 51, 3) := by decide +kernel
theorem dX10_addShip_62 : decode cX10_addShip 62 = .ok (.aload_n 0, 1) := by decide +kernel
theorem dX10_addShip_63 : decode cX10_addShip 63 = .ok (.getfield 51, 3) := by decide +kernel
theorem dX10_addShip_66 : decode cX10_addShip 66 = .ok (.iconst 1, 1) := by decide +kernel
theorem dX10_addShip_67 : decode cX10_addShip 67 = .ok (.isub, 1) := by decide +kernel
theorem dX10_addShip_68 : decode cX10_addShip 68 = .ok (.ireturn, 1) := by decide +kernel
theorem dX10_comingOf_0 : decode cX10_comingOf 0 = .ok (.iload_n 1, 1) := by decide +kernel
theorem dX10_comingOf_1 : decode cX10_comingOf 1 = .ok (.ifCond .lt 11, 3) := by decide +kernel
theorem dX10_comingOf_4 : decode cX10_comingOf 4 = .ok (.iload_n 1, 1) := by decide +kernel
theorem dX10_comingOf_5 : decode cX10_comingOf 5 = .ok (.aload_n 0, 1) := by decide +kernel
theorem dX10_comingOf_6 : decode cX10_comingOf 6 = .ok (.getfield 51, 3) := by decide +kernel
theorem dX10_comingOf_9 : decode cX10_comingOf 9 = .ok (.if_icmp .lt 7, 3) := by decide +kernel
theorem dX10_comingOf_12 : decode cX10_comingOf 12 = .ok (.iconst (-1), 1) := by decide +kernel
theorem dX10_comingOf_13 : decode cX10_comingOf 13 = .ok (.goto 16, 3) := by decide +kernel
theorem dX10_comingOf_16 : decode cX10_comingOf 16 = .ok (.aload_n 0, 1) := by decide +kernel
theorem dX10_comingOf_17 : decode cX10_comingOf 17 = .ok (.getfield 15, 3) := by decide +kernel
theorem dX10_comingOf_20 : decode cX10_comingOf 20 = .ok (.iload_n 1, 1) := by decide +kernel
theorem dX10_comingOf_21 : decode cX10_comingOf 21 = .ok (.iaload, 1) := by decide +kernel
theorem dX10_comingOf_22 : decode cX10_comingOf 22 = .ok (.aload_n 0, 1) := by decide +kernel
theorem dX10_comingOf_23 : decode cX10_comingOf 23 = .ok (.getfield 18, 3) := by decide +kernel
theorem dX10_comingOf_26 : decode cX10_comingOf 26 = .ok (.iload_n 1, 1) := by decide +kernel
theorem dX10_comingOf_27 : decode cX10_comingOf 27 = .ok (.iaload, 1) := by decide +kernel
theorem dX10_comingOf_28 : decode cX10_comingOf 28 = .ok (.iadd, 1) := by decide +kernel
theorem dX10_comingOf_29 : decode cX10_comingOf 29 = .ok (.ireturn, 1) := by decide +kernel
theorem dX10_nextOpenShip_0 : decode cX10_nextOpenShip 0 = .ok (.iload_n 1, 1) := by decide +kernel
theorem dX10_nextOpenShip_1 : decode cX10_nextOpenShip 1 = .ok (.ifCond .lt 11, 3) := by decide +kernel
theorem dX10_nextOpenShip_4 : decode cX10_nextOpenShip 4 = .ok (.iload_n 1, 1) := by decide +kernel
theorem dX10_nextOpenShip_5 : decode cX10_nextOpenShip 5 = .ok (.aload_n 0, 1) := by decide +kernel
theorem dX10_nextOpenShip_6 : decode cX10_nextOpenShip 6 = .ok (.getfield 51, 3) := by decide +kernel
theorem dX10_nextOpenShip_9 : decode cX10_nextOpenShip 9 = .ok (.if_icmp .lt 7, 3) := by decide +kernel
theorem dX10_nextOpenShip_12 : decode cX10_nextOpenShip 12 = .ok (.iconst (-1), 1) := by decide +kernel
theorem dX10_nextOpenShip_13 : decode cX10_nextOpenShip 13 = .ok (.goto 9, 3) := by decide +kernel
theorem dX10_nextOpenShip_16 : decode cX10_nextOpenShip 16 = .ok (.aload_n 0, 1) := by decide +kernel
theorem dX10_nextOpenShip_17 : decode cX10_nextOpenShip 17 = .ok (.getfield 15, 3) := by decide +kernel
theorem dX10_nextOpenShip_20 : decode cX10_nextOpenShip 20 = .ok (.iload_n 1, 1) := by decide +kernel
theorem dX10_nextOpenShip_21 : decode cX10_nextOpenShip 21 = .ok (.iaload, 1) := by decide +kernel
theorem dX10_nextOpenShip_22 : decode cX10_nextOpenShip 22 = .ok (.istore_n 3, 1) := by decide +kernel
theorem dX10_nextOpenShip_23 : decode cX10_nextOpenShip 23 = .ok (.iconst (-1), 1) := by decide +kernel
theorem dX10_nextOpenShip_24 : decode cX10_nextOpenShip 24 = .ok (.istore 4, 2) := by decide +kernel
theorem dX10_nextOpenShip_26 : decode cX10_nextOpenShip 26 = .ok (.iconst 0, 1) := by decide +kernel
theorem dX10_nextOpenShip_27 : decode cX10_nextOpenShip 27 = .ok (.istore 5, 2) := by decide +kernel
theorem dX10_nextOpenShip_29 : decode cX10_nextOpenShip 29 = .ok (.iload 5, 2) := by decide +kernel
theorem dX10_nextOpenShip_31 : decode cX10_nextOpenShip 31 = .ok (.aload_n 0, 1) := by decide +kernel
theorem dX10_nextOpenShip_32 : decode cX10_nextOpenShip 32 = .ok (.getfield 51, 3) := by decide +kernel
theorem dX10_nextOpenShip_35 : decode cX10_nextOpenShip 35 = .ok (.if_icmp .ge 120, 3) := by decide +kernel
theorem dX10_nextOpenShip_38 : decode cX10_nextOpenShip 38 = .ok (.aload_n 0, 1) := by decide +kernel
theorem dX10_nextOpenShip_39 : decode cX10_nextOpenShip 39 = .ok (.getfield 15, 3) := by decide +kernel
theorem dX10_nextOpenShip_42 : decode cX10_nextOpenShip 42 = .ok (.iload 5, 2) := by decide +kernel
theorem dX10_nextOpenShip_44 : decode cX10_nextOpenShip 44 = .ok (.iaload, 1) := by decide +kernel
theorem dX10_nextOpenShip_45 : decode cX10_nextOpenShip 45 = .ok (.iload_n 3, 1) := by decide +kernel
theorem dX10_nextOpenShip_46 : decode cX10_nextOpenShip 46 = .ok (.if_icmp .gt 20, 3) := by decide +kernel
theorem dX10_nextOpenShip_49 : decode cX10_nextOpenShip 49 = .ok (.aload_n 0, 1) := by decide +kernel
theorem dX10_nextOpenShip_50 : decode cX10_nextOpenShip 50 = .ok (.getfield 15, 3) := by decide +kernel
theorem dX10_nextOpenShip_53 : decode cX10_nextOpenShip 53 = .ok (.iload 5, 2) := by decide +kernel
theorem dX10_nextOpenShip_55 : decode cX10_nextOpenShip 55 = .ok (.iaload, 1) := by decide +kernel
theorem dX10_nextOpenShip_56 : decode cX10_nextOpenShip 56 = .ok (.iload_n 3, 1) := by decide +kernel
theorem dX10_nextOpenShip_57 : decode cX10_nextOpenShip 57 = .ok (.if_icmp .ne 13, 3) := by decide +kernel
theorem dX10_nextOpenShip_60 : decode cX10_nextOpenShip 60 = .ok (.iload 5, 2) := by decide +kernel
theorem dX10_nextOpenShip_62 : decode cX10_nextOpenShip 62 = .ok (.iload_n 1, 1) := by decide +kernel
theorem dX10_nextOpenShip_63 : decode cX10_nextOpenShip 63 = .ok (.if_icmp .le 7, 3) := by decide +kernel
theorem dX10_nextOpenShip_66 : decode cX10_nextOpenShip 66 = .ok (.iconst 1, 1) := by decide +kernel
theorem dX10_nextOpenShip_67 : decode cX10_nextOpenShip 67 = .ok (.goto 4, 3) := by decide +kernel
theorem dX10_nextOpenShip_70 : decode cX10_nextOpenShip 70 = .ok (.iconst 0, 1) := by decide +kernel
theorem dX10_nextOpenShip_71 : decode cX10_nextOpenShip 71 = .ok (.istore 6, 2) := by decide +kernel
theorem dX10_nextOpenShip_73 : decode cX10_nextOpenShip 73 = .ok (.aload_n 0, 1) := by decide +kernel
theorem dX10_nextOpenShip_74 : decode cX10_nextOpenShip 74 = .ok (.getfield 15, 3) := by decide +kernel
theorem dX10_nextOpenShip_77 : decode cX10_nextOpenShip 77 = .ok (.iload 5, 2) := by decide +kernel
theorem dX10_nextOpenShip_79 : decode cX10_nextOpenShip 79 = .ok (.iaload, 1) := by decide +kernel
theorem dX10_nextOpenShip_80 : decode cX10_nextOpenShip 80 = .ok (.iload_n 2, 1) := by decide +kernel
theorem dX10_nextOpenShip_81 : decode cX10_nextOpenShip 81 = .ok (.if_icmp .lt 28, 3) := by decide +kernel
theorem dX10_nextOpenShip_84 : decode cX10_nextOpenShip 84 = .ok (.aload_n 0, 1) := by decide +kernel
theorem dX10_nextOpenShip_85 : decode cX10_nextOpenShip 85 = .ok (.aload_n 0, 1) := by decide +kernel
theorem dX10_nextOpenShip_86 : decode cX10_nextOpenShip 86 = .ok (.getfield 11, 3) := by decide +kernel
theorem dX10_nextOpenShip_89 : decode cX10_nextOpenShip 89 = .ok (.iload 5, 2) := by decide +kernel
theorem dX10_nextOpenShip_91 : decode cX10_nextOpenShip 91 = .ok (.iaload, 1) := by decide +kernel
theorem dX10_nextOpenShip_92 : decode cX10_nextOpenShip 92 = .ok (.aload_n 0, 1) := by decide +kernel
theorem dX10_nextOpenShip_93 : decode cX10_nextOpenShip 93 = .ok (.iload 5, 2) := by decide +kernel
theorem dX10_nextOpenShip_95 : decode cX10_nextOpenShip 95 = .ok (.invokevirtual 55, 3) := by decide +kernel
theorem dX10_nextOpenShip_98 : decode cX10_nextOpenShip 98 = .ok (.iload_n 2, 1) := by decide +kernel
theorem dX10_nextOpenShip_99 : decode cX10_nextOpenShip 99 = .ok (.invokevirtual 59, 3) := by decide +kernel
theorem dX10_nextOpenShip_102 : decode cX10_nextOpenShip 102 = .ok (.ifCond .ne 7, 3) := by decide +kernel
theorem dX10_nextOpenShip_105 : decode cX10_nextOpenShip 105 = .ok (.iconst 1, 1) := by decide +kernel
theorem dX10_nextOpenShip_106 : decode cX10_nextOpenShip 106 = .ok (.goto 4, 3) := by decide +kernel
theorem dX10_nextOpenShip_109 : decode cX10_nextOpenShip 109 = .ok (.iconst 0, 1) := by decide +kernel
theorem dX10_nextOpenShip_110 : decode cX10_nextOpenShip 110 = .ok (.istore 7, 2) := by decide +kernel
theorem dX10_nextOpenShip_112 : decode cX10_nextOpenShip 112 = .ok (.iload 6, 2) := by decide +kernel
theorem dX10_nextOpenShip_114 : decode cX10_nextOpenShip 114 = .ok (.ifCond .eq 35, 3) := by decide +kernel
theorem dX10_nextOpenShip_117 : decode cX10_nextOpenShip 117 = .ok (.iload 7, 2) := by decide +kernel
theorem dX10_nextOpenShip_119 : decode cX10_nextOpenShip 119 = .ok (.ifCond .eq 30, 3) := by decide +kernel
theorem dX10_nextOpenShip_122 : decode cX10_nextOpenShip 122 = .ok (.iload 4, 2) := by decide +kernel
theorem dX10_nextOpenShip_124 : decode cX10_nextOpenShip 124 = .ok (.iconst (-1), 1) := by decide +kernel
theorem dX10_nextOpenShip_125 : decode cX10_nextOpenShip 125 = .ok (.if_icmp .eq 20, 3) := by decide +kernel
theorem dX10_nextOpenShip_128 : decode cX10_nextOpenShip 128 = .ok (.aload_n 0, 1) := by decide +kernel
theorem dX10_nextOpenShip_129 : decode cX10_nextOpenShip 129 = .ok (.getfield 15, 3) := by decide +kernel
theorem dX10_nextOpenShip_132 : decode cX10_nextOpenShip 132 = .ok (.iload 5, 2) := by decide +kernel
theorem dX10_nextOpenShip_134 : decode cX10_nextOpenShip 134 = .ok (.iaload, 1) := by decide +kernel
theorem dX10_nextOpenShip_135 : decode cX10_nextOpenShip 135 = .ok (.aload_n 0, 1) := by decide +kernel
theorem dX10_nextOpenShip_136 : decode cX10_nextOpenShip 136 = .ok (.getfield 15, 3) := by decide +kernel
theorem dX10_nextOpenShip_139 : decode cX10_nextOpenShip 139 = .ok (.iload 4, 2) := by decide +kernel
theorem dX10_nextOpenShip_141 : decode cX10_nextOpenShip 141 = .ok (.iaload, 1) := by decide +kernel
theorem dX10_nextOpenShip_142 : decode cX10_nextOpenShip 142 = .ok (.if_icmp .ge 7, 3) := by decide +kernel
theorem dX10_nextOpenShip_145 : decode cX10_nextOpenShip 145 = .ok (.iload 5, 2) := by decide +kernel
theorem dX10_nextOpenShip_147 : decode cX10_nextOpenShip 147 = .ok (.istore 4, 2) := by decide +kernel
theorem dX10_nextOpenShip_149 : decode cX10_nextOpenShip 149 = .ok (.iinc 5 1, 3) := by decide +kernel
theorem dX10_nextOpenShip_152 : decode cX10_nextOpenShip 152 = .ok (.goto (-123), 3) := by decide +kernel
theorem dX10_nextOpenShip_155 : decode cX10_nextOpenShip 155 = .ok (.iload 4, 2) := by decide +kernel
theorem dX10_nextOpenShip_157 : decode cX10_nextOpenShip 157 = .ok (.ireturn, 1) := by decide +kernel
theorem dX10_addNews_0 : decode cX10_addNews 0 = .ok (.aload_n 0, 1) := by decide +kernel
theorem dX10_addNews_1 : decode cX10_addNews 1 = .ok (.getfield 63, 3) := by decide +kernel
theorem dX10_addNews_4 : decode cX10_addNews 4 = .ok (.sipush 200, 3) := by decide +kernel
theorem dX10_addNews_7 : decode cX10_addNews 7 = .ok (.if_icmp .lt 5, 3) := by decide +kernel
theorem dX10_addNews_10 : decode cX10_addNews 10 = .ok (.iconst (-1), 1) := by decide +kernel
theorem dX10_addNews_11 : decode cX10_addNews 11 = .ok (.ireturn, 1) := by decide +kernel
theorem dX10_addNews_12 : decode cX10_addNews 12 = .ok (.aload_n 0, 1) := by decide +kernel
theorem dX10_addNews_13 : decode cX10_addNews 13 = .ok (.getfield 24, 3) := by decide +kernel
theorem dX10_addNews_16 : decode cX10_addNews 16 = .ok (.aload_n 0, 1) := by decide +kernel
theorem dX10_addNews_17 : decode cX10_addNews 17 = .ok (.getfield 63, 3) := by decide +kernel
theorem dX10_addNews_20 : decode cX10_addNews 20 = .ok (.iload_n 1, 1) := by decide +kernel
theorem dX10_addNews_21 : decode cX10_addNews 21 = .ok (.iastore, 1) := by decide +kernel
theorem dX10_addNews_22 : decode cX10_addNews 22 = .ok (.aload_n 0, 1) := by decide +kernel
theorem dX10_addNews_23 : decode cX10_addNews 23 = .ok (.getfield 27, 3) := by decide +kernel
theorem dX10_addNews_26 : decode cX10_addNews 26 = .ok (.aload_n 0, 1) := by decide +kernel
theorem dX10_addNews_27 : decode cX10_addNews 27 = .ok (.getfield 63, 3) := by decide +kernel
theorem dX10_addNews_30 : decode cX10_addNews 30 = .ok (.iload_n 2, 1) := by decide +kernel
theorem dX10_addNews_31 : decode cX10_addNews 31 = .ok (.iastore, 1) := by decide +kernel
theorem dX10_addNews_32 : decode cX10_addNews 32 = .ok (.aload_n 0, 1) := by decide +kernel
theorem dX10_addNews_33 : decode cX10_addNews 33 = .ok (.getfield 30, 3) := by decide +kernel
theorem dX10_addNews_36 : decode cX10_addNews 36 = .ok (.aload_n 0, 1) := by decide +kernel
theorem dX10_addNews_37 : decode cX10_addNews 37 = .ok (.getfield 63, 3) := by decide +kernel
theorem dX10_addNews_40 : decode cX10_addNews 40 = .ok (.iload_n 3, 1) := by decide +kernel
theorem dX10_addNews_41 : decode cX10_addNews 41 = .ok (.iastore, 1) := by decide +kernel
theorem dX10_addNews_42 : decode cX10_addNews 42 = .ok (.aload_n 0, 1) := by decide +kernel
theorem dX10_addNews_43 : decode cX10_addNews 43 = .ok (.getfield 33, 3) := by decide +kernel
theorem dX10_addNews_46 : decode cX10_addNews 46 = .ok (.aload_n 0, 1) := by decide +kernel
theorem dX10_addNews_47 : decode cX10_addNews 47 = .ok (.getfield 63, 3) := by decide +kernel
theorem dX10_addNews_50 : decode cX10_addNews 50 = .ok (.iload 4, 2) := by decide +kernel
theorem dX10_addNews_52 : decode cX10_addNews 52 = .ok (.iastore, 1) := by decide +kernel
theorem dX10_addNews_53 : decode cX10_addNews 53 = .ok (.aload_n 0, 1) := by decide +kernel
theorem dX10_addNews_54 : decode cX10_addNews 54 = .ok (.getfield 36, 3) := by decide +kernel
theorem dX10_addNews_57 : decode cX10_addNews 57 = .ok (.aload_n 0, 1) := by decide +kernel
theorem dX10_addNews_58 : decode cX10_addNews 58 = .ok (.getfield 63, 3) := by decide +kernel
theorem dX10_addNews_61 : decode cX10_addNews 61 = .ok (.iload 5, 2) := by decide +kernel
theorem dX10_addNews_63 : decode cX10_addNews 63 = .ok (.iastore, 1) := by decide +kernel
theorem dX10_addNews_64 : decode cX10_addNews 64 = .ok (.aload_n 0, 1) := by decide +kernel
theorem dX10_addNews_65 : decode cX10_addNews 65 = .ok (.dup, 1) := by decide +kernel
theorem dX10_addNews_66 : decode cX10_addNews 66 = .ok (.getfield 63, 3) := by decide +kernel
theorem dX10_addNews_69 : decode cX10_addNews 69 = .ok (.iconst 1, 1) := by decide +kernel
theorem dX10_addNews_70 : decode cX10_addNews 70 = .ok (.iadd, 1) := by decide +kernel
theorem dX10_addNews_71 : decode cX10_addNews 71 = .ok (.putfield 63, 3) := by decide +kernel
theorem dX10_addNews_74 : decode cX10_addNews 74 = .ok (.aload_n 0, 1) := by decide +kernel
theorem dX10_addNews_75 : decode cX10_addNews 75 = .ok (.getfield 63, 3) := by decide +kernel
theorem dX10_addNews_78 : decode cX10_addNews 78 = .ok (.ireturn, 1) := by decide +kernel
theorem dX10_latestNews_0 : decode cX10_latestNews 0 = .ok (.aload_n 0, 1) := by decide +kernel
theorem dX10_latestNews_1 : decode cX10_latestNews 1 = .ok (.getfield 63, 3) := by decide +kernel
theorem dX10_latestNews_4 : decode cX10_latestNews 4 = .ok (.iconst 1, 1) := by decide +kernel
theorem dX10_latestNews_5 : decode cX10_latestNews 5 = .ok (.isub, 1) := by decide +kernel
theorem dX10_latestNews_6 : decode cX10_latestNews 6 = .ok (.istore 4, 2) := by decide +kernel
theorem dX10_latestNews_8 : decode cX10_latestNews 8 = .ok (.iload 4, 2) := by decide +kernel
theorem dX10_latestNews_10 : decode cX10_latestNews 10 = .ok (.ifCond .lt 45, 3) := by decide +kernel
theorem dX10_latestNews_13 : decode cX10_latestNews 13 = .ok (.aload_n 0, 1) := by decide +kernel
theorem dX10_latestNews_14 : decode cX10_latestNews 14 = .ok (.getfield 24, 3) := by decide +kernel
theorem dX10_latestNews_17 : decode cX10_latestNews 17 = .ok (.iload 4, 2) := by decide +kernel
theorem dX10_latestNews_19 : decode cX10_latestNews 19 = .ok (.iaload, 1) := by decide +kernel
theorem dX10_latestNews_20 : decode cX10_latestNews 20 = .ok (.iload_n 1, 1) := by decide +kernel
theorem dX10_latestNews_21 : decode cX10_latestNews 21 = .ok (.if_icmp .ne 28, 3) := by decide +kernel
theorem dX10_latestNews_24 : decode cX10_latestNews 24 = .ok (.aload_n 0, 1) := by decide +kernel
theorem dX10_latestNews_25 : decode cX10_latestNews 25 = .ok (.getfield 27, 3) := by decide +kernel
theorem dX10_latestNews_28 : decode cX10_latestNews 28 = .ok (.iload 4, 2) := by decide +kernel
theorem dX10_latestNews_30 : decode cX10_latestNews 30 = .ok (.iaload, 1) := by decide +kernel
theorem dX10_latestNews_31 : decode cX10_latestNews 31 = .ok (.iload_n 2, 1) := by decide +kernel
theorem dX10_latestNews_32 : decode cX10_latestNews 32 = .ok (.if_icmp .ne 17, 3) := by decide +kernel
theorem dX10_latestNews_35 : decode cX10_latestNews 35 = .ok (.aload_n 0, 1) := by decide +kernel
theorem dX10_latestNews_36 : decode cX10_latestNews 36 = .ok (.getfield 36, 3) := by decide +kernel
theorem dX10_latestNews_39 : decode cX10_latestNews 39 = .ok (.iload 4, 2) := by decide +kernel
theorem dX10_latestNews_41 : decode cX10_latestNews 41 = .ok (.iaload, 1) := by decide +kernel
theorem dX10_latestNews_42 : decode cX10_latestNews 42 = .ok (.iload_n 3, 1) := by decide +kernel
theorem dX10_latestNews_43 : decode cX10_latestNews 43 = .ok (.if_icmp .gt 6, 3) := by decide +kernel
theorem dX10_latestNews_46 : decode cX10_latestNews 46 = .ok (.iload 4, 2) := by decide +kernel
theorem dX10_latestNews_48 : decode cX10_latestNews 48 = .ok (.ireturn, 1) := by decide +kernel
theorem dX10_latestNews_49 : decode cX10_latestNews 49 = .ok (.iinc 4 (-1), 3) := by decide +kernel
theorem dX10_latestNews_52 : decode cX10_latestNews 52 = .ok (.goto (-44), 3) := by decide +kernel
theorem dX10_latestNews_55 : decode cX10_latestNews 55 = .ok (.iconst (-1), 1) := by decide +kernel
theorem dX10_latestNews_56 : decode cX10_latestNews 56 = .ok (.ireturn, 1) := by decide +kernel
theorem dX10_lowPrice_0 : decode cX10_lowPrice 0 = .ok (.aload_n 0, 1) := by decide +kernel
theorem dX10_lowPrice_1 : decode cX10_lowPrice 1 = .ok (.iload_n 1, 1) := by decide +kernel
theorem dX10_lowPrice_2 : decode cX10_lowPrice 2 = .ok (.iload_n 2, 1) := by decide +kernel
theorem dX10_lowPrice_3 : decode cX10_lowPrice 3 = .ok (.iload_n 3, 1) := by decide +kernel
theorem dX10_lowPrice_4 : decode cX10_lowPrice 4 = .ok (.invokevirtual 66, 3) := by decide +kernel
theorem dX10_lowPrice_7 : decode cX10_lowPrice 7 = .ok (.istore 4, 2) := by decide +kernel
theorem dX10_lowPrice_9 : decode cX10_lowPrice 9 = .ok (.iload 4, 2) := by decide +kernel
theorem dX10_lowPrice_11 : decode cX10_lowPrice 11 = .ok (.iconst (-1), 1) := by decide +kernel
theorem dX10_lowPrice_12 : decode cX10_lowPrice 12 = .ok (.if_icmp .ne 7, 3) := by decide +kernel
theorem dX10_lowPrice_15 : decode cX10_lowPrice 15 = .ok (.iconst 0, 1) := by decide +kernel
theorem dX10_lowPrice_16 : decode cX10_lowPrice 16 = .ok (.goto 10, 3) := by decide +kernel
theorem dX10_lowPrice_19 : decode cX10_lowPrice 19 = .ok (.aload_n 0, 1) := by decide +kernel
theorem dX10_lowPrice_20 : decode cX10_lowPrice 20 = .ok (.getfield 30, 3) := by decide +kernel
theorem dX10_lowPrice_23 : decode cX10_lowPrice 23 = .ok (.iload 4, 2) := by decide +kernel
theorem dX10_lowPrice_25 : decode cX10_lowPrice 25 = .ok (.iaload, 1) := by decide +kernel
theorem dX10_lowPrice_26 : decode cX10_lowPrice 26 = .ok (.ireturn, 1) := by decide +kernel
theorem dX10_highPrice_0 : decode cX10_highPrice 0 = .ok (.aload_n 0, 1) := by decide +kernel
theorem dX10_highPrice_1 : decode cX10_highPrice 1 = .ok (.iload_n 1, 1) := by decide +kernel
theorem dX10_highPrice_2 : decode cX10_highPrice 2 = .ok (.iload_n 2, 1) := by decide +kernel
theorem dX10_highPrice_3 : decode cX10_highPrice 3 = .ok (.iload_n 3, 1) := by decide +kernel
theorem dX10_highPrice_4 : decode cX10_highPrice 4 = .ok (.invokevirtual 66, 3) := by decide +kernel
theorem dX10_highPrice_7 : decode cX10_highPrice 7 = .ok (.istore 4, 2) := by decide +kernel
theorem dX10_highPrice_9 : decode cX10_highPrice 9 = .ok (.iload 4, 2) := by decide +kernel
theorem dX10_highPrice_11 : decode cX10_highPrice 11 = .ok (.iconst (-1), 1) := by decide +kernel
theorem dX10_highPrice_12 : decode cX10_highPrice 12 = .ok (.if_icmp .ne 7, 3) := by decide +kernel
theorem dX10_highPrice_15 : decode cX10_highPrice 15 = .ok (.iconst 0, 1) := by decide +kernel
theorem dX10_highPrice_16 : decode cX10_highPrice 16 = .ok (.goto 10, 3) := by decide +kernel
theorem dX10_highPrice_19 : decode cX10_highPrice 19 = .ok (.aload_n 0, 1) := by decide +kernel
theorem dX10_highPrice_20 : decode cX10_highPrice 20 = .ok (.getfield 33, 3) := by decide +kernel
theorem dX10_highPrice_23 : decode cX10_highPrice 23 = .ok (.iload 4, 2) := by decide +kernel
theorem dX10_highPrice_25 : decode cX10_highPrice 25 = .ok (.iaload, 1) := by decide +kernel
theorem dX10_highPrice_26 : decode cX10_highPrice 26 = .ok (.ireturn, 1) := by decide +kernel
theorem dX10_addClosing_0 : decode cX10_addClosing 0 = .ok (.aload_n 0, 1) := by decide +kernel
theorem dX10_addClosing_1 : decode cX10_addClosing 1 = .ok (.getfield 70, 3) := by decide +kernel
theorem dX10_addClosing_4 : decode cX10_addClosing 4 = .ok (.bipush 20, 2) := by decide +kernel
theorem dX10_addClosing_6 : decode cX10_addClosing 6 = .ok (.if_icmp .lt 5, 3) := by decide +kernel
theorem dX10_addClosing_9 : decode cX10_addClosing 9 = .ok (.iconst (-1), 1) := by decide +kernel
theorem dX10_addClosing_10 : decode cX10_addClosing 10 = .ok (.ireturn, 1) := by decide +kernel
theorem dX10_addClosing_11 : decode cX10_addClosing 11 = .ok (.aload_n 0, 1) := by decide +kernel
theorem dX10_addClosing_12 : decode cX10_addClosing 12 = .ok (.getfield 39, 3) := by decide +kernel
theorem dX10_addClosing_15 : decode cX10_addClosing 15 = .ok (.aload_n 0, 1) := by decide +kernel
theorem dX10_addClosing_16 : decode cX10_addClosing 16 = .ok (.getfield 70, 3) := by decide +kernel
theorem dX10_addClosing_19 : decode cX10_addClosing 19 = .ok (.iload_n 1, 1) := by decide +kernel
theorem dX10_addClosing_20 : decode cX10_addClosing 20 = .ok (.iastore, 1) := by decide +kernel
theorem dX10_addClosing_21 : decode cX10_addClosing 21 = .ok (.aload_n 0, 1) := by decide +kernel
theorem dX10_addClosing_22 : decode cX10_addClosing 22 = .ok (.getfield 42, 3) := by decide +kernel
theorem dX10_addClosing_25 : decode cX10_addClosing 25 = .ok (.aload_n 0, 1) := by decide +kernel
theorem dX10_addClosing_26 : decode cX10_addClosing 26 = .ok (.getfield 70, 3) := by decide +kernel
theorem dX10_addClosing_29 : decode cX10_addClosing 29 = .ok (.iload_n 2, 1) := by decide +kernel
theorem dX10_addClosing_30 : decode cX10_addClosing 30 = .ok (.iastore, 1) := by decide +kernel
theorem dX10_addClosing_31 : decode cX10_addClosing 31 = .ok (.aload_n 0, 1) := by decide +kernel
theorem dX10_addClosing_32 : decode cX10_addClosing 32 = .ok (.getfield 45, 3) := by decide +kernel
theorem dX10_addClosing_35 : decode cX10_addClosing 35 = .ok (.aload_n 0, 1) := by decide +kernel
theorem dX10_addClosing_36 : decode cX10_addClosing 36 = .ok (.getfield 70, 3) := by decide +kernel
theorem dX10_addClosing_39 : decode cX10_addClosing 39 = .ok (.iload_n 3, 1) := by decide +kernel
theorem dX10_addClosing_40 : decode cX10_addClosing 40 = .ok (.iastore, 1) := by decide +kernel
theorem dX10_addClosing_41 : decode cX10_addClosing 41 = .ok (.aload_n 0, 1) := by decide +kernel
theorem dX10_addClosing_42 : decode cX10_addClosing 42 = .ok (.getfield 48, 3) := by decide +kernel
theorem dX10_addClosing_45 : decode cX10_addClosing 45 = .ok (.aload_n 0, 1) := by decide +kernel
theorem dX10_addClosing_46 : decode cX10_addClosing 46 = .ok (.getfield 70, 3) := by decide +kernel
theorem dX10_addClosing_49 : decode cX10_addClosing 49 = .ok (.iconst (-1), 1) := by decide +kernel
theorem dX10_addClosing_50 : decode cX10_addClosing 50 = .ok (.iastore, 1) := by decide +kernel
theorem dX10_addClosing_51 : decode cX10_addClosing 51 = .ok (.aload_n 0, 1) := by decide +kernel
theorem dX10_addClosing_52 : decode cX10_addClosing 52 = .ok (.dup, 1) := by decide +kernel
theorem dX10_addClosing_53 : decode cX10_addClosing 53 = .ok (.getfield 70, 3) := by decide +kernel
theorem dX10_addClosing_56 : decode cX10_addClosing 56 = .ok (.iconst 1, 1) := by decide +kernel
theorem dX10_addClosing_57 : decode cX10_addClosing 57 = .ok (.iadd, 1) := by decide +kernel
theorem dX10_addClosing_58 : decode cX10_addClosing 58 = .ok (.putfield 70, 3) := by decide +kernel
theorem dX10_addClosing_61 : decode cX10_addClosing 61 = .ok (.aload_n 0, 1) := by decide +kernel
theorem dX10_addClosing_62 : decode cX10_addClosing 62 = .ok (.getfield 70, 3) := by decide +kernel
theorem dX10_addClosing_65 : decode cX10_addClosing 65 = .ok (.iconst 1, 1) := by decide +kernel
theorem dX10_addClosing_66 : decode cX10_addClosing 66 = .ok (.isub, 1) := by decide +kernel
theorem dX10_addClosing_67 : decode cX10_addClosing 67 = .ok (.ireturn, 1) := by decide +kernel
theorem dX10_readClosing_0 : decode cX10_readClosing 0 = .ok (.iload_n 1, 1) := by decide +kernel
theorem dX10_readClosing_1 : decode cX10_readClosing 1 = .ok (.ifCond .lt 21, 3) := by decide +kernel
theorem dX10_readClosing_4 : decode cX10_readClosing 4 = .ok (.iload_n 1, 1) := by decide +kernel
theorem dX10_readClosing_5 : decode cX10_readClosing 5 = .ok (.aload_n 0, 1) := by decide +kernel
theorem dX10_readClosing_6 : decode cX10_readClosing 6 = .ok (.getfield 70, 3) := by decide +kernel
theorem dX10_readClosing_9 : decode cX10_readClosing 9 = .ok (.if_icmp .ge 13, 3) := by decide +kernel
theorem dX10_readClosing_12 : decode cX10_readClosing 12 = .ok (.aload_n 0, 1) := by decide +kernel
theorem dX10_readClosing_13 : decode cX10_readClosing 13 = .ok (.getfield 48, 3) := by decide +kernel
theorem dX10_readClosing_16 : decode cX10_readClosing 16 = .ok (.iload_n 1, 1) := by decide +kernel
theorem dX10_readClosing_17 : decode cX10_readClosing 17 = .ok (.iaload, 1) := by decide +kernel
theorem dX10_readClosing_18 : decode cX10_readClosing 18 = .ok (.iconst (-1), 1) := by decide +kernel
theorem dX10_readClosing_19 : decode cX10_readClosing 19 = .ok (.if_icmp .eq 5, 3) := by decide +kernel
theorem dX10_readClosing_22 : decode cX10_readClosing 22 = .ok (.iconst 0, 1) := by decide +kernel
theorem dX10_readClosing_23 : decode cX10_readClosing 23 = .ok (.ireturn, 1) := by decide +kernel
theorem dX10_readClosing_24 : decode cX10_readClosing 24 = .ok (.aload_n 0, 1) := by decide +kernel
theorem dX10_readClosing_25 : decode cX10_readClosing 25 = .ok (.getfield 48, 3) := by decide +kernel
theorem dX10_readClosing_28 : decode cX10_readClosing 28 = .ok (.iload_n 1, 1) := by decide +kernel
theorem dX10_readClosing_29 : decode cX10_readClosing 29 = .ok (.iload_n 2, 1) := by decide +kernel
theorem dX10_readClosing_30 : decode cX10_readClosing 30 = .ok (.iastore, 1) := by decide +kernel
theorem dX10_readClosing_31 : decode cX10_readClosing 31 = .ok (.iconst 1, 1) := by decide +kernel
theorem dX10_readClosing_32 : decode cX10_readClosing 32 = .ok (.ireturn, 1) := by decide +kernel
theorem dX10_covers_0 : decode cX10_covers 0 = .ok (.aload_n 0, 1) := by decide +kernel
theorem dX10_covers_1 : decode cX10_covers 1 = .ok (.getfield 39, 3) := by decide +kernel
theorem dX10_covers_4 : decode cX10_covers 4 = .ok (.iload_n 1, 1) := by decide +kernel
theorem dX10_covers_5 : decode cX10_covers 5 = .ok (.iaload, 1) := by decide +kernel
theorem dX10_covers_6 : decode cX10_covers 6 = .ok (.iload_n 2, 1) := by decide +kernel
theorem dX10_covers_7 : decode cX10_covers 7 = .ok (.if_icmp .ne 27, 3) := by decide +kernel
theorem dX10_covers_10 : decode cX10_covers 10 = .ok (.aload_n 0, 1) := by decide +kernel
theorem dX10_covers_11 : decode cX10_covers 11 = .ok (.getfield 42, 3) := by decide +kernel
theorem dX10_covers_14 : decode cX10_covers 14 = .ok (.iload_n 1, 1) := by decide +kernel
theorem dX10_covers_15 : decode cX10_covers 15 = .ok (.iaload, 1) := by decide +kernel
theorem dX10_covers_16 : decode cX10_covers 16 = .ok (.iload_n 3, 1) := by decide +kernel
theorem dX10_covers_17 : decode cX10_covers 17 = .ok (.if_icmp .gt 17, 3) := by decide +kernel
theorem dX10_covers_20 : decode cX10_covers 20 = .ok (.iload_n 3, 1) := by decide +kernel
theorem dX10_covers_21 : decode cX10_covers 21 = .ok (.aload_n 0, 1) := by decide +kernel
theorem dX10_covers_22 : decode cX10_covers 22 = .ok (.getfield 45, 3) := by decide +kernel
theorem dX10_covers_25 : decode cX10_covers 25 = .ok (.iload_n 1, 1) := by decide +kernel
theorem dX10_covers_26 : decode cX10_covers 26 = .ok (.iaload, 1) := by decide +kernel
theorem dX10_covers_27 : decode cX10_covers 27 = .ok (.if_icmp .gt 7, 3) := by decide +kernel
theorem dX10_covers_30 : decode cX10_covers 30 = .ok (.iconst 1, 1) := by decide +kernel
theorem dX10_covers_31 : decode cX10_covers 31 = .ok (.goto 4, 3) := by decide +kernel
theorem dX10_covers_34 : decode cX10_covers 34 = .ok (.iconst 0, 1) := by decide +kernel
theorem dX10_covers_35 : decode cX10_covers 35 = .ok (.ireturn, 1) := by decide +kernel
theorem dX10_closedBy_0 : decode cX10_closedBy 0 = .ok (.iconst 0, 1) := by decide +kernel
theorem dX10_closedBy_1 : decode cX10_closedBy 1 = .ok (.istore 4, 2) := by decide +kernel
theorem dX10_closedBy_3 : decode cX10_closedBy 3 = .ok (.iload 4, 2) := by decide +kernel
theorem dX10_closedBy_5 : decode cX10_closedBy 5 = .ok (.aload_n 0, 1) := by decide +kernel
theorem dX10_closedBy_6 : decode cX10_closedBy 6 = .ok (.getfield 70, 3) := by decide +kernel
theorem dX10_closedBy_9 : decode cX10_closedBy 9 = .ok (.if_icmp .ge 44, 3) := by decide +kernel
theorem dX10_closedBy_12 : decode cX10_closedBy 12 = .ok (.aload_n 0, 1) := by decide +kernel
theorem dX10_closedBy_13 : decode cX10_closedBy 13 = .ok (.iload 4, 2) := by decide +kernel
theorem dX10_closedBy_15 : decode cX10_closedBy 15 = .ok (.iload_n 1, 1) := by decide +kernel
theorem dX10_closedBy_16 : decode cX10_closedBy 16 = .ok (.iload_n 2, 1) := by decide +kernel
theorem dX10_closedBy_17 : decode cX10_closedBy 17 = .ok (.invokevirtual 73, 3) := by decide +kernel
theorem dX10_closedBy_20 : decode cX10_closedBy 20 = .ok (.ifCond .eq 27, 3) := by decide +kernel
theorem dX10_closedBy_23 : decode cX10_closedBy 23 = .ok (.aload_n 0, 1) := by decide +kernel
theorem dX10_closedBy_24 : decode cX10_closedBy 24 = .ok (.getfield 48, 3) := by decide +kernel
theorem dX10_closedBy_27 : decode cX10_closedBy 27 = .ok (.iload 4, 2) := by decide +kernel
theorem dX10_closedBy_29 : decode cX10_closedBy 29 = .ok (.iaload, 1) := by decide +kernel
theorem dX10_closedBy_30 : decode cX10_closedBy 30 = .ok (.iconst (-1), 1) := by decide +kernel
theorem dX10_closedBy_31 : decode cX10_closedBy 31 = .ok (.if_icmp .eq 16, 3) := by decide +kernel
theorem dX10_closedBy_34 : decode cX10_closedBy 34 = .ok (.aload_n 0, 1) := by decide +kernel
theorem dX10_closedBy_35 : decode cX10_closedBy 35 = .ok (.getfield 48, 3) := by decide +kernel
theorem dX10_closedBy_38 : decode cX10_closedBy 38 = .ok (.iload 4, 2) := by decide +kernel
theorem dX10_closedBy_40 : decode cX10_closedBy 40 = .ok (.iaload, 1) := by decide +kernel
theorem dX10_closedBy_41 : decode cX10_closedBy 41 = .ok (.iload_n 3, 1) := by decide +kernel
theorem dX10_closedBy_42 : decode cX10_closedBy 42 = .ok (.if_icmp .gt 5, 3) := by decide +kernel
theorem dX10_closedBy_45 : decode cX10_closedBy 45 = .ok (.iconst 1, 1) := by decide +kernel
theorem dX10_closedBy_46 : decode cX10_closedBy 46 = .ok (.ireturn, 1) := by decide +kernel
theorem dX10_closedBy_47 : decode cX10_closedBy 47 = .ok (.iinc 4 1, 3) := by decide +kernel
theorem dX10_closedBy_50 : decode cX10_closedBy 50 = .ok (.goto (-47), 3) := by decide +kernel
theorem dX10_closedBy_53 : decode cX10_closedBy 53 = .ok (.iconst 0, 1) := by decide +kernel
theorem dX10_closedBy_54 : decode cX10_closedBy 54 = .ok (.ireturn, 1) := by decide +kernel
theorem dX10_closureTold_0 : decode cX10_closureTold 0 = .ok (.iconst 0, 1) := by decide +kernel
theorem dX10_closureTold_1 : decode cX10_closureTold 1 = .ok (.istore_n 3, 1) := by decide +kernel
theorem dX10_closureTold_2 : decode cX10_closureTold 2 = .ok (.iload_n 3, 1) := by decide +kernel
theorem dX10_closureTold_3 : decode cX10_closureTold 3 = .ok (.aload_n 0, 1) := by decide +kernel
theorem dX10_closureTold_4 : decode cX10_closureTold 4 = .ok (.getfield 70, 3) := by decide +kernel
theorem dX10_closureTold_7 : decode cX10_closureTold 7 = .ok (.if_icmp .ge 21, 3) := by decide +kernel
theorem dX10_closureTold_10 : decode cX10_closureTold 10 = .ok (.aload_n 0, 1) := by decide +kernel
theorem dX10_closureTold_11 : decode cX10_closureTold 11 = .ok (.iload_n 3, 1) := by decide +kernel
theorem dX10_closureTold_12 : decode cX10_closureTold 12 = .ok (.iload_n 1, 1) := by decide +kernel
theorem dX10_closureTold_13 : decode cX10_closureTold 13 = .ok (.iload_n 2, 1) := by decide +kernel
theorem dX10_closureTold_14 : decode cX10_closureTold 14 = .ok (.invokevirtual 73, 3) := by decide +kernel
theorem dX10_closureTold_17 : decode cX10_closureTold 17 = .ok (.ifCond .eq 5, 3) := by decide +kernel
theorem dX10_closureTold_20 : decode cX10_closureTold 20 = .ok (.iconst 1, 1) := by decide +kernel
theorem dX10_closureTold_21 : decode cX10_closureTold 21 = .ok (.ireturn, 1) := by decide +kernel
theorem dX10_closureTold_22 : decode cX10_closureTold 22 = .ok (.iinc 3 1, 3) := by decide +kernel
theorem dX10_closureTold_25 : decode cX10_closureTold 25 = .ok (.goto (-23), 3) := by decide +kernel
theorem dX10_closureTold_28 : decode cX10_closureTold 28 = .ok (.iconst 0, 1) := by decide +kernel
theorem dX10_closureTold_29 : decode cX10_closureTold 29 = .ok (.ireturn, 1) := by decide +kernel
theorem dX11_init_0 : decode cX11_init 0 = .ok (.aload_n 0, 1) := by decide +kernel
theorem dX11_init_1 : decode cX11_init 1 = .ok (.invokespecial 1, 3) := by decide +kernel
theorem dX11_init_4 : decode cX11_init 4 = .ok (.aload_n 0, 1) := by decide +kernel
theorem dX11_init_5 : decode cX11_init 5 = .ok (.new 7, 3) := by decide +kernel
theorem dX11_init_8 : decode cX11_init 8 = .ok (.dup, 1) := by decide +kernel
theorem dX11_init_9 : decode cX11_init 9 = .ok (.invokespecial 9, 3) := by decide +kernel
theorem dX11_init_12 : decode cX11_init 12 = .ok (.putfield 10, 3) := by decide +kernel
theorem dX11_init_15 : decode cX11_init 15 = .ok (.aload_n 0, 1) := by decide +kernel
theorem dX11_init_16 : decode cX11_init 16 = .ok (.new 7, 3) := by decide +kernel
theorem dX11_init_19 : decode cX11_init 19 = .ok (.dup, 1) := by decide +kernel
theorem dX11_init_20 : decode cX11_init 20 = .ok (.invokespecial 9, 3) := by decide +kernel
theorem dX11_init_23 : decode cX11_init 23 = .ok (.putfield 16, 3) := by decide +kernel
theorem dX11_init_26 : decode cX11_init 26 = .ok (.aload_n 0, 1) := by decide +kernel
theorem dX11_init_27 : decode cX11_init 27 = .ok (.new 7, 3) := by decide +kernel
theorem dX11_init_30 : decode cX11_init 30 = .ok (.dup, 1) := by decide +kernel
theorem dX11_init_31 : decode cX11_init 31 = .ok (.invokespecial 9, 3) := by decide +kernel
theorem dX11_init_34 : decode cX11_init 34 = .ok (.putfield 19, 3) := by decide +kernel
theorem dX11_init_37 : decode cX11_init 37 = .ok (.aload_n 0, 1) := by decide +kernel
theorem dX11_init_38 : decode cX11_init 38 = .ok (.bipush 10, 2) := by decide +kernel
theorem dX11_init_40 : decode cX11_init 40 = .ok (.newarray .int, 2) := by decide +kernel
theorem dX11_init_42 : decode cX11_init 42 = .ok (.putfield 22, 3) := by decide +kernel
theorem dX11_init_45 : decode cX11_init 45 = .ok (.aload_n 0, 1) := by decide +kernel
theorem dX11_init_46 : decode cX11_init 46 = .ok (.new 26, 3) := by decide +kernel
theorem dX11_init_49 : decode cX11_init 49 = .ok (.dup, 1) := by decide +kernel
theorem dX11_init_50 : decode cX11_init 50 = .ok (.invokespecial 28, 3) := by decide +kernel
theorem dX11_init_53 : decode cX11_init 53 = .ok (.putfield 29, 3) := by decide +kernel
theorem dX11_init_56 : decode cX11_init 56 = .ok (.aload_n 0, 1) := by decide +kernel
theorem dX11_init_57 : decode cX11_init 57 = .ok (.new 33, 3) := by decide +kernel
theorem dX11_init_60 : decode cX11_init 60 = .ok (.dup, 1) := by decide +kernel
theorem dX11_init_61 : decode cX11_init 61 = .ok (.invokespecial 35, 3) := by decide +kernel
theorem dX11_init_64 : decode cX11_init 64 = .ok (.putfield 36, 3) := by decide +kernel
theorem dX11_init_67 : decode cX11_init 67 = .ok (.aload_n 0, 1) := by decide +kernel
theorem dX11_init_68 : decode cX11_init 68 = .ok (.new 40, 3) := by decide +kernel
theorem dX11_init_71 : decode cX11_init 71 = .ok (.dup, 1) := by decide +kernel
theorem dX11_init_72 : decode cX11_init 72 = .ok (.invokespecial 42, 3) := by decide +kernel
theorem dX11_init_75 : decode cX11_init 75 = .ok (.putfield 43, 3) := by decide +kernel
theorem dX11_init_78 : decode cX11_init 78 = .ok (.aload_n 0, 1) := by decide +kernel
theorem dX11_init_79 : decode cX11_init 79 = .ok (.new 47, 3) := by decide +kernel
theorem dX11_init_82 : decode cX11_init 82 = .ok (.dup, 1) := by decide +kernel
theorem dX11_init_83 : decode cX11_init 83 = .ok (.invokespecial 49, 3) := by decide +kernel
theorem dX11_init_86 : decode cX11_init 86 = .ok (.putfield 50, 3) := by decide +kernel
theorem dX11_init_89 : decode cX11_init 89 = .ok (.aload_n 0, 1) := by decide +kernel
theorem dX11_init_90 : decode cX11_init 90 = .ok (.new 54, 3) := by decide +kernel
theorem dX11_init_93 : decode cX11_init 93 = .ok (.dup, 1) := by decide +kernel
theorem dX11_init_94 : decode cX11_init 94 = .ok (.invokespecial 56, 3) := by decide +kernel
theorem dX11_init_97 : decode cX11_init 97 = .ok (.putfield 57, 3) := by decide +kernel
theorem dX11_init_100 : decode cX11_init 100 = .ok (.aload_n 0, 1) := by decide +kernel
theorem dX11_init_101 : decode cX11_init 101 = .ok (.new 61, 3) := by decide +kernel
theorem dX11_init_104 : decode cX11_init 104 = .ok (.dup, 1) := by decide +kernel
theorem dX11_init_105 : decode cX11_init 105 = .ok (.invokespecial 63, 3) := by decide +kernel
theorem dX11_init_108 : decode cX11_init 108 = .ok (.putfield 64, 3) := by decide +kernel
theorem dX11_init_111 : decode cX11_init 111 = .ok (.aload_n 0, 1) := by decide +kernel
theorem dX11_init_112 : decode cX11_init 112 = .ok (.new 68, 3) := by decide +kernel
theorem dX11_init_115 : decode cX11_init 115 = .ok (.dup, 1) := by decide +kernel
theorem dX11_init_116 : decode cX11_init 116 = .ok (.invokespecial 70, 3) := by decide +kernel
theorem dX11_init_119 : decode cX11_init 119 = .ok (.putfield 71, 3) := by decide +kernel
theorem dX11_init_122 : decode cX11_init 122 = .ok (.aload_n 0, 1) := by decide +kernel
theorem dX11_init_123 : decode cX11_init 123 = .ok (.iconst 0, 1) := by decide +kernel
theorem dX11_init_124 : decode cX11_init 124 = .ok (.putfield 75, 3) := by decide +kernel
theorem dX11_init_127 : decode cX11_init 127 = .ok (.aload_n 0, 1) := by decide +kernel
theorem dX11_init_128 : decode cX11_init 128 = .ok (.lconst 0, 1) := by decide +kernel
theorem dX11_init_129 : decode cX11_init 129 = .ok (.putfield 79, 3) := by decide +kernel
theorem dX11_init_132 : decode cX11_init 132 = .ok (.aload_n 0, 1) := by decide +kernel
theorem dX11_init_133 : decode cX11_init 133 = .ok (.iconst 1, 1) := by decide +kernel
theorem dX11_init_134 : decode cX11_init 134 = .ok (.newarray .int, 2) := by decide +kernel
theorem dX11_init_136 : decode cX11_init 136 = .ok (.putfield 83, 3) := by decide +kernel
theorem dX11_init_139 : decode cX11_init 139 = .ok (.aload_n 0, 1) := by decide +kernel
theorem dX11_init_140 : decode cX11_init 140 = .ok (.bipush 90, 2) := by decide +kernel
theorem dX11_init_142 : decode cX11_init 142 = .ok (.putfield 86, 3) := by decide +kernel
theorem dX11_init_145 : decode cX11_init 145 = .ok (.return_, 1) := by decide +kernel
theorem dX11_clock_0 : decode cX11_clock 0 = .ok (.iload_n 1, 1) := by decide +kernel
theorem dX11_clock_1 : decode cX11_clock 1 = .ok (.aload_n 0, 1) := by decide +kernel
theorem dX11_clock_2 : decode cX11_clock 2 = .ok (.getfield 75, 3) := by decide +kernel
theorem dX11_clock_5 : decode cX11_clock 5 = .ok (.if_icmp .lt 10, 3) := by decide +kernel
theorem dX11_clock_8 : decode cX11_clock 8 = .ok (.iload_n 1, 1) := by decide +kernel
theorem dX11_clock_9 : decode cX11_clock 9 = .ok (.sipush 3999, 3) := by decide +kernel
theorem dX11_clock_12 : decode cX11_clock 12 = .ok (.if_icmp .le 5, 3) := by decide +kernel
theorem dX11_clock_15 : decode cX11_clock 15 = .ok (.iconst 0, 1) := by decide +kernel
theorem dX11_clock_16 : decode cX11_clock 16 = .ok (.ireturn, 1) := by decide +kernel
theorem dX11_clock_17 : decode cX11_clock 17 = .ok (.aload_n 0, 1) := by decide +kernel
theorem dX11_clock_18 : decode cX11_clock 18 = .ok (.iload_n 1, 1) := by decide +kernel
theorem dX11_clock_19 : decode cX11_clock 19 = .ok (.putfield 75, 3) := by decide +kernel
theorem dX11_clock_22 : decode cX11_clock 22 = .ok (.iconst 1, 1) := by decide +kernel
theorem dX11_clock_23 : decode cX11_clock 23 = .ok (.ireturn, 1) := by decide +kernel
theorem dX11_man_0 : decode cX11_man 0 = .ok (.aload_n 0, 1) := by decide +kernel
theorem dX11_man_1 : decode cX11_man 1 = .ok (.getfield 10, 3) := by decide +kernel
theorem dX11_man_4 : decode cX11_man 4 = .ok (.invokevirtual 89, 3) := by decide +kernel
theorem dX11_man_7 : decode cX11_man 7 = .ok (.bipush 40, 2) := by decide +kernel
theorem dX11_man_9 : decode cX11_man 9 = .ok (.if_icmp .ge 23, 3) := by decide +kernel
theorem dX11_man_12 : decode cX11_man 12 = .ok (.iload_n 1, 1) := by decide +kernel
theorem dX11_man_13 : decode cX11_man 13 = .ok (.iconst 0, 1) := by decide +kernel
theorem dX11_man_14 : decode cX11_man 14 = .ok (.bipush 8, 2) := by decide +kernel
theorem dX11_man_16 : decode cX11_man 16 = .ok (.invokestatic 93, 3) := by decide +kernel
theorem dX11_man_19 : decode cX11_man 19 = .ok (.ifCond .eq 13, 3) := by decide +kernel
theorem dX11_man_22 : decode cX11_man 22 = .ok (.iload_n 3, 1) := by decide +kernel
theorem dX11_man_23 : decode cX11_man 23 = .ok (.iconst 0, 1) := by decide +kernel
theorem dX11_man_24 : decode cX11_man 24 = .ok (.ldc 97, 2) := by decide +kernel
theorem dX11_man_26 : decode cX11_man 26 = .ok (.invokestatic 93, 3) := by decide +kernel
theorem dX11_man_29 : decode cX11_man 29 = .ok (.ifCond .ne 5, 3) := by decide +kernel
theorem dX11_man_32 : decode cX11_man 32 = .ok (.iconst (-1), 1) := by decide +kernel
theorem dX11_man_33 : decode cX11_man 33 = .ok (.ireturn, 1) := by decide +kernel
theorem dX11_man_34 : decode cX11_man 34 = .ok (.aload_n 0, 1) := by decide +kernel
theorem dX11_man_35 : decode cX11_man 35 = .ok (.getfield 10, 3) := by decide +kernel
theorem dX11_man_38 : decode cX11_man 38 = .ok (.new 98, 3) := by decide +kernel
theorem dX11_man_41 : decode cX11_man 41 = .ok (.dup, 1) := by decide +kernel
theorem dX11_man_42 : decode cX11_man 42 = .ok (.iload_n 1, 1) := by decide +kernel
theorem dX11_man_43 : decode cX11_man 43 = .ok (.iload_n 2, 1) := by decide +kernel
theorem dX11_man_44 : decode cX11_man 44 = .ok (.iload_n 3, 1) := by decide +kernel
theorem dX11_man_45 : decode cX11_man 45 = .ok (.aload_n 0, 1) := by decide +kernel
theorem dX11_man_46 : decode cX11_man 46 = .ok (.getfield 75, 3) := by decide +kernel
theorem dX11_man_49 : decode cX11_man 49 = .ok (.invokespecial 100, 3) := by decide +kernel
theorem dX11_man_52 : decode cX11_man 52 = .ok (.invokevirtual 103, 3) := by decide +kernel
theorem dX11_man_55 : decode cX11_man 55 = .ok (.pop, 1) := by decide +kernel
theorem dX11_man_56 : decode cX11_man 56 = .ok (.aload_n 0, 1) := by decide +kernel
theorem dX11_man_57 : decode cX11_man 57 = .ok (.getfield 10, 3) := by decide +kernel
theorem dX11_man_60 : decode cX11_man 60 = .ok (.invokevirtual 89, 3) := by decide +kernel
theorem dX11_man_63 : decode cX11_man 63 = .ok (.iconst 1, 1) := by decide +kernel
theorem dX11_man_64 : decode cX11_man 64 = .ok (.isub, 1) := by decide +kernel
theorem dX11_man_65 : decode cX11_man 65 = .ok (.ireturn, 1) := by decide +kernel
theorem dX11_leave_0 : decode cX11_leave 0 = .ok (.aload_n 0, 1) := by decide +kernel
theorem dX11_leave_1 : decode cX11_leave 1 = .ok (.iload_n 1, 1) := by decide +kernel
theorem dX11_leave_2 : decode cX11_leave 2 = .ok (.invokevirtual 107, 3) := by decide +kernel
theorem dX11_leave_5 : decode cX11_leave 5 = .ok (.astore_n 2, 1) := by decide +kernel
theorem dX11_leave_6 : decode cX11_leave 6 = .ok (.aload_n 2, 1) := by decide +kernel
theorem dX11_leave_7 : decode cX11_leave 7 = .ok (.ifnonnull 5, 3) := by decide +kernel
theorem dX11_leave_10 : decode cX11_leave 10 = .ok (.iconst 0, 1) := by decide +kernel
theorem dX11_leave_11 : decode cX11_leave 11 = .ok (.ireturn, 1) := by decide +kernel
theorem dX11_leave_12 : decode cX11_leave 12 = .ok (.aload_n 2, 1) := by decide +kernel
theorem dX11_leave_13 : decode cX11_leave 13 = .ok (.aload_n 0, 1) := by decide +kernel
theorem dX11_leave_14 : decode cX11_leave 14 = .ok (.getfield 75, 3) := by decide +kernel
theorem dX11_leave_17 : decode cX11_leave 17 = .ok (.putfield 111, 3) := by decide +kernel
theorem dX11_leave_20 : decode cX11_leave 20 = .ok (.iconst 1, 1) := by decide +kernel
theorem dX11_leave_21 : decode cX11_leave 21 = .ok (.ireturn, 1) := by decide +kernel
theorem dX11_die_0 : decode cX11_die 0 = .ok (.aload_n 0, 1) := by decide +kernel
theorem dX11_die_1 : decode cX11_die 1 = .ok (.iload_n 1, 1) := by decide +kernel
theorem dX11_die_2 : decode cX11_die 2 = .ok (.invokevirtual 107, 3) := by decide +kernel
theorem dX11_die_5 : decode cX11_die 5 = .ok (.astore_n 2, 1) := by decide +kernel
theorem dX11_die_6 : decode cX11_die 6 = .ok (.aload_n 2, 1) := by decide +kernel
theorem dX11_die_7 : decode cX11_die 7 = .ok (.ifnonnull 6, 3) := by decide +kernel
theorem dX11_die_10 : decode cX11_die 10 = .ok (.bipush (-2), 2) := by decide +kernel
theorem dX11_die_12 : decode cX11_die 12 = .ok (.ireturn, 1) := by decide +kernel
theorem dX11_die_13 : decode cX11_die 13 = .ok (.aload_n 2, 1) := by decide +kernel
theorem dX11_die_14 : decode cX11_die 14 = .ok (.aload_n 0, 1) := by decide +kernel
theorem dX11_die_15 : decode cX11_die 15 = .ok (.getfield 75, 3) := by decide +kernel
theorem dX11_die_18 : decode cX11_die 18 = .ok (.putfield 111, 3) := by decide +kernel
theorem dX11_die_21 : decode cX11_die 21 = .ok (.aload_n 0, 1) := by decide +kernel
theorem dX11_die_22 : decode cX11_die 22 = .ok (.iload_n 1, 1) := by decide +kernel
theorem dX11_die_23 : decode cX11_die 23 = .ok (.invokevirtual 114, 3) := by decide +kernel
theorem dX11_die_26 : decode cX11_die 26 = .ok (.aload_n 0, 1) := by decide +kernel
theorem dX11_die_27 : decode cX11_die 27 = .ok (.iload_n 1, 1) := by decide +kernel
theorem dX11_die_28 : decode cX11_die 28 = .ok (.invokevirtual 118, 3) := by decide +kernel
theorem dX11_die_31 : decode cX11_die 31 = .ok (.aload_n 0, 1) := by decide +kernel
theorem dX11_die_32 : decode cX11_die 32 = .ok (.aload_n 2, 1) := by decide +kernel
theorem dX11_die_33 : decode cX11_die 33 = .ok (.getfield 121, 3) := by decide +kernel
theorem dX11_die_36 : decode cX11_die 36 = .ok (.invokevirtual 124, 3) := by decide +kernel
theorem dX11_die_39 : decode cX11_die 39 = .ok (.istore_n 3, 1) := by decide +kernel
theorem dX11_die_40 : decode cX11_die 40 = .ok (.aload_n 0, 1) := by decide +kernel
theorem dX11_die_41 : decode cX11_die 41 = .ok (.iload_n 3, 1) := by decide +kernel
theorem dX11_die_42 : decode cX11_die 42 = .ok (.aload_n 2, 1) := by decide +kernel
theorem dX11_die_43 : decode cX11_die 43 = .ok (.getfield 121, 3) := by decide +kernel
theorem dX11_die_46 : decode cX11_die 46 = .ok (.aload_n 2, 1) := by decide +kernel
theorem dX11_die_47 : decode cX11_die 47 = .ok (.aload_n 2, 1) := by decide +kernel
theorem dX11_die_48 : decode cX11_die 48 = .ok (.getfield 128, 3) := by decide +kernel
theorem dX11_die_51 : decode cX11_die 51 = .ok (.invokevirtual 131, 3) := by decide +kernel
theorem dX11_die_54 : decode cX11_die 54 = .ok (.invokevirtual 134, 3) := by decide +kernel
theorem dX11_die_57 : decode cX11_die 57 = .ok (.aload_n 0, 1) := by decide +kernel
theorem dX11_die_58 : decode cX11_die 58 = .ok (.iload_n 1, 1) := by decide +kernel
theorem dX11_die_59 : decode cX11_die 59 = .ok (.iload_n 3, 1) := by decide +kernel
theorem dX11_die_60 : decode cX11_die 60 = .ok (.invokevirtual 138, 3) := by decide +kernel
theorem dX11_die_63 : decode cX11_die 63 = .ok (.aload_n 0, 1) := by decide +kernel
theorem dX11_die_64 : decode cX11_die 64 = .ok (.iload_n 1, 1) := by decide +kernel
theorem dX11_die_65 : decode cX11_die 65 = .ok (.iload_n 3, 1) := by decide +kernel
theorem dX11_die_66 : decode cX11_die 66 = .ok (.invokevirtual 142, 3) := by decide +kernel
theorem dX11_die_69 : decode cX11_die 69 = .ok (.iload_n 3, 1) := by decide +kernel
theorem dX11_die_70 : decode cX11_die 70 = .ok (.ireturn, 1) := by decide +kernel
theorem dX11_bring_0 : decode cX11_bring 0 = .ok (.aload_n 0, 1) := by decide +kernel
theorem dX11_bring_1 : decode cX11_bring 1 = .ok (.getfield 16, 3) := by decide +kernel
theorem dX11_bring_4 : decode cX11_bring 4 = .ok (.invokevirtual 89, 3) := by decide +kernel
theorem dX11_bring_7 : decode cX11_bring 7 = .ok (.sipush 200, 3) := by decide +kernel
theorem dX11_bring_10 : decode cX11_bring 10 = .ok (.if_icmp .ge 11, 3) := by decide +kernel
theorem dX11_bring_13 : decode cX11_bring 13 = .ok (.aload_n 0, 1) := by decide +kernel
theorem dX11_bring_14 : decode cX11_bring 14 = .ok (.iload_n 1, 1) := by decide +kernel
theorem dX11_bring_15 : decode cX11_bring 15 = .ok (.invokevirtual 107, 3) := by decide +kernel
theorem dX11_bring_18 : decode cX11_bring 18 = .ok (.ifnonnull 5, 3) := by decide +kernel
theorem dX11_bring_21 : decode cX11_bring 21 = .ok (.iconst (-1), 1) := by decide +kernel
theorem dX11_bring_22 : decode cX11_bring 22 = .ok (.ireturn, 1) := by decide +kernel
theorem dX11_bring_23 : decode cX11_bring 23 = .ok (.iload_n 2, 1) := by decide +kernel
theorem dX11_bring_24 : decode cX11_bring 24 = .ok (.iconst 0, 1) := by decide +kernel
theorem dX11_bring_25 : decode cX11_bring 25 = .ok (.bipush 7, 2) := by decide +kernel
theorem dX11_bring_27 : decode cX11_bring 27 = .ok (.invokestatic 93, 3) := by decide +kernel
theorem dX11_bring_30 : decode cX11_bring 30 = .ok (.ifCond .eq 13, 3) := by decide +kernel
theorem dX11_bring_33 : decode cX11_bring 33 = .ok (.iload_n 3, 1) := by decide +kernel
theorem dX11_bring_34 : decode cX11_bring 34 = .ok (.iconst 1, 1) := by decide +kernel
theorem dX11_bring_35 : decode cX11_bring 35 = .ok (.ldc 145, 2) := by decide +kernel
theorem dX11_bring_37 : decode cX11_bring 37 = .ok (.invokestatic 93, 3) := by decide +kernel
theorem dX11_bring_40 : decode cX11_bring 40 = .ok (.ifCond .ne 5, 3) := by decide +kernel
theorem dX11_bring_43 : decode cX11_bring 43 = .ok (.iconst (-1), 1) := by decide +kernel
theorem dX11_bring_44 : decode cX11_bring 44 = .ok (.ireturn, 1) := by decide +kernel
theorem dX11_bring_45 : decode cX11_bring 45 = .ok (.aload_n 0, 1) := by decide +kernel
theorem dX11_bring_46 : decode cX11_bring 46 = .ok (.getfield 16, 3) := by decide +kernel
theorem dX11_bring_49 : decode cX11_bring 49 = .ok (.new 146, 3) := by decide +kernel
theorem dX11_bring_52 : decode cX11_bring 52 = .ok (.dup, 1) := by decide +kernel
theorem dX11_bring_53 : decode cX11_bring 53 = .ok (.iload_n 2, 1) := by decide +kernel
theorem dX11_bring_54 : decode cX11_bring 54 = .ok (.iload_n 3, 1) := by decide +kernel
theorem dX11_bring_55 : decode cX11_bring 55 = .ok (.iload_n 1, 1) := by decide +kernel
theorem dX11_bring_56 : decode cX11_bring 56 = .ok (.iconst (-1), 1) := by decide +kernel
theorem dX11_bring_57 : decode cX11_bring 57 = .ok (.invokespecial 148, 3) := by decide +kernel
theorem dX11_bring_60 : decode cX11_bring 60 = .ok (.invokevirtual 103, 3) := by decide +kernel
theorem dX11_bring_63 : decode cX11_bring 63 = .ok (.pop, 1) := by decide +kernel
theorem dX11_bring_64 : decode cX11_bring 64 = .ok (.aload_n 0, 1) := by decide +kernel
theorem dX11_bring_65 : decode cX11_bring 65 = .ok (.getfield 16, 3) := by decide +kernel
theorem dX11_bring_68 : decode cX11_bring 68 = .ok (.invokevirtual 89, 3) := by decide +kernel
theorem dX11_bring_71 : decode cX11_bring 71 = .ok (.iconst 1, 1) := by decide +kernel
theorem dX11_bring_72 : decode cX11_bring 72 = .ok (.isub, 1) := by decide +kernel
theorem dX11_bring_73 : decode cX11_bring 73 = .ok (.ireturn, 1) := by decide +kernel
theorem dX11_lot_0 : decode cX11_lot 0 = .ok (.iload_n 1, 1) := by decide +kernel
theorem dX11_lot_1 : decode cX11_lot 1 = .ok (.ifCond .lt 14, 3) := by decide +kernel
theorem dX11_lot_4 : decode cX11_lot 4 = .ok (.iload_n 1, 1) := by decide +kernel
theorem dX11_lot_5 : decode cX11_lot 5 = .ok (.aload_n 0, 1) := by decide +kernel
theorem dX11_lot_6 : decode cX11_lot 6 = .ok (.getfield 16, 3) := by decide +kernel
theorem dX11_lot_9 : decode cX11_lot 9 = .ok (.invokevirtual 89, 3) := by decide +kernel
theorem dX11_lot_12 : decode cX11_lot 12 = .ok (.if_icmp .lt 5, 3) := by decide +kernel
theorem dX11_lot_15 : decode cX11_lot 15 = .ok (.iconst (-1), 1) := by decide +kernel
theorem dX11_lot_16 : decode cX11_lot 16 = .ok (.ireturn, 1) := by decide +kernel
theorem dX11_lot_17 : decode cX11_lot 17 = .ok (.aload_n 0, 1) := by decide +kernel
theorem dX11_lot_18 : decode cX11_lot 18 = .ok (.getfield 16, 3) := by decide +kernel
theorem dX11_lot_21 : decode cX11_lot 21 = .ok (.iload_n 1, 1) := by decide +kernel
theorem dX11_lot_22 : decode cX11_lot 22 = .ok (.invokevirtual 151, 3) := by decide +kernel
theorem dX11_lot_25 : decode cX11_lot 25 = .ok (.checkcast 146, 3) := by decide +kernel
theorem dX11_lot_28 : decode cX11_lot 28 = .ok (.astore_n 3, 1) := by decide +kernel
theorem dX11_lot_29 : decode cX11_lot 29 = .ok (.iload_n 2, 1) := by decide +kernel
theorem dX11_lot_30 : decode cX11_lot 30 = .ok (.tableswitch 59 0 4 #[34, 39, 44, 49, 54], 34) := by decide +kernel
theorem dX11_lot_64 : decode cX11_lot 64 = .ok (.aload_n 3, 1) := by decide +kernel
theorem dX11_lot_65 : decode cX11_lot 65 = .ok (.getfield 155, 3) := by decide +kernel
theorem dX11_lot_68 : decode cX11_lot 68 = .ok (.ireturn, 1) := by decide +kernel
theorem dX11_lot_69 : decode cX11_lot 69 = .ok (.aload_n 3, 1) := by decide +kernel
theorem dX11_lot_70 : decode cX11_lot 70 = .ok (.getfield 158, 3) := by decide +kernel
theorem dX11_lot_73 : decode cX11_lot 73 = .ok (.ireturn, 1) := by decide +kernel
theorem dX11_lot_74 : decode cX11_lot 74 = .ok (.aload_n 3, 1) := by decide +kernel
theorem dX11_lot_75 : decode cX11_lot 75 = .ok (.getfield 161, 3) := by decide +kernel
theorem dX11_lot_78 : decode cX11_lot 78 = .ok (.ireturn, 1) := by decide +kernel
theorem dX11_lot_79 : decode cX11_lot 79 = .ok (.aload_n 3, 1) := by decide +kernel
theorem dX11_lot_80 : decode cX11_lot 80 = .ok (.getfield 164, 3) := by decide +kernel
theorem dX11_lot_83 : decode cX11_lot 83 = .ok (.ireturn, 1) := by decide +kernel
theorem dX11_lot_84 : decode cX11_lot 84 = .ok (.aload_n 3, 1) := by decide +kernel
theorem dX11_lot_85 : decode cX11_lot 85 = .ok (.getfield 167, 3) := by decide +kernel
theorem dX11_lot_88 : decode cX11_lot 88 = .ok (.ireturn, 1) := by decide +kernel
theorem dX11_lot_89 : decode cX11_lot 89 = .ok (.iconst (-1), 1) := by decide +kernel
theorem dX11_lot_90 : decode cX11_lot 90 = .ok (.ireturn, 1) := by decide +kernel
theorem dX11_men_0 : decode cX11_men 0 = .ok (.iload_n 1, 1) := by decide +kernel
theorem dX11_men_1 : decode cX11_men 1 = .ok (.ifCond .lt 14, 3) := by decide +kernel
theorem dX11_men_4 : decode cX11_men 4 = .ok (.iload_n 1, 1) := by decide +kernel
theorem dX11_men_5 : decode cX11_men 5 = .ok (.aload_n 0, 1) := by decide +kernel
theorem dX11_men_6 : decode cX11_men 6 = .ok (.getfield 10, 3) := by decide +kernel
theorem dX11_men_9 : decode cX11_men 9 = .ok (.invokevirtual 89, 3) := by decide +kernel
theorem dX11_men_12 : decode cX11_men 12 = .ok (.if_icmp .lt 5, 3) := by decide +kernel
theorem dX11_men_15 : decode cX11_men 15 = .ok (.iconst (-1), 1) := by decide +kernel
theorem dX11_men_16 : decode cX11_men 16 = .ok (.ireturn, 1) := by decide +kernel
theorem dX11_men_17 : decode cX11_men 17 = .ok (.aload_n 0, 1) := by decide +kernel
theorem dX11_men_18 : decode cX11_men 18 = .ok (.getfield 10, 3) := by decide +kernel
theorem dX11_men_21 : decode cX11_men 21 = .ok (.iload_n 1, 1) := by decide +kernel
theorem dX11_men_22 : decode cX11_men 22 = .ok (.invokevirtual 151, 3) := by decide +kernel
theorem dX11_men_25 : decode cX11_men 25 = .ok (.checkcast 98, 3) := by decide +kernel
theorem dX11_men_28 : decode cX11_men 28 = .ok (.astore_n 3, 1) := by decide +kernel
theorem dX11_men_29 : decode cX11_men 29 = .ok (.iload_n 2, 1) := by decide +kernel
theorem dX11_men_30 : decode cX11_men 30 = .ok (.tableswitch 107 0 7 #[46, 51, 65, 70, 77, 84, 97, 102], 46) := by decide +kernel
theorem dX11_men_76 : decode cX11_men 76 = .ok (.aload_n 3, 1) := by decide +kernel
theorem dX11_men_77 : decode cX11_men 77 = .ok (.getfield 121, 3) := by decide +kernel
theorem dX11_men_80 : decode cX11_men 80 = .ok (.ireturn, 1) := by decide +kernel
theorem dX11_men_81 : decode cX11_men 81 = .ok (.aload_n 3, 1) := by decide +kernel
theorem dX11_men_82 : decode cX11_men 82 = .ok (.getfield 111, 3) := by decide +kernel
theorem dX11_men_85 : decode cX11_men 85 = .ok (.iconst (-1), 1) := by decide +kernel
theorem dX11_men_86 : decode cX11_men 86 = .ok (.if_icmp .ne 7, 3) := by decide +kernel
theorem dX11_men_89 : decode cX11_men 89 = .ok (.iconst 1, 1) := by decide +kernel
theorem dX11_men_90 : decode cX11_men 90 = .ok (.goto 4, 3) := by decide +kernel
theorem dX11_men_93 : decode cX11_men 93 = .ok (.iconst 0, 1) := by decide +kernel
theorem dX11_men_94 : decode cX11_men 94 = .ok (.ireturn, 1) := by decide +kernel
theorem dX11_men_95 : decode cX11_men 95 = .ok (.aload_n 3, 1) := by decide +kernel
theorem dX11_men_96 : decode cX11_men 96 = .ok (.getfield 128, 3) := by decide +kernel
theorem dX11_men_99 : decode cX11_men 99 = .ok (.ireturn, 1) := by decide +kernel
theorem dX11_men_100 : decode cX11_men 100 = .ok (.aload_n 0, 1) := by decide +kernel
theorem dX11_men_101 : decode cX11_men 101 = .ok (.iload_n 1, 1) := by decide +kernel
theorem dX11_men_102 : decode cX11_men 102 = .ok (.iconst 0, 1) := by decide +kernel
theorem dX11_men_103 : decode cX11_men 103 = .ok (.invokevirtual 170, 3) := by decide +kernel
theorem dX11_men_106 : decode cX11_men 106 = .ok (.ireturn, 1) := by decide +kernel
theorem dX11_men_107 : decode cX11_men 107 = .ok (.aload_n 0, 1) := by decide +kernel
theorem dX11_men_108 : decode cX11_men 108 = .ok (.iload_n 1, 1) := by decide +kernel
theorem dX11_men_109 : decode cX11_men 109 = .ok (.iconst 1, 1) := by decide +kernel
theorem dX11_men_110 : decode cX11_men 110 = .ok (.invokevirtual 170, 3) := by decide +kernel
theorem dX11_men_113 : decode cX11_men 113 = .ok (.ireturn, 1) := by decide +kernel
theorem dX11_men_114 : decode cX11_men 114 = .ok (.aload_n 3, 1) := by decide +kernel
theorem dX11_men_115 : decode cX11_men 115 = .ok (.getfield 174, 3) := by decide +kernel
theorem dX11_men_118 : decode cX11_men 118 = .ok (.ifCond .eq 7, 3) := by decide +kernel
theorem dX11_men_121 : decode cX11_men 121 = .ok (.iconst 1, 1) := by decide +kernel
theorem dX11_men_122 : decode cX11_men 122 = .ok (.goto 4, 3) := by decide +kernel
theorem dX11_men_125 : decode cX11_men 125 = .ok (.iconst 0, 1) := by decide +kernel
theorem dX11_men_126 : decode cX11_men 126 = .ok (.ireturn, 1) := by decide +kernel
theorem dX11_men_127 : decode cX11_men 127 = .ok (.aload_n 3, 1) := by decide +kernel
theorem dX11_men_128 : decode cX11_men 128 = .ok (.getfield 178, 3) := by decide +kernel
theorem dX11_men_131 : decode cX11_men 131 = .ok (.ireturn, 1) := by decide +kernel
theorem dX11_men_132 : decode cX11_men 132 = .ok (.aload_n 3, 1) := by decide +kernel
theorem dX11_men_133 : decode cX11_men 133 = .ok (.getfield 111, 3) := by decide +kernel
theorem dX11_men_136 : decode cX11_men 136 = .ok (.ireturn, 1) := by decide +kernel
theorem dX11_men_137 : decode cX11_men 137 = .ok (.iconst (-1), 1) := by decide +kernel
theorem dX11_men_138 : decode cX11_men 138 = .ok (.ireturn, 1) := by decide +kernel
theorem dX11_feed_0 : decode cX11_feed 0 = .ok (.aload_n 0, 1) := by decide +kernel
theorem dX11_feed_1 : decode cX11_feed 1 = .ok (.getfield 29, 3) := by decide +kernel
theorem dX11_feed_4 : decode cX11_feed 4 = .ok (.bipush 20, 2) := by decide +kernel
theorem dX11_feed_6 : decode cX11_feed 6 = .ok (.invokevirtual 181, 3) := by decide +kernel
theorem dX11_feed_9 : decode cX11_feed 9 = .ok (.ifCond .ne 5, 3) := by decide +kernel
theorem dX11_feed_12 : decode cX11_feed 12 = .ok (.iconst (-1), 1) := by decide +kernel
theorem dX11_feed_13 : decode cX11_feed 13 = .ok (.ireturn, 1) := by decide +kernel
theorem dX11_feed_14 : decode cX11_feed 14 = .ok (.aload_n 0, 1) := by decide +kernel
theorem dX11_feed_15 : decode cX11_feed 15 = .ok (.getfield 29, 3) := by decide +kernel
theorem dX11_feed_18 : decode cX11_feed 18 = .ok (.iload_n 1, 1) := by decide +kernel
theorem dX11_feed_19 : decode cX11_feed 19 = .ok (.invokevirtual 185, 3) := by decide +kernel
theorem dX11_feed_22 : decode cX11_feed 22 = .ok (.aload_n 0, 1) := by decide +kernel
theorem dX11_feed_23 : decode cX11_feed 23 = .ok (.getfield 29, 3) := by decide +kernel
theorem dX11_feed_26 : decode cX11_feed 26 = .ok (.iload_n 2, 1) := by decide +kernel
theorem dX11_feed_27 : decode cX11_feed 27 = .ok (.invokevirtual 185, 3) := by decide +kernel
theorem dX11_feed_30 : decode cX11_feed 30 = .ok (.aload_n 0, 1) := by decide +kernel
theorem dX11_feed_31 : decode cX11_feed 31 = .ok (.getfield 29, 3) := by decide +kernel
theorem dX11_feed_34 : decode cX11_feed 34 = .ok (.iload_n 3, 1) := by decide +kernel
theorem dX11_feed_35 : decode cX11_feed 35 = .ok (.invokevirtual 185, 3) := by decide +kernel
theorem dX11_feed_38 : decode cX11_feed 38 = .ok (.aload_n 0, 1) := by decide +kernel
theorem dX11_feed_39 : decode cX11_feed 39 = .ok (.getfield 29, 3) := by decide +kernel
theorem dX11_feed_42 : decode cX11_feed 42 = .ok (.iload 4, 2) := by decide +kernel
theorem dX11_feed_44 : decode cX11_feed 44 = .ok (.invokevirtual 185, 3) := by decide +kernel
theorem dX11_feed_47 : decode cX11_feed 47 = .ok (.aload_n 0, 1) := by decide +kernel
theorem dX11_feed_48 : decode cX11_feed 48 = .ok (.getfield 29, 3) := by decide +kernel
theorem dX11_feed_51 : decode cX11_feed 51 = .ok (.iload 5, 2) := by decide +kernel
theorem dX11_feed_53 : decode cX11_feed 53 = .ok (.invokevirtual 185, 3) := by decide +kernel
theorem dX11_feed_56 : decode cX11_feed 56 = .ok (.aload_n 0, 1) := by decide +kernel
theorem dX11_feed_57 : decode cX11_feed 57 = .ok (.getfield 29, 3) := by decide +kernel
theorem dX11_feed_60 : decode cX11_feed 60 = .ok (.getfield 188, 3) := by decide +kernel
theorem dX11_feed_63 : decode cX11_feed 63 = .ok (.ireturn, 1) := by decide +kernel
theorem dX11_end_0 : decode cX11_end 0 = .ok (.iload_n 1, 1) := by decide +kernel
theorem dX11_end_1 : decode cX11_end 1 = .ok (.ifCond .lt 14, 3) := by decide +kernel
theorem dX11_end_4 : decode cX11_end 4 = .ok (.iload_n 1, 1) := by decide +kernel
theorem dX11_end_5 : decode cX11_end 5 = .ok (.aload_n 0, 1) := by decide +kernel
theorem dX11_end_6 : decode cX11_end 6 = .ok (.getfield 29, 3) := by decide +kernel
theorem dX11_end_9 : decode cX11_end 9 = .ok (.getfield 188, 3) := by decide +kernel
theorem dX11_end_12 : decode cX11_end 12 = .ok (.if_icmp .le 5, 3) := by decide +kernel
theorem dX11_end_15 : decode cX11_end 15 = .ok (.iconst (-1), 1) := by decide +kernel
theorem dX11_end_16 : decode cX11_end 16 = .ok (.ireturn, 1) := by decide +kernel
theorem dX11_end_17 : decode cX11_end 17 = .ok (.aload_n 0, 1) := by decide +kernel
theorem dX11_end_18 : decode cX11_end 18 = .ok (.getfield 29, 3) := by decide +kernel
theorem dX11_end_21 : decode cX11_end 21 = .ok (.iload_n 1, 1) := by decide +kernel
theorem dX11_end_22 : decode cX11_end 22 = .ok (.putfield 188, 3) := by decide +kernel
theorem dX11_end_25 : decode cX11_end 25 = .ok (.iload_n 1, 1) := by decide +kernel
theorem dX11_end_26 : decode cX11_end 26 = .ok (.ireturn, 1) := by decide +kernel
theorem dX11_law_0 : decode cX11_law 0 = .ok (.aload_n 0, 1) := by decide +kernel
theorem dX11_law_1 : decode cX11_law 1 = .ok (.getfield 36, 3) := by decide +kernel
theorem dX11_law_4 : decode cX11_law 4 = .ok (.getfield 191, 3) := by decide +kernel
theorem dX11_law_7 : decode cX11_law 7 = .ok (.invokevirtual 89, 3) := by decide +kernel
theorem dX11_law_10 : decode cX11_law 10 = .ok (.bipush 30, 2) := by decide +kernel
theorem dX11_law_12 : decode cX11_law 12 = .ok (.if_icmp .ge 12, 3) := by decide +kernel
theorem dX11_law_15 : decode cX11_law 15 = .ok (.iload_n 1, 1) := by decide +kernel
theorem dX11_law_16 : decode cX11_law 16 = .ok (.iconst 0, 1) := by decide +kernel
theorem dX11_law_17 : decode cX11_law 17 = .ok (.iconst 2, 1) := by decide +kernel
theorem dX11_law_18 : decode cX11_law 18 = .ok (.invokestatic 93, 3) := by decide +kernel
theorem dX11_law_21 : decode cX11_law 21 = .ok (.ifCond .ne 5, 3) := by decide +kernel
theorem dX11_law_24 : decode cX11_law 24 = .ok (.iconst (-1), 1) := by decide +kernel
theorem dX11_law_25 : decode cX11_law 25 = .ok (.ireturn, 1) := by decide +kernel
theorem dX11_law_26 : decode cX11_law 26 = .ok (.iload_n 1, 1) := by decide +kernel
theorem dX11_law_27 : decode cX11_law 27 = .ok (.iconst 1, 1) := by decide +kernel
theorem dX11_law_28 : decode cX11_law 28 = .ok (.if_icmp .ne 19, 3) := by decide +kernel
theorem dX11_law_31 : decode cX11_law 31 = .ok (.iload_n 2, 1) := by decide +kernel
theorem dX11_law_32 : decode cX11_law 32 = .ok (.aload_n 0, 1) := by decide +kernel
theorem dX11_law_33 : decode cX11_law 33 = .ok (.getfield 75, 3) := by decide +kernel
theorem dX11_law_36 : decode cX11_law 36 = .ok (.sipush 3999, 3) := by decide +kernel
theorem dX11_law_39 : decode cX11_law 39 = .ok (.invokestatic 93, 3) := by decide +kernel
theorem dX11_law_42 : decode cX11_law 42 = .ok (.ifCond .ne 5, 3) := by decide +kernel
theorem dX11_law_45 : decode cX11_law 45 = .ok (.iconst (-1), 1) := by decide +kernel
theorem dX11_law_46 : decode cX11_law 46 = .ok (.ireturn, 1) := by decide +kernel
theorem dX11_law_47 : decode cX11_law 47 = .ok (.aload_n 0, 1) := by decide +kernel
theorem dX11_law_48 : decode cX11_law 48 = .ok (.getfield 29, 3) := by decide +kernel
theorem dX11_law_51 : decode cX11_law 51 = .ok (.invokevirtual 194, 3) := by decide +kernel
theorem dX11_law_54 : decode cX11_law 54 = .ok (.istore_n 3, 1) := by decide +kernel
theorem dX11_law_55 : decode cX11_law 55 = .ok (.aload_n 0, 1) := by decide +kernel
theorem dX11_law_56 : decode cX11_law 56 = .ok (.getfield 29, 3) := by decide +kernel
theorem dX11_law_59 : decode cX11_law 59 = .ok (.iconst 0, 1) := by decide +kernel
theorem dX11_law_60 : decode cX11_law 60 = .ok (.putfield 188, 3) := by decide +kernel
theorem dX11_law_63 : decode cX11_law 63 = .ok (.iload_n 3, 1) := by decide +kernel
theorem dX11_law_64 : decode cX11_law 64 = .ok (.ifCond .eq 8, 3) := by decide +kernel
theorem dX11_law_67 : decode cX11_law 67 = .ok (.bipush (-2), 2) := by decide +kernel
theorem dX11_law_69 : decode cX11_law 69 = .ok (.iload_n 3, 1) := by decide +kernel
theorem dX11_law_70 : decode cX11_law 70 = .ok (.isub, 1) := by decide +kernel
theorem dX11_law_71 : decode cX11_law 71 = .ok (.ireturn, 1) := by decide +kernel
theorem dX11_law_72 : decode cX11_law 72 = .ok (.iload_n 1, 1) := by decide +kernel
theorem dX11_law_73 : decode cX11_law 73 = .ok (.ifCond .ne 10, 3) := by decide +kernel
theorem dX11_law_76 : decode cX11_law 76 = .ok (.aload_n 0, 1) := by decide +kernel
theorem dX11_law_77 : decode cX11_law 77 = .ok (.getfield 75, 3) := by decide +kernel
theorem dX11_law_80 : decode cX11_law 80 = .ok (.goto 13, 3) := by decide +kernel
theorem dX11_law_83 : decode cX11_law 83 = .ok (.iload_n 1, 1) := by decide +kernel
theorem dX11_law_84 : decode cX11_law 84 = .ok (.iconst 1, 1) := by decide +kernel
theorem dX11_law_85 : decode cX11_law 85 = .ok (.if_icmp .ne 7, 3) := by decide +kernel
theorem dX11_law_88 : decode cX11_law 88 = .ok (.iload_n 2, 1) := by decide +kernel
theorem dX11_law_89 : decode cX11_law 89 = .ok (.goto 4, 3) := by decide +kernel
theorem dX11_law_92 : decode cX11_law 92 = .ok (.iconst (-1), 1) := by decide +kernel
theorem dX11_law_93 : decode cX11_law 93 = .ok (.istore 4, 2) := by decide +kernel
theorem dX11_law_95 : decode cX11_law 95 = .ok (.aload_n 0, 1) := by decide +kernel
theorem dX11_law_96 : decode cX11_law 96 = .ok (.getfield 36, 3) := by decide +kernel
theorem dX11_law_99 : decode cX11_law 99 = .ok (.getfield 191, 3) := by decide +kernel
theorem dX11_law_102 : decode cX11_law 102 = .ok (.aload_n 0, 1) := by decide +kernel
theorem dX11_law_103 : decode cX11_law 103 = .ok (.getfield 29, 3) := by decide +kernel
theorem dX11_law_106 : decode cX11_law 106 = .ok (.iload_n 1, 1) := by decide +kernel
theorem dX11_law_107 : decode cX11_law 107 = .ok (.iload 4, 2) := by decide +kernel
theorem dX11_law_109 : decode cX11_law 109 = .ok (.aload_n 0, 1) := by decide +kernel
theorem dX11_law_110 : decode cX11_law 110 = .ok (.getfield 75, 3) := by decide +kernel
theorem dX11_law_113 : decode cX11_law 113 = .ok (.invokevirtual 197, 3) := by decide +kernel
theorem dX11_law_116 : decode cX11_law 116 = .ok (.invokevirtual 103, 3) := by decide +kernel
theorem dX11_law_119 : decode cX11_law 119 = .ok (.pop, 1) := by decide +kernel
theorem dX11_law_120 : decode cX11_law 120 = .ok (.aload_n 0, 1) := by decide +kernel
theorem dX11_law_121 : decode cX11_law 121 = .ok (.getfield 36, 3) := by decide +kernel
theorem dX11_law_124 : decode cX11_law 124 = .ok (.getfield 191, 3) := by decide +kernel
theorem dX11_law_127 : decode cX11_law 127 = .ok (.invokevirtual 89, 3) := by decide +kernel
theorem dX11_law_130 : decode cX11_law 130 = .ok (.iconst 1, 1) := by decide +kernel
theorem dX11_law_131 : decode cX11_law 131 = .ok (.isub, 1) := by decide +kernel
theorem dX11_law_132 : decode cX11_law 132 = .ok (.ireturn, 1) := by decide +kernel
theorem dX11_read_0 : decode cX11_read 0 = .ok (.aload_n 0, 1) := by decide +kernel
theorem dX11_read_1 : decode cX11_read 1 = .ok (.getfield 36, 3) := by decide +kernel
theorem dX11_read_4 : decode cX11_read 4 = .ok (.iload_n 1, 1) := by decide +kernel
theorem dX11_read_5 : decode cX11_read 5 = .ok (.invokevirtual 201, 3) := by decide +kernel
theorem dX11_read_8 : decode cX11_read 8 = .ok (.astore_n 2, 1) := by decide +kernel
theorem dX11_read_9 : decode cX11_read 9 = .ok (.aload_n 2, 1) := by decide +kernel
theorem dX11_read_10 : decode cX11_read 10 = .ok (.ifnull 19, 3) := by decide +kernel
theorem dX11_read_13 : decode cX11_read 13 = .ok (.aload_n 2, 1) := by decide +kernel
theorem dX11_read_14 : decode cX11_read 14 = .ok (.getfield 205, 3) := by decide +kernel
theorem dX11_read_17 : decode cX11_read 17 = .ok (.iconst 2, 1) := by decide +kernel
theorem dX11_read_18 : decode cX11_read 18 = .ok (.if_icmp .ne 11, 3) := by decide +kernel
theorem dX11_read_21 : decode cX11_read 21 = .ok (.aload_n 2, 1) := by decide +kernel
theorem dX11_read_22 : decode cX11_read 22 = .ok (.getfield 210, 3) := by decide +kernel
theorem dX11_read_25 : decode cX11_read 25 = .ok (.iconst (-1), 1) := by decide +kernel
theorem dX11_read_26 : decode cX11_read 26 = .ok (.if_icmp .eq 5, 3) := by decide +kernel
theorem dX11_read_29 : decode cX11_read 29 = .ok (.iconst 0, 1) := by decide +kernel
theorem dX11_read_30 : decode cX11_read 30 = .ok (.ireturn, 1) := by decide +kernel
theorem dX11_read_31 : decode cX11_read 31 = .ok (.aload_n 2, 1) := by decide +kernel
theorem dX11_read_32 : decode cX11_read 32 = .ok (.aload_n 0, 1) := by decide +kernel
theorem dX11_read_33 : decode cX11_read 33 = .ok (.getfield 75, 3) := by decide +kernel
theorem dX11_read_36 : decode cX11_read 36 = .ok (.putfield 210, 3) := by decide +kernel
theorem dX11_read_39 : decode cX11_read 39 = .ok (.iconst 1, 1) := by decide +kernel
theorem dX11_read_40 : decode cX11_read 40 = .ok (.ireturn, 1) := by decide +kernel
theorem dX11_laws_0 : decode cX11_laws 0 = .ok (.aload_n 0, 1) := by decide +kernel
theorem dX11_laws_1 : decode cX11_laws 1 = .ok (.getfield 36, 3) := by decide +kernel
theorem dX11_laws_4 : decode cX11_laws 4 = .ok (.iload_n 1, 1) := by decide +kernel
theorem dX11_laws_5 : decode cX11_laws 5 = .ok (.invokevirtual 201, 3) := by decide +kernel
theorem dX11_laws_8 : decode cX11_laws 8 = .ok (.astore_n 3, 1) := by decide +kernel
theorem dX11_laws_9 : decode cX11_laws 9 = .ok (.aload_n 3, 1) := by decide +kernel
theorem dX11_laws_10 : decode cX11_laws 10 = .ok (.ifnonnull 5, 3) := by decide +kernel
theorem dX11_laws_13 : decode cX11_laws 13 = .ok (.iconst (-1), 1) := by decide +kernel
theorem dX11_laws_14 : decode cX11_laws 14 = .ok (.ireturn, 1) := by decide +kernel
theorem dX11_laws_15 : decode cX11_laws 15 = .ok (.iload_n 2, 1) := by decide +kernel
theorem dX11_laws_16 : decode cX11_laws 16 = .ok (.tableswitch 53 0 3 #[32, 37, 43, 48], 32) := by decide +kernel
theorem dX11_laws_48 : decode cX11_laws 48 = .ok (.aload_n 3, 1) := by decide +kernel
theorem dX11_laws_49 : decode cX11_laws 49 = .ok (.getfield 205, 3) := by decide +kernel
theorem dX11_laws_52 : decode cX11_laws 52 = .ok (.ireturn, 1) := by decide +kernel
theorem dX11_laws_53 : decode cX11_laws 53 = .ok (.aload_n 3, 1) := by decide +kernel
theorem dX11_laws_54 : decode cX11_laws 54 = .ok (.getfield 213, 3) := by decide +kernel
theorem dX11_laws_57 : decode cX11_laws 57 = .ok (.arraylength, 1) := by decide +kernel
theorem dX11_laws_58 : decode cX11_laws 58 = .ok (.ireturn, 1) := by decide +kernel
theorem dX11_laws_59 : decode cX11_laws 59 = .ok (.aload_n 3, 1) := by decide +kernel
theorem dX11_laws_60 : decode cX11_laws 60 = .ok (.getfield 210, 3) := by decide +kernel
theorem dX11_laws_63 : decode cX11_laws 63 = .ok (.ireturn, 1) := by decide +kernel
theorem dX11_laws_64 : decode cX11_laws 64 = .ok (.aload_n 3, 1) := by decide +kernel
theorem dX11_laws_65 : decode cX11_laws 65 = .ok (.getfield 216, 3) := by decide +kernel
theorem dX11_laws_68 : decode cX11_laws 68 = .ok (.ireturn, 1) := by decide +kernel
theorem dX11_laws_69 : decode cX11_laws 69 = .ok (.iconst (-1), 1) := by decide +kernel
