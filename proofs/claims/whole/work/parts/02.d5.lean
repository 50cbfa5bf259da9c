theorem dX12_bars_29 : decode cX12_bars 29 = .ok (.getfield 155, 3) := by decide +kernel
theorem dX12_bars_32 : decode cX12_bars 32 = .ok (.iload_n 1, 1) := by decide +kernel
theorem dX12_bars_33 : decode cX12_bars 33 = .ok (.iaload, 1) := by decide +kernel
theorem dX12_bars_34 : decode cX12_bars 34 = .ok (.iconst 1, 1) := by decide +kernel
theorem dX12_bars_35 : decode cX12_bars 35 = .ok (.iadd, 1) := by decide +kernel
theorem dX12_bars_36 : decode cX12_bars 36 = .ok (.i2l, 1) := by decide +kernel
theorem dX12_bars_37 : decode cX12_bars 37 = .ok (.lmul, 1) := by decide +kernel
theorem dX12_bars_38 : decode cX12_bars 38 = .ok (.lcmp, 1) := by decide +kernel
theorem dX12_bars_39 : decode cX12_bars 39 = .ok (.ifCond .le 7, 3) := by decide +kernel
theorem dX12_bars_42 : decode cX12_bars 42 = .ok (.iconst 1, 1) := by decide +kernel
theorem dX12_bars_43 : decode cX12_bars 43 = .ok (.goto 4, 3) := by decide +kernel
theorem dX12_bars_46 : decode cX12_bars 46 = .ok (.iconst 0, 1) := by decide +kernel
theorem dX12_bars_47 : decode cX12_bars 47 = .ok (.ireturn, 1) := by decide +kernel
theorem dX12_spans_0 : decode cX12_spans 0 = .ok (.aload_n 0, 1) := by decide +kernel
theorem dX12_spans_1 : decode cX12_spans 1 = .ok (.lconst 0, 1) := by decide +kernel
theorem dX12_spans_2 : decode cX12_spans 2 = .ok (.putfield 513, 3) := by decide +kernel
theorem dX12_spans_5 : decode cX12_spans 5 = .ok (.aload_n 0, 1) := by decide +kernel
theorem dX12_spans_6 : decode cX12_spans 6 = .ok (.lconst 1, 1) := by decide +kernel
theorem dX12_spans_7 : decode cX12_spans 7 = .ok (.putfield 517, 3) := by decide +kernel
theorem dX12_spans_10 : decode cX12_spans 10 = .ok (.aload_n 0, 1) := by decide +kernel
theorem dX12_spans_11 : decode cX12_spans 11 = .ok (.lconst 1, 1) := by decide +kernel
theorem dX12_spans_12 : decode cX12_spans 12 = .ok (.putfield 520, 3) := by decide +kernel
theorem dX12_spans_15 : decode cX12_spans 15 = .ok (.aload_n 0, 1) := by decide +kernel
theorem dX12_spans_16 : decode cX12_spans 16 = .ok (.lconst 0, 1) := by decide +kernel
theorem dX12_spans_17 : decode cX12_spans 17 = .ok (.putfield 523, 3) := by decide +kernel
theorem dX12_spans_20 : decode cX12_spans 20 = .ok (.aload_n 0, 1) := by decide +kernel
theorem dX12_spans_21 : decode cX12_spans 21 = .ok (.iconst (-1), 1) := by decide +kernel
theorem dX12_spans_22 : decode cX12_spans 22 = .ok (.putfield 526, 3) := by decide +kernel
theorem dX12_spans_25 : decode cX12_spans 25 = .ok (.aload_n 0, 1) := by decide +kernel
theorem dX12_spans_26 : decode cX12_spans 26 = .ok (.iconst (-1), 1) := by decide +kernel
theorem dX12_spans_27 : decode cX12_spans 27 = .ok (.putfield 529, 3) := by decide +kernel
theorem dX12_spans_30 : decode cX12_spans 30 = .ok (.iconst 0, 1) := by decide +kernel
theorem dX12_spans_31 : decode cX12_spans 31 = .ok (.istore_n 3, 1) := by decide +kernel
theorem dX12_spans_32 : decode cX12_spans 32 = .ok (.iconst 0, 1) := by decide +kernel
theorem dX12_spans_33 : decode cX12_spans 33 = .ok (.istore 4, 2) := by decide +kernel
theorem dX12_spans_35 : decode cX12_spans 35 = .ok (.iload 4, 2) := by decide +kernel
theorem dX12_spans_37 : decode cX12_spans 37 = .ok (.aload_n 0, 1) := by decide +kernel
theorem dX12_spans_38 : decode cX12_spans 38 = .ok (.getfield 510, 3) := by decide +kernel
theorem dX12_spans_41 : decode cX12_spans 41 = .ok (.if_icmp .ge 210, 3) := by decide +kernel
theorem dX12_spans_44 : decode cX12_spans 44 = .ok (.aload_n 0, 1) := by decide +kernel
theorem dX12_spans_45 : decode cX12_spans 45 = .ok (.iload 4, 2) := by decide +kernel
theorem dX12_spans_47 : decode cX12_spans 47 = .ok (.iload_n 1, 1) := by decide +kernel
theorem dX12_spans_48 : decode cX12_spans 48 = .ok (.iload_n 2, 1) := by decide +kernel
theorem dX12_spans_49 : decode cX12_spans 49 = .ok (.invokevirtual 532, 3) := by decide +kernel
theorem dX12_spans_52 : decode cX12_spans 52 = .ok (.ifCond .ne 6, 3) := by decide +kernel
theorem dX12_spans_55 : decode cX12_spans 55 = .ok (.goto 190, 3) := by decide +kernel
theorem dX12_spans_58 : decode cX12_spans 58 = .ok (.aload_n 0, 1) := by decide +kernel
theorem dX12_spans_59 : decode cX12_spans 59 = .ok (.getfield 158, 3) := by decide +kernel
theorem dX12_spans_62 : decode cX12_spans 62 = .ok (.iload 4, 2) := by decide +kernel
theorem dX12_spans_64 : decode cX12_spans 64 = .ok (.iaload, 1) := by decide +kernel
theorem dX12_spans_65 : decode cX12_spans 65 = .ok (.iconst 1, 1) := by decide +kernel
theorem dX12_spans_66 : decode cX12_spans 66 = .ok (.isub, 1) := by decide +kernel
theorem dX12_spans_67 : decode cX12_spans 67 = .ok (.i2l, 1) := by decide +kernel
theorem dX12_spans_68 : decode cX12_spans 68 = .ok (.lstore 5, 2) := by decide +kernel
theorem dX12_spans_70 : decode cX12_spans 70 = .ok (.aload_n 0, 1) := by decide +kernel
theorem dX12_spans_71 : decode cX12_spans 71 = .ok (.getfield 155, 3) := by decide +kernel
theorem dX12_spans_74 : decode cX12_spans 74 = .ok (.iload 4, 2) := by decide +kernel
theorem dX12_spans_76 : decode cX12_spans 76 = .ok (.iaload, 1) := by decide +kernel
theorem dX12_spans_77 : decode cX12_spans 77 = .ok (.iconst 1, 1) := by decide +kernel
theorem dX12_spans_78 : decode cX12_spans 78 = .ok (.iadd, 1) := by decide +kernel
theorem dX12_spans_79 : decode cX12_spans 79 = .ok (.i2l, 1) := by decide +kernel
theorem dX12_spans_80 : decode cX12_spans 80 = .ok (.lstore 7, 2) := by decide +kernel
theorem dX12_spans_82 : decode cX12_spans 82 = .ok (.aload_n 0, 1) := by decide +kernel
theorem dX12_spans_83 : decode cX12_spans 83 = .ok (.getfield 158, 3) := by decide +kernel
theorem dX12_spans_86 : decode cX12_spans 86 = .ok (.iload 4, 2) := by decide +kernel
theorem dX12_spans_88 : decode cX12_spans 88 = .ok (.iaload, 1) := by decide +kernel
theorem dX12_spans_89 : decode cX12_spans 89 = .ok (.iconst 1, 1) := by decide +kernel
theorem dX12_spans_90 : decode cX12_spans 90 = .ok (.iadd, 1) := by decide +kernel
theorem dX12_spans_91 : decode cX12_spans 91 = .ok (.i2l, 1) := by decide +kernel
theorem dX12_spans_92 : decode cX12_spans 92 = .ok (.lstore 9, 2) := by decide +kernel
theorem dX12_spans_94 : decode cX12_spans 94 = .ok (.aload_n 0, 1) := by decide +kernel
theorem dX12_spans_95 : decode cX12_spans 95 = .ok (.getfield 155, 3) := by decide +kernel
theorem dX12_spans_98 : decode cX12_spans 98 = .ok (.iload 4, 2) := by decide +kernel
theorem dX12_spans_100 : decode cX12_spans 100 = .ok (.iaload, 1) := by decide +kernel
theorem dX12_spans_101 : decode cX12_spans 101 = .ok (.iconst 1, 1) := by decide +kernel
theorem dX12_spans_102 : decode cX12_spans 102 = .ok (.isub, 1) := by decide +kernel
theorem dX12_spans_103 : decode cX12_spans 103 = .ok (.i2l, 1) := by decide +kernel
theorem dX12_spans_104 : decode cX12_spans 104 = .ok (.lstore 11, 2) := by decide +kernel
theorem dX12_spans_106 : decode cX12_spans 106 = .ok (.iload_n 3, 1) := by decide +kernel
theorem dX12_spans_107 : decode cX12_spans 107 = .ok (.ifCond .eq 21, 3) := by decide +kernel
theorem dX12_spans_110 : decode cX12_spans 110 = .ok (.lload 5, 2) := by decide +kernel
theorem dX12_spans_112 : decode cX12_spans 112 = .ok (.aload_n 0, 1) := by decide +kernel
theorem dX12_spans_113 : decode cX12_spans 113 = .ok (.getfield 517, 3) := by decide +kernel
theorem dX12_spans_116 : decode cX12_spans 116 = .ok (.lmul, 1) := by decide +kernel
theorem dX12_spans_117 : decode cX12_spans 117 = .ok (.aload_n 0, 1) := by decide +kernel
theorem dX12_spans_118 : decode cX12_spans 118 = .ok (.getfield 513, 3) := by decide +kernel
theorem dX12_spans_121 : decode cX12_spans 121 = .ok (.lload 7, 2) := by decide +kernel
theorem dX12_spans_123 : decode cX12_spans 123 = .ok (.lmul, 1) := by decide +kernel
theorem dX12_spans_124 : decode cX12_spans 124 = .ok (.lcmp, 1) := by decide +kernel
theorem dX12_spans_125 : decode cX12_spans 125 = .ok (.ifCond .le 15, 3) := by decide +kernel
theorem dX12_spans_128 : decode cX12_spans 128 = .ok (.aload_n 0, 1) := by decide +kernel
theorem dX12_spans_129 : decode cX12_spans 129 = .ok (.lload 5, 2) := by decide +kernel
theorem dX12_spans_131 : decode cX12_spans 131 = .ok (.putfield 513, 3) := by decide +kernel
theorem dX12_spans_134 : decode cX12_spans 134 = .ok (.aload_n 0, 1) := by decide +kernel
theorem dX12_spans_135 : decode cX12_spans 135 = .ok (.lload 7, 2) := by decide +kernel
theorem dX12_spans_137 : decode cX12_spans 137 = .ok (.putfield 517, 3) := by decide +kernel
theorem dX12_spans_140 : decode cX12_spans 140 = .ok (.iload_n 3, 1) := by decide +kernel
theorem dX12_spans_141 : decode cX12_spans 141 = .ok (.ifCond .eq 21, 3) := by decide +kernel
theorem dX12_spans_144 : decode cX12_spans 144 = .ok (.lload 9, 2) := by decide +kernel
theorem dX12_spans_146 : decode cX12_spans 146 = .ok (.aload_n 0, 1) := by decide +kernel
theorem dX12_spans_147 : decode cX12_spans 147 = .ok (.getfield 523, 3) := by decide +kernel
theorem dX12_spans_150 : decode cX12_spans 150 = .ok (.lmul, 1) := by decide +kernel
theorem dX12_spans_151 : decode cX12_spans 151 = .ok (.aload_n 0, 1) := by decide +kernel
theorem dX12_spans_152 : decode cX12_spans 152 = .ok (.getfield 520, 3) := by decide +kernel
theorem dX12_spans_155 : decode cX12_spans 155 = .ok (.lload 11, 2) := by decide +kernel
theorem dX12_spans_157 : decode cX12_spans 157 = .ok (.lmul, 1) := by decide +kernel
theorem dX12_spans_158 : decode cX12_spans 158 = .ok (.lcmp, 1) := by decide +kernel
theorem dX12_spans_159 : decode cX12_spans 159 = .ok (.ifCond .ge 15, 3) := by decide +kernel
theorem dX12_spans_162 : decode cX12_spans 162 = .ok (.aload_n 0, 1) := by decide +kernel
theorem dX12_spans_163 : decode cX12_spans 163 = .ok (.lload 9, 2) := by decide +kernel
theorem dX12_spans_165 : decode cX12_spans 165 = .ok (.putfield 520, 3) := by decide +kernel
theorem dX12_spans_168 : decode cX12_spans 168 = .ok (.aload_n 0, 1) := by decide +kernel
theorem dX12_spans_169 : decode cX12_spans 169 = .ok (.lload 11, 2) := by decide +kernel
theorem dX12_spans_171 : decode cX12_spans 171 = .ok (.putfield 523, 3) := by decide +kernel
theorem dX12_spans_174 : decode cX12_spans 174 = .ok (.iconst 1, 1) := by decide +kernel
theorem dX12_spans_175 : decode cX12_spans 175 = .ok (.istore_n 3, 1) := by decide +kernel
theorem dX12_spans_176 : decode cX12_spans 176 = .ok (.iconst 0, 1) := by decide +kernel
theorem dX12_spans_177 : decode cX12_spans 177 = .ok (.istore 13, 2) := by decide +kernel
theorem dX12_spans_179 : decode cX12_spans 179 = .ok (.iload 13, 2) := by decide +kernel
theorem dX12_spans_181 : decode cX12_spans 181 = .ok (.iload 4, 2) := by decide +kernel
theorem dX12_spans_183 : decode cX12_spans 183 = .ok (.if_icmp .ge 62, 3) := by decide +kernel
theorem dX12_spans_186 : decode cX12_spans 186 = .ok (.aload_n 0, 1) := by decide +kernel
theorem dX12_spans_187 : decode cX12_spans 187 = .ok (.getfield 529, 3) := by decide +kernel
theorem dX12_spans_190 : decode cX12_spans 190 = .ok (.iconst (-1), 1) := by decide +kernel
theorem dX12_spans_191 : decode cX12_spans 191 = .ok (.if_icmp .ne 54, 3) := by decide +kernel
theorem dX12_spans_194 : decode cX12_spans 194 = .ok (.aload_n 0, 1) := by decide +kernel
theorem dX12_spans_195 : decode cX12_spans 195 = .ok (.iload 13, 2) := by decide +kernel
theorem dX12_spans_197 : decode cX12_spans 197 = .ok (.iload_n 1, 1) := by decide +kernel
theorem dX12_spans_198 : decode cX12_spans 198 = .ok (.iload_n 2, 1) := by decide +kernel
theorem dX12_spans_199 : decode cX12_spans 199 = .ok (.invokevirtual 532, 3) := by decide +kernel
theorem dX12_spans_202 : decode cX12_spans 202 = .ok (.ifCond .eq 37, 3) := by decide +kernel
theorem dX12_spans_205 : decode cX12_spans 205 = .ok (.aload_n 0, 1) := by decide +kernel
theorem dX12_spans_206 : decode cX12_spans 206 = .ok (.iload 13, 2) := by decide +kernel
theorem dX12_spans_208 : decode cX12_spans 208 = .ok (.iload 4, 2) := by decide +kernel
theorem dX12_spans_210 : decode cX12_spans 210 = .ok (.invokevirtual 535, 3) := by decide +kernel
theorem dX12_spans_213 : decode cX12_spans 213 = .ok (.ifCond .ne 14, 3) := by decide +kernel
theorem dX12_spans_216 : decode cX12_spans 216 = .ok (.aload_n 0, 1) := by decide +kernel
theorem dX12_spans_217 : decode cX12_spans 217 = .ok (.iload 4, 2) := by decide +kernel
theorem dX12_spans_219 : decode cX12_spans 219 = .ok (.iload 13, 2) := by decide +kernel
theorem dX12_spans_221 : decode cX12_spans 221 = .ok (.invokevirtual 535, 3) := by decide +kernel
theorem dX12_spans_224 : decode cX12_spans 224 = .ok (.ifCond .eq 15, 3) := by decide +kernel
theorem dX12_spans_227 : decode cX12_spans 227 = .ok (.aload_n 0, 1) := by decide +kernel
theorem dX12_spans_228 : decode cX12_spans 228 = .ok (.iload 13, 2) := by decide +kernel
theorem dX12_spans_230 : decode cX12_spans 230 = .ok (.putfield 526, 3) := by decide +kernel
theorem dX12_spans_233 : decode cX12_spans 233 = .ok (.aload_n 0, 1) := by decide +kernel
theorem dX12_spans_234 : decode cX12_spans 234 = .ok (.iload 4, 2) := by decide +kernel
theorem dX12_spans_236 : decode cX12_spans 236 = .ok (.putfield 529, 3) := by decide +kernel
theorem dX12_spans_239 : decode cX12_spans 239 = .ok (.iinc 13 1, 3) := by decide +kernel
theorem dX12_spans_242 : decode cX12_spans 242 = .ok (.goto (-63), 3) := by decide +kernel
theorem dX12_spans_245 : decode cX12_spans 245 = .ok (.iinc 4 1, 3) := by decide +kernel
theorem dX12_spans_248 : decode cX12_spans 248 = .ok (.goto (-213), 3) := by decide +kernel
theorem dX12_spans_251 : decode cX12_spans 251 = .ok (.return_, 1) := by decide +kernel
theorem dX12_span_0 : decode cX12_span 0 = .ok (.iload_n 1, 1) := by decide +kernel
theorem dX12_span_1 : decode cX12_span 1 = .ok (.iconst 0, 1) := by decide +kernel
theorem dX12_span_2 : decode cX12_span 2 = .ok (.bipush 7, 2) := by decide +kernel
theorem dX12_span_4 : decode cX12_span 4 = .ok (.invokestatic 269, 3) := by decide +kernel
theorem dX12_span_7 : decode cX12_span 7 = .ok (.ifCond .eq 19, 3) := by decide +kernel
theorem dX12_span_10 : decode cX12_span 10 = .ok (.iload_n 2, 1) := by decide +kernel
theorem dX12_span_11 : decode cX12_span 11 = .ok (.invokestatic 451, 3) := by decide +kernel
theorem dX12_span_14 : decode cX12_span 14 = .ok (.ifCond .eq 12, 3) := by decide +kernel
theorem dX12_span_17 : decode cX12_span 17 = .ok (.iload_n 3, 1) := by decide +kernel
theorem dX12_span_18 : decode cX12_span 18 = .ok (.iconst 0, 1) := by decide +kernel
theorem dX12_span_19 : decode cX12_span 19 = .ok (.iconst 5, 1) := by decide +kernel
theorem dX12_span_20 : decode cX12_span 20 = .ok (.invokestatic 269, 3) := by decide +kernel
theorem dX12_span_23 : decode cX12_span 23 = .ok (.ifCond .ne 5, 3) := by decide +kernel
theorem dX12_span_26 : decode cX12_span 26 = .ok (.iconst (-1), 1) := by decide +kernel
theorem dX12_span_27 : decode cX12_span 27 = .ok (.ireturn, 1) := by decide +kernel
theorem dX12_span_28 : decode cX12_span 28 = .ok (.aload_n 0, 1) := by decide +kernel
theorem dX12_span_29 : decode cX12_span 29 = .ok (.iload_n 1, 1) := by decide +kernel
theorem dX12_span_30 : decode cX12_span 30 = .ok (.iload_n 2, 1) := by decide +kernel
theorem dX12_span_31 : decode cX12_span 31 = .ok (.invokevirtual 539, 3) := by decide +kernel
theorem dX12_span_34 : decode cX12_span 34 = .ok (.iload_n 3, 1) := by decide +kernel
theorem dX12_span_35 : decode cX12_span 35 = .ok (.tableswitch 62 0 4 #[33, 39, 45, 51, 57], 33) := by decide +kernel
theorem dX12_span_68 : decode cX12_span 68 = .ok (.aload_n 0, 1) := by decide +kernel
theorem dX12_span_69 : decode cX12_span 69 = .ok (.getfield 513, 3) := by decide +kernel
theorem dX12_span_72 : decode cX12_span 72 = .ok (.l2i, 1) := by decide +kernel
theorem dX12_span_73 : decode cX12_span 73 = .ok (.ireturn, 1) := by decide +kernel
theorem dX12_span_74 : decode cX12_span 74 = .ok (.aload_n 0, 1) := by decide +kernel
theorem dX12_span_75 : decode cX12_span 75 = .ok (.getfield 517, 3) := by decide +kernel
theorem dX12_span_78 : decode cX12_span 78 = .ok (.l2i, 1) := by decide +kernel
theorem dX12_span_79 : decode cX12_span 79 = .ok (.ireturn, 1) := by decide +kernel
theorem dX12_span_80 : decode cX12_span 80 = .ok (.aload_n 0, 1) := by decide +kernel
theorem dX12_span_81 : decode cX12_span 81 = .ok (.getfield 520, 3) := by decide +kernel
theorem dX12_span_84 : decode cX12_span 84 = .ok (.l2i, 1) := by decide +kernel
theorem dX12_span_85 : decode cX12_span 85 = .ok (.ireturn, 1) := by decide +kernel
theorem dX12_span_86 : decode cX12_span 86 = .ok (.aload_n 0, 1) := by decide +kernel
theorem dX12_span_87 : decode cX12_span 87 = .ok (.getfield 523, 3) := by decide +kernel
theorem dX12_span_90 : decode cX12_span 90 = .ok (.l2i, 1) := by decide +kernel
theorem dX12_span_91 : decode cX12_span 91 = .ok (.ireturn, 1) := by decide +kernel
theorem dX12_span_92 : decode cX12_span 92 = .ok (.aload_n 0, 1) := by decide +kernel
theorem dX12_span_93 : decode cX12_span 93 = .ok (.getfield 526, 3) := by decide +kernel
theorem dX12_span_96 : decode cX12_span 96 = .ok (.ireturn, 1) := by decide +kernel
theorem dX12_span_97 : decode cX12_span 97 = .ok (.aload_n 0, 1) := by decide +kernel
theorem dX12_span_98 : decode cX12_span 98 = .ok (.getfield 529, 3) := by decide +kernel
theorem dX12_span_101 : decode cX12_span 101 = .ok (.ireturn, 1) := by decide +kernel
theorem dX12_theirs_0 : decode cX12_theirs 0 = .ok (.iload_n 1, 1) := by decide +kernel
theorem dX12_theirs_1 : decode cX12_theirs 1 = .ok (.iconst 0, 1) := by decide +kernel
theorem dX12_theirs_2 : decode cX12_theirs 2 = .ok (.bipush 7, 2) := by decide +kernel
theorem dX12_theirs_4 : decode cX12_theirs 4 = .ok (.invokestatic 269, 3) := by decide +kernel
theorem dX12_theirs_7 : decode cX12_theirs 7 = .ok (.ifCond .eq 31, 3) := by decide +kernel
theorem dX12_theirs_10 : decode cX12_theirs 10 = .ok (.iload_n 2, 1) := by decide +kernel
theorem dX12_theirs_11 : decode cX12_theirs 11 = .ok (.iconst 0, 1) := by decide +kernel
theorem dX12_theirs_12 : decode cX12_theirs 12 = .ok (.ldc_w 279, 3) := by decide +kernel
theorem dX12_theirs_15 : decode cX12_theirs 15 = .ok (.invokestatic 269, 3) := by decide +kernel
theorem dX12_theirs_18 : decode cX12_theirs 18 = .ok (.ifCond .eq 20, 3) := by decide +kernel
theorem dX12_theirs_21 : decode cX12_theirs 21 = .ok (.iload_n 3, 1) := by decide +kernel
theorem dX12_theirs_22 : decode cX12_theirs 22 = .ok (.invokestatic 451, 3) := by decide +kernel
theorem dX12_theirs_25 : decode cX12_theirs 25 = .ok (.ifCond .eq 13, 3) := by decide +kernel
theorem dX12_theirs_28 : decode cX12_theirs 28 = .ok (.iload 4, 2) := by decide +kernel
theorem dX12_theirs_30 : decode cX12_theirs 30 = .ok (.iconst 0, 1) := by decide +kernel
theorem dX12_theirs_31 : decode cX12_theirs 31 = .ok (.iconst 1, 1) := by decide +kernel
theorem dX12_theirs_32 : decode cX12_theirs 32 = .ok (.invokestatic 269, 3) := by decide +kernel
theorem dX12_theirs_35 : decode cX12_theirs 35 = .ok (.ifCond .ne 5, 3) := by decide +kernel
theorem dX12_theirs_38 : decode cX12_theirs 38 = .ok (.iconst (-1), 1) := by decide +kernel
theorem dX12_theirs_39 : decode cX12_theirs 39 = .ok (.ireturn, 1) := by decide +kernel
theorem dX12_theirs_40 : decode cX12_theirs 40 = .ok (.aload_n 0, 1) := by decide +kernel
theorem dX12_theirs_41 : decode cX12_theirs 41 = .ok (.iload_n 1, 1) := by decide +kernel
theorem dX12_theirs_42 : decode cX12_theirs 42 = .ok (.iload_n 3, 1) := by decide +kernel
theorem dX12_theirs_43 : decode cX12_theirs 43 = .ok (.invokevirtual 539, 3) := by decide +kernel
theorem dX12_theirs_46 : decode cX12_theirs 46 = .ok (.aload_n 0, 1) := by decide +kernel
theorem dX12_theirs_47 : decode cX12_theirs 47 = .ok (.getfield 529, 3) := by decide +kernel
theorem dX12_theirs_50 : decode cX12_theirs 50 = .ok (.iconst (-1), 1) := by decide +kernel
theorem dX12_theirs_51 : decode cX12_theirs 51 = .ok (.if_icmp .eq 6, 3) := by decide +kernel
theorem dX12_theirs_54 : decode cX12_theirs 54 = .ok (.bipush (-2), 2) := by decide +kernel
theorem dX12_theirs_56 : decode cX12_theirs 56 = .ok (.ireturn, 1) := by decide +kernel
theorem dX12_theirs_57 : decode cX12_theirs 57 = .ok (.iload 4, 2) := by decide +kernel
theorem dX12_theirs_59 : decode cX12_theirs 59 = .ok (.ifCond .ne 36, 3) := by decide +kernel
theorem dX12_theirs_62 : decode cX12_theirs 62 = .ok (.iload_n 2, 1) := by decide +kernel
theorem dX12_theirs_63 : decode cX12_theirs 63 = .ok (.i2l, 1) := by decide +kernel
theorem dX12_theirs_64 : decode cX12_theirs 64 = .ok (.aload_n 0, 1) := by decide +kernel
theorem dX12_theirs_65 : decode cX12_theirs 65 = .ok (.getfield 513, 3) := by decide +kernel
theorem dX12_theirs_68 : decode cX12_theirs 68 = .ok (.lmul, 1) := by decide +kernel
theorem dX12_theirs_69 : decode cX12_theirs 69 = .ok (.aload_n 0, 1) := by decide +kernel
theorem dX12_theirs_70 : decode cX12_theirs 70 = .ok (.getfield 517, 3) := by decide +kernel
theorem dX12_theirs_73 : decode cX12_theirs 73 = .ok (.ldiv, 1) := by decide +kernel
theorem dX12_theirs_74 : decode cX12_theirs 74 = .ok (.lstore 5, 2) := by decide +kernel
theorem dX12_theirs_76 : decode cX12_theirs 76 = .ok (.lload 5, 2) := by decide +kernel
theorem dX12_theirs_78 : decode cX12_theirs 78 = .ok (.ldc2_w 542, 3) := by decide +kernel
theorem dX12_theirs_81 : decode cX12_theirs 81 = .ok (.lcmp, 1) := by decide +kernel
theorem dX12_theirs_82 : decode cX12_theirs 82 = .ok (.ifCond .le 9, 3) := by decide +kernel
theorem dX12_theirs_85 : decode cX12_theirs 85 = .ok (.ldc_w 544, 3) := by decide +kernel
theorem dX12_theirs_88 : decode cX12_theirs 88 = .ok (.goto 6, 3) := by decide +kernel
theorem dX12_theirs_91 : decode cX12_theirs 91 = .ok (.lload 5, 2) := by decide +kernel
theorem dX12_theirs_93 : decode cX12_theirs 93 = .ok (.l2i, 1) := by decide +kernel
theorem dX12_theirs_94 : decode cX12_theirs 94 = .ok (.ireturn, 1) := by decide +kernel
theorem dX12_theirs_95 : decode cX12_theirs 95 = .ok (.aload_n 0, 1) := by decide +kernel
theorem dX12_theirs_96 : decode cX12_theirs 96 = .ok (.getfield 523, 3) := by decide +kernel
theorem dX12_theirs_99 : decode cX12_theirs 99 = .ok (.lconst 0, 1) := by decide +kernel
theorem dX12_theirs_100 : decode cX12_theirs 100 = .ok (.lcmp, 1) := by decide +kernel
theorem dX12_theirs_101 : decode cX12_theirs 101 = .ok (.ifCond .ne 7, 3) := by decide +kernel
theorem dX12_theirs_104 : decode cX12_theirs 104 = .ok (.ldc_w 544, 3) := by decide +kernel
theorem dX12_theirs_107 : decode cX12_theirs 107 = .ok (.ireturn, 1) := by decide +kernel
theorem dX12_theirs_108 : decode cX12_theirs 108 = .ok (.iload_n 2, 1) := by decide +kernel
theorem dX12_theirs_109 : decode cX12_theirs 109 = .ok (.i2l, 1) := by decide +kernel
theorem dX12_theirs_110 : decode cX12_theirs 110 = .ok (.aload_n 0, 1) := by decide +kernel
theorem dX12_theirs_111 : decode cX12_theirs 111 = .ok (.getfield 520, 3) := by decide +kernel
theorem dX12_theirs_114 : decode cX12_theirs 114 = .ok (.lmul, 1) := by decide +kernel
theorem dX12_theirs_115 : decode cX12_theirs 115 = .ok (.aload_n 0, 1) := by decide +kernel
theorem dX12_theirs_116 : decode cX12_theirs 116 = .ok (.getfield 523, 3) := by decide +kernel
theorem dX12_theirs_119 : decode cX12_theirs 119 = .ok (.ladd, 1) := by decide +kernel
theorem dX12_theirs_120 : decode cX12_theirs 120 = .ok (.lconst 1, 1) := by decide +kernel
theorem dX12_theirs_121 : decode cX12_theirs 121 = .ok (.lsub, 1) := by decide +kernel
theorem dX12_theirs_122 : decode cX12_theirs 122 = .ok (.aload_n 0, 1) := by decide +kernel
theorem dX12_theirs_123 : decode cX12_theirs 123 = .ok (.getfield 523, 3) := by decide +kernel
theorem dX12_theirs_126 : decode cX12_theirs 126 = .ok (.ldiv, 1) := by decide +kernel
theorem dX12_theirs_127 : decode cX12_theirs 127 = .ok (.lstore 5, 2) := by decide +kernel
theorem dX12_theirs_129 : decode cX12_theirs 129 = .ok (.lload 5, 2) := by decide +kernel
theorem dX12_theirs_131 : decode cX12_theirs 131 = .ok (.ldc2_w 542, 3) := by decide +kernel
theorem dX12_theirs_134 : decode cX12_theirs 134 = .ok (.lcmp, 1) := by decide +kernel
theorem dX12_theirs_135 : decode cX12_theirs 135 = .ok (.ifCond .le 9, 3) := by decide +kernel
theorem dX12_theirs_138 : decode cX12_theirs 138 = .ok (.ldc_w 544, 3) := by decide +kernel
theorem dX12_theirs_141 : decode cX12_theirs 141 = .ok (.goto 6, 3) := by decide +kernel
theorem dX12_theirs_144 : decode cX12_theirs 144 = .ok (.lload 5, 2) := by decide +kernel
theorem dX12_theirs_146 : decode cX12_theirs 146 = .ok (.l2i, 1) := by decide +kernel
theorem dX12_theirs_147 : decode cX12_theirs 147 = .ok (.ireturn, 1) := by decide +kernel
theorem dX12_order_0 : decode cX12_order 0 = .ok (.iload_n 1, 1) := by decide +kernel
theorem dX12_order_1 : decode cX12_order 1 = .ok (.iconst 1, 1) := by decide +kernel
theorem dX12_order_2 : decode cX12_order 2 = .ok (.bipush 8, 2) := by decide +kernel
theorem dX12_order_4 : decode cX12_order 4 = .ok (.invokestatic 269, 3) := by decide +kernel
theorem dX12_order_7 : decode cX12_order 7 = .ok (.ifCond .eq 15, 3) := by decide +kernel
theorem dX12_order_10 : decode cX12_order 10 = .ok (.iload 4, 2) := by decide +kernel
theorem dX12_order_12 : decode cX12_order 12 = .ok (.iconst 1, 1) := by decide +kernel
theorem dX12_order_13 : decode cX12_order 13 = .ok (.sipush 400, 3) := by decide +kernel
theorem dX12_order_16 : decode cX12_order 16 = .ok (.invokestatic 269, 3) := by decide +kernel
theorem dX12_order_19 : decode cX12_order 19 = .ok (.ifCond .ne 5, 3) := by decide +kernel
theorem dX12_order_22 : decode cX12_order 22 = .ok (.iconst 0, 1) := by decide +kernel
theorem dX12_order_23 : decode cX12_order 23 = .ok (.ireturn, 1) := by decide +kernel
theorem dX12_order_24 : decode cX12_order 24 = .ok (.iconst 0, 1) := by decide +kernel
theorem dX12_order_25 : decode cX12_order 25 = .ok (.istore 5, 2) := by decide +kernel
theorem dX12_order_27 : decode cX12_order 27 = .ok (.iconst 0, 1) := by decide +kernel
theorem dX12_order_28 : decode cX12_order 28 = .ok (.istore 6, 2) := by decide +kernel
theorem dX12_order_30 : decode cX12_order 30 = .ok (.iload 6, 2) := by decide +kernel
theorem dX12_order_32 : decode cX12_order 32 = .ok (.iload_n 1, 1) := by decide +kernel
theorem dX12_order_33 : decode cX12_order 33 = .ok (.if_icmp .ge 51, 3) := by decide +kernel
theorem dX12_order_36 : decode cX12_order 36 = .ok (.lload_n 2, 1) := by decide +kernel
theorem dX12_order_37 : decode cX12_order 37 = .ok (.iconst 4, 1) := by decide +kernel
theorem dX12_order_38 : decode cX12_order 38 = .ok (.iload 6, 2) := by decide +kernel
theorem dX12_order_40 : decode cX12_order 40 = .ok (.imul, 1) := by decide +kernel
theorem dX12_order_41 : decode cX12_order 41 = .ok (.lshr, 1) := by decide +kernel
theorem dX12_order_42 : decode cX12_order 42 = .ok (.ldc2_w 545, 3) := by decide +kernel
theorem dX12_order_45 : decode cX12_order 45 = .ok (.land, 1) := by decide +kernel
theorem dX12_order_46 : decode cX12_order 46 = .ok (.l2i, 1) := by decide +kernel
theorem dX12_order_47 : decode cX12_order 47 = .ok (.istore 7, 2) := by decide +kernel
theorem dX12_order_49 : decode cX12_order 49 = .ok (.iload 7, 2) := by decide +kernel
theorem dX12_order_51 : decode cX12_order 51 = .ok (.bipush 8, 2) := by decide +kernel
theorem dX12_order_53 : decode cX12_order 53 = .ok (.if_icmp .ge 14, 3) := by decide +kernel
theorem dX12_order_56 : decode cX12_order 56 = .ok (.iload 5, 2) := by decide +kernel
theorem dX12_order_58 : decode cX12_order 58 = .ok (.iload 7, 2) := by decide +kernel
theorem dX12_order_60 : decode cX12_order 60 = .ok (.ishr, 1) := by decide +kernel
theorem dX12_order_61 : decode cX12_order 61 = .ok (.iconst 1, 1) := by decide +kernel
theorem dX12_order_62 : decode cX12_order 62 = .ok (.iand, 1) := by decide +kernel
theorem dX12_order_63 : decode cX12_order 63 = .ok (.iconst 1, 1) := by decide +kernel
theorem dX12_order_64 : decode cX12_order 64 = .ok (.if_icmp .ne 5, 3) := by decide +kernel
theorem dX12_order_67 : decode cX12_order 67 = .ok (.iconst 0, 1) := by decide +kernel
theorem dX12_order_68 : decode cX12_order 68 = .ok (.ireturn, 1) := by decide +kernel
theorem dX12_order_69 : decode cX12_order 69 = .ok (.iload 5, 2) := by decide +kernel
theorem dX12_order_71 : decode cX12_order 71 = .ok (.iconst 1, 1) := by decide +kernel
theorem dX12_order_72 : decode cX12_order 72 = .ok (.iload 7, 2) := by decide +kernel
theorem dX12_order_74 : decode cX12_order 74 = .ok (.ishl, 1) := by decide +kernel
theorem dX12_order_75 : decode cX12_order 75 = .ok (.ior, 1) := by decide +kernel
theorem dX12_order_76 : decode cX12_order 76 = .ok (.istore 5, 2) := by decide +kernel
theorem dX12_order_78 : decode cX12_order 78 = .ok (.iinc 6 1, 3) := by decide +kernel
theorem dX12_order_81 : decode cX12_order 81 = .ok (.goto (-51), 3) := by decide +kernel
theorem dX12_order_84 : decode cX12_order 84 = .ok (.aload_n 0, 1) := by decide +kernel
theorem dX12_order_85 : decode cX12_order 85 = .ok (.iload_n 1, 1) := by decide +kernel
theorem dX12_order_86 : decode cX12_order 86 = .ok (.putfield 167, 3) := by decide +kernel
theorem dX12_order_89 : decode cX12_order 89 = .ok (.aload_n 0, 1) := by decide +kernel
theorem dX12_order_90 : decode cX12_order 90 = .ok (.iload 4, 2) := by decide +kernel
theorem dX12_order_92 : decode cX12_order 92 = .ok (.putfield 170, 3) := by decide +kernel
theorem dX12_order_95 : decode cX12_order 95 = .ok (.iconst 0, 1) := by decide +kernel
theorem dX12_order_96 : decode cX12_order 96 = .ok (.istore 6, 2) := by decide +kernel
theorem dX12_order_98 : decode cX12_order 98 = .ok (.iload 6, 2) := by decide +kernel
theorem dX12_order_100 : decode cX12_order 100 = .ok (.iload_n 1, 1) := by decide +kernel
theorem dX12_order_101 : decode cX12_order 101 = .ok (.if_icmp .ge 27, 3) := by decide +kernel
theorem dX12_order_104 : decode cX12_order 104 = .ok (.aload_n 0, 1) := by decide +kernel
theorem dX12_order_105 : decode cX12_order 105 = .ok (.getfield 173, 3) := by decide +kernel
theorem dX12_order_108 : decode cX12_order 108 = .ok (.iload 6, 2) := by decide +kernel
theorem dX12_order_110 : decode cX12_order 110 = .ok (.lload_n 2, 1) := by decide +kernel
theorem dX12_order_111 : decode cX12_order 111 = .ok (.iconst 4, 1) := by decide +kernel
theorem dX12_order_112 : decode cX12_order 112 = .ok (.iload 6, 2) := by decide +kernel
theorem dX12_order_114 : decode cX12_order 114 = .ok (.imul, 1) := by decide +kernel
theorem dX12_order_115 : decode cX12_order 115 = .ok (.lshr, 1) := by decide +kernel
theorem dX12_order_116 : decode cX12_order 116 = .ok (.ldc2_w 545, 3) := by decide +kernel
theorem dX12_order_119 : decode cX12_order 119 = .ok (.land, 1) := by decide +kernel
theorem dX12_order_120 : decode cX12_order 120 = .ok (.l2i, 1) := by decide +kernel
theorem dX12_order_121 : decode cX12_order 121 = .ok (.iastore, 1) := by decide +kernel
theorem dX12_order_122 : decode cX12_order 122 = .ok (.iinc 6 1, 3) := by decide +kernel
theorem dX12_order_125 : decode cX12_order 125 = .ok (.goto (-27), 3) := by decide +kernel
theorem dX12_order_128 : decode cX12_order 128 = .ok (.iconst 1, 1) := by decide +kernel
theorem dX12_order_129 : decode cX12_order 129 = .ok (.ireturn, 1) := by decide +kernel
theorem dX12_elder_0 : decode cX12_elder 0 = .ok (.iload_n 1, 1) := by decide +kernel
theorem dX12_elder_1 : decode cX12_elder 1 = .ok (.invokestatic 451, 3) := by decide +kernel
theorem dX12_elder_4 : decode cX12_elder 4 = .ok (.ifCond .ne 5, 3) := by decide +kernel
theorem dX12_elder_7 : decode cX12_elder 7 = .ok (.iconst (-1), 1) := by decide +kernel
theorem dX12_elder_8 : decode cX12_elder 8 = .ok (.ireturn, 1) := by decide +kernel
theorem dX12_elder_9 : decode cX12_elder 9 = .ok (.iload_n 1, 1) := by decide +kernel
theorem dX12_elder_10 : decode cX12_elder 10 = .ok (.aload_n 0, 1) := by decide +kernel
theorem dX12_elder_11 : decode cX12_elder 11 = .ok (.getfield 170, 3) := by decide +kernel
theorem dX12_elder_14 : decode cX12_elder 14 = .ok (.idiv, 1) := by decide +kernel
theorem dX12_elder_15 : decode cX12_elder 15 = .ok (.istore_n 2, 1) := by decide +kernel
theorem dX12_elder_16 : decode cX12_elder 16 = .ok (.iload_n 2, 1) := by decide +kernel
theorem dX12_elder_17 : decode cX12_elder 17 = .ok (.aload_n 0, 1) := by decide +kernel
theorem dX12_elder_18 : decode cX12_elder 18 = .ok (.getfield 170, 3) := by decide +kernel
theorem dX12_elder_21 : decode cX12_elder 21 = .ok (.imul, 1) := by decide +kernel
theorem dX12_elder_22 : decode cX12_elder 22 = .ok (.istore_n 3, 1) := by decide +kernel
theorem dX12_elder_23 : decode cX12_elder 23 = .ok (.iconst 0, 1) := by decide +kernel
theorem dX12_elder_24 : decode cX12_elder 24 = .ok (.istore 4, 2) := by decide +kernel
theorem dX12_elder_26 : decode cX12_elder 26 = .ok (.iload 4, 2) := by decide +kernel
theorem dX12_elder_28 : decode cX12_elder 28 = .ok (.aload_n 0, 1) := by decide +kernel
theorem dX12_elder_29 : decode cX12_elder 29 = .ok (.getfield 167, 3) := by decide +kernel
theorem dX12_elder_32 : decode cX12_elder 32 = .ok (.if_icmp .ge 85, 3) := by decide +kernel
theorem dX12_elder_35 : decode cX12_elder 35 = .ok (.aload_n 0, 1) := by decide +kernel
theorem dX12_elder_36 : decode cX12_elder 36 = .ok (.getfield 173, 3) := by decide +kernel
theorem dX12_elder_39 : decode cX12_elder 39 = .ok (.iload_n 2, 1) := by decide +kernel
theorem dX12_elder_40 : decode cX12_elder 40 = .ok (.aload_n 0, 1) := by decide +kernel
theorem dX12_elder_41 : decode cX12_elder 41 = .ok (.getfield 167, 3) := by decide +kernel
theorem dX12_elder_44 : decode cX12_elder 44 = .ok (.irem, 1) := by decide +kernel
theorem dX12_elder_45 : decode cX12_elder 45 = .ok (.iload 4, 2) := by decide +kernel
theorem dX12_elder_47 : decode cX12_elder 47 = .ok (.iadd, 1) := by decide +kernel
theorem dX12_elder_48 : decode cX12_elder 48 = .ok (.aload_n 0, 1) := by decide +kernel
theorem dX12_elder_49 : decode cX12_elder 49 = .ok (.getfield 167, 3) := by decide +kernel
theorem dX12_elder_52 : decode cX12_elder 52 = .ok (.irem, 1) := by decide +kernel
theorem dX12_elder_53 : decode cX12_elder 53 = .ok (.iaload, 1) := by decide +kernel
theorem dX12_elder_54 : decode cX12_elder 54 = .ok (.istore 5, 2) := by decide +kernel
theorem dX12_elder_56 : decode cX12_elder 56 = .ok (.iconst 0, 1) := by decide +kernel
theorem dX12_elder_57 : decode cX12_elder 57 = .ok (.istore 6, 2) := by decide +kernel
theorem dX12_elder_59 : decode cX12_elder 59 = .ok (.iload 6, 2) := by decide +kernel
theorem dX12_elder_61 : decode cX12_elder 61 = .ok (.aload_n 0, 1) := by decide +kernel
theorem dX12_elder_62 : decode cX12_elder 62 = .ok (.getfield 276, 3) := by decide +kernel
theorem dX12_elder_65 : decode cX12_elder 65 = .ok (.if_icmp .ge 46, 3) := by decide +kernel
theorem dX12_elder_68 : decode cX12_elder 68 = .ok (.aload_n 0, 1) := by decide +kernel
theorem dX12_elder_69 : decode cX12_elder 69 = .ok (.getfield 9, 3) := by decide +kernel
theorem dX12_elder_72 : decode cX12_elder 72 = .ok (.iload 6, 2) := by decide +kernel
theorem dX12_elder_74 : decode cX12_elder 74 = .ok (.iaload, 1) := by decide +kernel
theorem dX12_elder_75 : decode cX12_elder 75 = .ok (.iload 5, 2) := by decide +kernel
theorem dX12_elder_77 : decode cX12_elder 77 = .ok (.if_icmp .ne 28, 3) := by decide +kernel
theorem dX12_elder_80 : decode cX12_elder 80 = .ok (.aload_n 0, 1) := by decide +kernel
theorem dX12_elder_81 : decode cX12_elder 81 = .ok (.getfield 16, 3) := by decide +kernel
theorem dX12_elder_84 : decode cX12_elder 84 = .ok (.iload 6, 2) := by decide +kernel
theorem dX12_elder_86 : decode cX12_elder 86 = .ok (.iaload, 1) := by decide +kernel
theorem dX12_elder_87 : decode cX12_elder 87 = .ok (.iload_n 3, 1) := by decide +kernel
theorem dX12_elder_88 : decode cX12_elder 88 = .ok (.if_icmp .gt 17, 3) := by decide +kernel
theorem dX12_elder_91 : decode cX12_elder 91 = .ok (.aload_n 0, 1) := by decide +kernel
theorem dX12_elder_92 : decode cX12_elder 92 = .ok (.getfield 19, 3) := by decide +kernel
theorem dX12_elder_95 : decode cX12_elder 95 = .ok (.iload 6, 2) := by decide +kernel
theorem dX12_elder_97 : decode cX12_elder 97 = .ok (.iaload, 1) := by decide +kernel
theorem dX12_elder_98 : decode cX12_elder 98 = .ok (.iload_n 3, 1) := by decide +kernel
theorem dX12_elder_99 : decode cX12_elder 99 = .ok (.if_icmp .le 6, 3) := by decide +kernel
theorem dX12_elder_102 : decode cX12_elder 102 = .ok (.iload 6, 2) := by decide +kernel
theorem dX12_elder_104 : decode cX12_elder 104 = .ok (.ireturn, 1) := by decide +kernel
theorem dX12_elder_105 : decode cX12_elder 105 = .ok (.iinc 6 1, 3) := by decide +kernel
theorem dX12_elder_108 : decode cX12_elder 108 = .ok (.goto (-49), 3) := by decide +kernel
theorem dX12_elder_111 : decode cX12_elder 111 = .ok (.iinc 4 1, 3) := by decide +kernel
theorem dX12_elder_114 : decode cX12_elder 114 = .ok (.goto (-88), 3) := by decide +kernel
theorem dX12_elder_117 : decode cX12_elder 117 = .ok (.iconst (-1), 1) := by decide +kernel
theorem dX12_elder_118 : decode cX12_elder 118 = .ok (.ireturn, 1) := by decide +kernel
theorem dX12_ship_0 : decode cX12_ship 0 = .ok (.aload_n 0, 1) := by decide +kernel
theorem dX12_ship_1 : decode cX12_ship 1 = .ok (.getfield 547, 3) := by decide +kernel
theorem dX12_ship_4 : decode cX12_ship 4 = .ok (.bipush 20, 2) := by decide +kernel
theorem dX12_ship_6 : decode cX12_ship 6 = .ok (.if_icmp .eq 49, 3) := by decide +kernel
theorem dX12_ship_9 : decode cX12_ship 9 = .ok (.iload_n 1, 1) := by decide +kernel
theorem dX12_ship_10 : decode cX12_ship 10 = .ok (.iconst 0, 1) := by decide +kernel
theorem dX12_ship_11 : decode cX12_ship 11 = .ok (.bipush 7, 2) := by decide +kernel
theorem dX12_ship_13 : decode cX12_ship 13 = .ok (.invokestatic 269, 3) := by decide +kernel
theorem dX12_ship_16 : decode cX12_ship 16 = .ok (.ifCond .eq 39, 3) := by decide +kernel
theorem dX12_ship_19 : decode cX12_ship 19 = .ok (.iload_n 2, 1) := by decide +kernel
theorem dX12_ship_20 : decode cX12_ship 20 = .ok (.aload_n 0, 1) := by decide +kernel
theorem dX12_ship_21 : decode cX12_ship 21 = .ok (.getfield 273, 3) := by decide +kernel
theorem dX12_ship_24 : decode cX12_ship 24 = .ok (.sipush 3999, 3) := by decide +kernel
theorem dX12_ship_27 : decode cX12_ship 27 = .ok (.invokestatic 269, 3) := by decide +kernel
theorem dX12_ship_30 : decode cX12_ship 30 = .ok (.ifCond .eq 25, 3) := by decide +kernel
theorem dX12_ship_33 : decode cX12_ship 33 = .ok (.iload_n 3, 1) := by decide +kernel
theorem dX12_ship_34 : decode cX12_ship 34 = .ok (.iconst 1, 1) := by decide +kernel
theorem dX12_ship_35 : decode cX12_ship 35 = .ok (.bipush 99, 2) := by decide +kernel
theorem dX12_ship_37 : decode cX12_ship 37 = .ok (.invokestatic 269, 3) := by decide +kernel
theorem dX12_ship_40 : decode cX12_ship 40 = .ok (.ifCond .eq 15, 3) := by decide +kernel
theorem dX12_ship_43 : decode cX12_ship 43 = .ok (.iload 4, 2) := by decide +kernel
theorem dX12_ship_45 : decode cX12_ship 45 = .ok (.iconst 1, 1) := by decide +kernel
theorem dX12_ship_46 : decode cX12_ship 46 = .ok (.ldc_w 279, 3) := by decide +kernel
theorem dX12_ship_49 : decode cX12_ship 49 = .ok (.invokestatic 269, 3) := by decide +kernel
theorem dX12_ship_52 : decode cX12_ship 52 = .ok (.ifCond .ne 5, 3) := by decide +kernel
theorem dX12_ship_55 : decode cX12_ship 55 = .ok (.iconst (-1), 1) := by decide +kernel
theorem dX12_ship_56 : decode cX12_ship 56 = .ok (.ireturn, 1) := by decide +kernel
theorem dX12_ship_57 : decode cX12_ship 57 = .ok (.aload_n 0, 1) := by decide +kernel
theorem dX12_ship_58 : decode cX12_ship 58 = .ok (.getfield 176, 3) := by decide +kernel
theorem dX12_ship_61 : decode cX12_ship 61 = .ok (.aload_n 0, 1) := by decide +kernel
theorem dX12_ship_62 : decode cX12_ship 62 = .ok (.getfield 547, 3) := by decide +kernel
theorem dX12_ship_65 : decode cX12_ship 65 = .ok (.iload_n 1, 1) := by decide +kernel
theorem dX12_ship_66 : decode cX12_ship 66 = .ok (.iastore, 1) := by decide +kernel
theorem dX12_ship_67 : decode cX12_ship 67 = .ok (.aload_n 0, 1) := by decide +kernel
theorem dX12_ship_68 : decode cX12_ship 68 = .ok (.getfield 179, 3) := by decide +kernel
theorem dX12_ship_71 : decode cX12_ship 71 = .ok (.aload_n 0, 1) := by decide +kernel
theorem dX12_ship_72 : decode cX12_ship 72 = .ok (.getfield 547, 3) := by decide +kernel
theorem dX12_ship_75 : decode cX12_ship 75 = .ok (.iload_n 2, 1) := by decide +kernel
theorem dX12_ship_76 : decode cX12_ship 76 = .ok (.iastore, 1) := by decide +kernel
theorem dX12_ship_77 : decode cX12_ship 77 = .ok (.aload_n 0, 1) := by decide +kernel
theorem dX12_ship_78 : decode cX12_ship 78 = .ok (.getfield 182, 3) := by decide +kernel
theorem dX12_ship_81 : decode cX12_ship 81 = .ok (.aload_n 0, 1) := by decide +kernel
theorem dX12_ship_82 : decode cX12_ship 82 = .ok (.getfield 547, 3) := by decide +kernel
theorem dX12_ship_85 : decode cX12_ship 85 = .ok (.iload_n 3, 1) := by decide +kernel
theorem dX12_ship_86 : decode cX12_ship 86 = .ok (.iastore, 1) := by decide +kernel
theorem dX12_ship_87 : decode cX12_ship 87 = .ok (.aload_n 0, 1) := by decide +kernel
theorem dX12_ship_88 : decode cX12_ship 88 = .ok (.getfield 185, 3) := by decide +kernel
theorem dX12_ship_91 : decode cX12_ship 91 = .ok (.aload_n 0, 1) := by decide +kernel
theorem dX12_ship_92 : decode cX12_ship 92 = .ok (.getfield 547, 3) := by decide +kernel
theorem dX12_ship_95 : decode cX12_ship 95 = .ok (.iload 4, 2) := by decide +kernel
theorem dX12_ship_97 : decode cX12_ship 97 = .ok (.iastore, 1) := by decide +kernel
theorem dX12_ship_98 : decode cX12_ship 98 = .ok (.aload_n 0, 1) := by decide +kernel
theorem dX12_ship_99 : decode cX12_ship 99 = .ok (.dup, 1) := by decide +kernel
theorem dX12_ship_100 : decode cX12_ship 100 = .ok (.getfield 547, 3) := by decide +kernel
theorem dX12_ship_103 : decode cX12_ship 103 = .ok (.iconst 1, 1) := by decide +kernel
theorem dX12_ship_104 : decode cX12_ship 104 = .ok (.iadd, 1) := by decide +kernel
theorem dX12_ship_105 : decode cX12_ship 105 = .ok (.putfield 547, 3) := by decide +kernel
theorem dX12_ship_108 : decode cX12_ship 108 = .ok (.aload_n 0, 1) := by decide +kernel
theorem dX12_ship_109 : decode cX12_ship 109 = .ok (.getfield 547, 3) := by decide +kernel
theorem dX12_ship_112 : decode cX12_ship 112 = .ok (.iconst 1, 1) := by decide +kernel
theorem dX12_ship_113 : decode cX12_ship 113 = .ok (.isub, 1) := by decide +kernel
theorem dX12_ship_114 : decode cX12_ship 114 = .ok (.ireturn, 1) := by decide +kernel
theorem dX12_news_0 : decode cX12_news 0 = .ok (.aload_n 0, 1) := by decide +kernel
theorem dX12_news_1 : decode cX12_news 1 = .ok (.getfield 550, 3) := by decide +kernel
theorem dX12_news_4 : decode cX12_news 4 = .ok (.sipush 200, 3) := by decide +kernel
theorem dX12_news_7 : decode cX12_news 7 = .ok (.if_icmp .eq 46, 3) := by decide +kernel
theorem dX12_news_10 : decode cX12_news 10 = .ok (.iload_n 1, 1) := by decide +kernel
theorem dX12_news_11 : decode cX12_news 11 = .ok (.iconst 0, 1) := by decide +kernel
theorem dX12_news_12 : decode cX12_news 12 = .ok (.bipush 8, 2) := by decide +kernel
theorem dX12_news_14 : decode cX12_news 14 = .ok (.invokestatic 269, 3) := by decide +kernel
theorem dX12_news_17 : decode cX12_news 17 = .ok (.ifCond .eq 36, 3) := by decide +kernel
theorem dX12_news_20 : decode cX12_news 20 = .ok (.iload_n 2, 1) := by decide +kernel
theorem dX12_news_21 : decode cX12_news 21 = .ok (.iconst 0, 1) := by decide +kernel
theorem dX12_news_22 : decode cX12_news 22 = .ok (.bipush 7, 2) := by decide +kernel
theorem dX12_news_24 : decode cX12_news 24 = .ok (.invokestatic 269, 3) := by decide +kernel
theorem dX12_news_27 : decode cX12_news 27 = .ok (.ifCond .eq 26, 3) := by decide +kernel
theorem dX12_news_30 : decode cX12_news 30 = .ok (.iload_n 3, 1) := by decide +kernel
theorem dX12_news_31 : decode cX12_news 31 = .ok (.iconst 0, 1) := by decide +kernel
theorem dX12_news_32 : decode cX12_news 32 = .ok (.sipush 9999, 3) := by decide +kernel
theorem dX12_news_35 : decode cX12_news 35 = .ok (.invokestatic 269, 3) := by decide +kernel
theorem dX12_news_38 : decode cX12_news 38 = .ok (.ifCond .eq 15, 3) := by decide +kernel
theorem dX12_news_41 : decode cX12_news 41 = .ok (.iload 4, 2) := by decide +kernel
theorem dX12_news_43 : decode cX12_news 43 = .ok (.iload_n 3, 1) := by decide +kernel
theorem dX12_news_44 : decode cX12_news 44 = .ok (.sipush 9999, 3) := by decide +kernel
theorem dX12_news_47 : decode cX12_news 47 = .ok (.invokestatic 269, 3) := by decide +kernel
theorem dX12_news_50 : decode cX12_news 50 = .ok (.ifCond .ne 5, 3) := by decide +kernel
theorem dX12_news_53 : decode cX12_news 53 = .ok (.iconst (-1), 1) := by decide +kernel
theorem dX12_news_54 : decode cX12_news 54 = .ok (.ireturn, 1) := by decide +kernel
theorem dX12_news_55 : decode cX12_news 55 = .ok (.aload_n 0, 1) := by decide +kernel
theorem dX12_news_56 : decode cX12_news 56 = .ok (.getfield 188, 3) := by decide +kernel
theorem dX12_news_59 : decode cX12_news 59 = .ok (.aload_n 0, 1) := by decide +kernel
theorem dX12_news_60 : decode cX12_news 60 = .ok (.getfield 550, 3) := by decide +kernel
theorem dX12_news_63 : decode cX12_news 63 = .ok (.iload_n 1, 1) := by decide +kernel
theorem dX12_news_64 : decode cX12_news 64 = .ok (.iastore, 1) := by decide +kernel
theorem dX12_news_65 : decode cX12_news 65 = .ok (.aload_n 0, 1) := by decide +kernel
theorem dX12_news_66 : decode cX12_news 66 = .ok (.getfield 191, 3) := by decide +kernel
theorem dX12_news_69 : decode cX12_news 69 = .ok (.aload_n 0, 1) := by decide +kernel
theorem dX12_news_70 : decode cX12_news 70 = .ok (.getfield 550, 3) := by decide +kernel
theorem dX12_news_73 : decode cX12_news 73 = .ok (.iload_n 2, 1) := by decide +kernel
theorem dX12_news_74 : decode cX12_news 74 = .ok (.iastore, 1) := by decide +kernel
theorem dX12_news_75 : decode cX12_news 75 = .ok (.aload_n 0, 1) := by decide +kernel
theorem dX12_news_76 : decode cX12_news 76 = .ok (.getfield 194, 3) := by decide +kernel
theorem dX12_news_79 : decode cX12_news 79 = .ok (.aload_n 0, 1) := by decide +kernel
theorem dX12_news_80 : decode cX12_news 80 = .ok (.getfield 550, 3) := by decide +kernel
theorem dX12_news_83 : decode cX12_news 83 = .ok (.iload_n 3, 1) := by decide +kernel
theorem dX12_news_84 : decode cX12_news 84 = .ok (.iastore, 1) := by decide +kernel
theorem dX12_news_85 : decode cX12_news 85 = .ok (.aload_n 0, 1) := by decide +kernel
theorem dX12_news_86 : decode cX12_news 86 = .ok (.getfield 197, 3) := by decide +kernel
theorem dX12_news_89 : decode cX12_news 89 = .ok (.aload_n 0, 1) := by decide +kernel
theorem dX12_news_90 : decode cX12_news 90 = .ok (.getfield 550, 3) := by decide +kernel
theorem dX12_news_93 : decode cX12_news 93 = .ok (.iload 4, 2) := by decide +kernel
theorem dX12_news_95 : decode cX12_news 95 = .ok (.iastore, 1) := by decide +kernel
theorem dX12_news_96 : decode cX12_news 96 = .ok (.aload_n 0, 1) := by decide +kernel
theorem dX12_news_97 : decode cX12_news 97 = .ok (.getfield 200, 3) := by decide +kernel
theorem dX12_news_100 : decode cX12_news 100 = .ok (.aload_n 0, 1) := by decide +kernel
theorem dX12_news_101 : decode cX12_news 101 = .ok (.getfield 550, 3) := by decide +kernel
theorem dX12_news_104 : decode cX12_news 104 = .ok (.aload_n 0, 1) := by decide +kernel
theorem dX12_news_105 : decode cX12_news 105 = .ok (.getfield 273, 3) := by decide +kernel
theorem dX12_news_108 : decode cX12_news 108 = .ok (.iastore, 1) := by decide +kernel
theorem dX12_news_109 : decode cX12_news 109 = .ok (.aload_n 0, 1) := by decide +kernel
theorem dX12_news_110 : decode cX12_news 110 = .ok (.dup, 1) := by decide +kernel
theorem dX12_news_111 : decode cX12_news 111 = .ok (.getfield 550, 3) := by decide +kernel
theorem dX12_news_114 : decode cX12_news 114 = .ok (.iconst 1, 1) := by decide +kernel
theorem dX12_news_115 : decode cX12_news 115 = .ok (.iadd, 1) := by decide +kernel
theorem dX12_news_116 : decode cX12_news 116 = .ok (.putfield 550, 3) := by decide +kernel
theorem dX12_news_119 : decode cX12_news 119 = .ok (.aload_n 0, 1) := by decide +kernel
theorem dX12_news_120 : decode cX12_news 120 = .ok (.getfield 550, 3) := by decide +kernel
theorem dX12_news_123 : decode cX12_news 123 = .ok (.ireturn, 1) := by decide +kernel
theorem dX12_price_0 : decode cX12_price 0 = .ok (.iload_n 1, 1) := by decide +kernel
theorem dX12_price_1 : decode cX12_price 1 = .ok (.iconst 0, 1) := by decide +kernel
theorem dX12_price_2 : decode cX12_price 2 = .ok (.bipush 8, 2) := by decide +kernel
theorem dX12_price_4 : decode cX12_price 4 = .ok (.invokestatic 269, 3) := by decide +kernel
theorem dX12_price_7 : decode cX12_price 7 = .ok (.ifCond .eq 30, 3) := by decide +kernel
theorem dX12_price_10 : decode cX12_price 10 = .ok (.iload_n 2, 1) := by decide +kernel
theorem dX12_price_11 : decode cX12_price 11 = .ok (.iconst 0, 1) := by decide +kernel
theorem dX12_price_12 : decode cX12_price 12 = .ok (.bipush 7, 2) := by decide +kernel
theorem dX12_price_14 : decode cX12_price 14 = .ok (.invokestatic 269, 3) := by decide +kernel
theorem dX12_price_17 : decode cX12_price 17 = .ok (.ifCond .eq 20, 3) := by decide +kernel
theorem dX12_price_20 : decode cX12_price 20 = .ok (.iload_n 3, 1) := by decide +kernel
theorem dX12_price_21 : decode cX12_price 21 = .ok (.invokestatic 451, 3) := by decide +kernel
theorem dX12_price_24 : decode cX12_price 24 = .ok (.ifCond .eq 13, 3) := by decide +kernel
theorem dX12_price_27 : decode cX12_price 27 = .ok (.iload 4, 2) := by decide +kernel
theorem dX12_price_29 : decode cX12_price 29 = .ok (.iconst 0, 1) := by decide +kernel
theorem dX12_price_30 : decode cX12_price 30 = .ok (.iconst 1, 1) := by decide +kernel
theorem dX12_price_31 : decode cX12_price 31 = .ok (.invokestatic 269, 3) := by decide +kernel
theorem dX12_price_34 : decode cX12_price 34 = .ok (.ifCond .ne 5, 3) := by decide +kernel
theorem dX12_price_37 : decode cX12_price 37 = .ok (.iconst (-1), 1) := by decide +kernel
theorem dX12_price_38 : decode cX12_price 38 = .ok (.ireturn, 1) := by decide +kernel
theorem dX12_price_39 : decode cX12_price 39 = .ok (.iconst 0, 1) := by decide +kernel
theorem dX12_price_40 : decode cX12_price 40 = .ok (.istore 5, 2) := by decide +kernel
theorem dX12_price_42 : decode cX12_price 42 = .ok (.iconst 0, 1) := by decide +kernel
theorem dX12_price_43 : decode cX12_price 43 = .ok (.istore 6, 2) := by decide +kernel
theorem dX12_price_45 : decode cX12_price 45 = .ok (.iload 6, 2) := by decide +kernel
theorem dX12_price_47 : decode cX12_price 47 = .ok (.aload_n 0, 1) := by decide +kernel
theorem dX12_price_48 : decode cX12_price 48 = .ok (.getfield 550, 3) := by decide +kernel
theorem dX12_price_51 : decode cX12_price 51 = .ok (.if_icmp .ge 66, 3) := by decide +kernel
theorem dX12_price_54 : decode cX12_price 54 = .ok (.aload_n 0, 1) := by decide +kernel
theorem dX12_price_55 : decode cX12_price 55 = .ok (.getfield 188, 3) := by decide +kernel
theorem dX12_price_58 : decode cX12_price 58 = .ok (.iload 6, 2) := by decide +kernel
theorem dX12_price_60 : decode cX12_price 60 = .ok (.iaload, 1) := by decide +kernel
theorem dX12_price_61 : decode cX12_price 61 = .ok (.iload_n 1, 1) := by decide +kernel
theorem dX12_price_62 : decode cX12_price 62 = .ok (.if_icmp .ne 49, 3) := by decide +kernel
theorem dX12_price_65 : decode cX12_price 65 = .ok (.aload_n 0, 1) := by decide +kernel
theorem dX12_price_66 : decode cX12_price 66 = .ok (.getfield 191, 3) := by decide +kernel
theorem dX12_price_69 : decode cX12_price 69 = .ok (.iload 6, 2) := by decide +kernel
theorem dX12_price_71 : decode cX12_price 71 = .ok (.iaload, 1) := by decide +kernel
theorem dX12_price_72 : decode cX12_price 72 = .ok (.iload_n 2, 1) := by decide +kernel
theorem dX12_price_73 : decode cX12_price 73 = .ok (.if_icmp .ne 38, 3) := by decide +kernel
theorem dX12_price_76 : decode cX12_price 76 = .ok (.aload_n 0, 1) := by decide +kernel
theorem dX12_price_77 : decode cX12_price 77 = .ok (.getfield 200, 3) := by decide +kernel
theorem dX12_price_80 : decode cX12_price 80 = .ok (.iload 6, 2) := by decide +kernel
theorem dX12_price_82 : decode cX12_price 82 = .ok (.iaload, 1) := by decide +kernel
theorem dX12_price_83 : decode cX12_price 83 = .ok (.iload_n 3, 1) := by decide +kernel
theorem dX12_price_84 : decode cX12_price 84 = .ok (.if_icmp .gt 27, 3) := by decide +kernel
theorem dX12_price_87 : decode cX12_price 87 = .ok (.iload 4, 2) := by decide +kernel
theorem dX12_price_89 : decode cX12_price 89 = .ok (.ifCond .ne 13, 3) := by decide +kernel
theorem dX12_price_92 : decode cX12_price 92 = .ok (.aload_n 0, 1) := by decide +kernel
theorem dX12_price_93 : decode cX12_price 93 = .ok (.getfield 194, 3) := by decide +kernel
theorem dX12_price_96 : decode cX12_price 96 = .ok (.iload 6, 2) := by decide +kernel
theorem dX12_price_98 : decode cX12_price 98 = .ok (.iaload, 1) := by decide +kernel
theorem dX12_price_99 : decode cX12_price 99 = .ok (.goto 10, 3) := by decide +kernel
theorem dX12_price_102 : decode cX12_price 102 = .ok (.aload_n 0, 1) := by decide +kernel
theorem dX12_price_103 : decode cX12_price 103 = .ok (.getfield 197, 3) := by decide +kernel
theorem dX12_price_106 : decode cX12_price 106 = .ok (.iload 6, 2) := by decide +kernel
theorem dX12_price_108 : decode cX12_price 108 = .ok (.iaload, 1) := by decide +kernel
theorem dX12_price_109 : decode cX12_price 109 = .ok (.istore 5, 2) := by decide +kernel
theorem dX12_price_111 : decode cX12_price 111 = .ok (.iinc 6 1, 3) := by decide +kernel
theorem dX12_price_114 : decode cX12_price 114 = .ok (.goto (-69), 3) := by decide +kernel
theorem dX12_price_117 : decode cX12_price 117 = .ok (.iload 5, 2) := by decide +kernel
theorem dX12_price_119 : decode cX12_price 119 = .ok (.ireturn, 1) := by decide +kernel
theorem dX12_gathers_0 : decode cX12_gathers 0 = .ok (.iconst 0, 1) := by decide +kernel
theorem dX12_gathers_1 : decode cX12_gathers 1 = .ok (.istore_n 1, 1) := by decide +kernel
theorem dX12_gathers_2 : decode cX12_gathers 2 = .ok (.iconst 0, 1) := by decide +kernel
theorem dX12_gathers_3 : decode cX12_gathers 3 = .ok (.istore_n 2, 1) := by decide +kernel
theorem dX12_gathers_4 : decode cX12_gathers 4 = .ok (.iload_n 2, 1) := by decide +kernel
theorem dX12_gathers_5 : decode cX12_gathers 5 = .ok (.bipush 20, 2) := by decide +kernel
theorem dX12_gathers_7 : decode cX12_gathers 7 = .ok (.if_icmp .ge 16, 3) := by decide +kernel
theorem dX12_gathers_10 : decode cX12_gathers 10 = .ok (.aload_n 0, 1) := by decide +kernel
theorem dX12_gathers_11 : decode cX12_gathers 11 = .ok (.getfield 221, 3) := by decide +kernel
theorem dX12_gathers_14 : decode cX12_gathers 14 = .ok (.iload_n 2, 1) := by decide +kernel
theorem dX12_gathers_15 : decode cX12_gathers 15 = .ok (.iconst 0, 1) := by decide +kernel
theorem dX12_gathers_16 : decode cX12_gathers 16 = .ok (.bastore, 1) := by decide +kernel
theorem dX12_gathers_17 : decode cX12_gathers 17 = .ok (.iinc 2 1, 3) := by decide +kernel
theorem dX12_gathers_20 : decode cX12_gathers 20 = .ok (.goto (-16), 3) := by decide +kernel
theorem dX12_gathers_23 : decode cX12_gathers 23 = .ok (.iconst 1, 1) := by decide +kernel
theorem dX12_gathers_24 : decode cX12_gathers 24 = .ok (.istore_n 2, 1) := by decide +kernel
theorem dX12_gathers_25 : decode cX12_gathers 25 = .ok (.iload_n 2, 1) := by decide +kernel
theorem dX12_gathers_26 : decode cX12_gathers 26 = .ok (.ifCond .eq 156, 3) := by decide +kernel
theorem dX12_gathers_29 : decode cX12_gathers 29 = .ok (.iload_n 1, 1) := by decide +kernel
theorem dX12_gathers_30 : decode cX12_gathers 30 = .ok (.iconst 4, 1) := by decide +kernel
theorem dX12_gathers_31 : decode cX12_gathers 31 = .ok (.if_icmp .ge 151, 3) := by decide +kernel
theorem dX12_gathers_34 : decode cX12_gathers 34 = .ok (.iconst (-1), 1) := by decide +kernel
theorem dX12_gathers_35 : decode cX12_gathers 35 = .ok (.istore_n 3, 1) := by decide +kernel
theorem dX12_gathers_36 : decode cX12_gathers 36 = .ok (.iconst 0, 1) := by decide +kernel
theorem dX12_gathers_37 : decode cX12_gathers 37 = .ok (.istore 4, 2) := by decide +kernel
theorem dX12_gathers_39 : decode cX12_gathers 39 = .ok (.iload 4, 2) := by decide +kernel
theorem dX12_gathers_41 : decode cX12_gathers 41 = .ok (.aload_n 0, 1) := by decide +kernel
theorem dX12_gathers_42 : decode cX12_gathers 42 = .ok (.getfield 547, 3) := by decide +kernel
theorem dX12_gathers_45 : decode cX12_gathers 45 = .ok (.if_icmp .ge 102, 3) := by decide +kernel
theorem dX12_gathers_48 : decode cX12_gathers 48 = .ok (.aload_n 0, 1) := by decide +kernel
theorem dX12_gathers_49 : decode cX12_gathers 49 = .ok (.getfield 221, 3) := by decide +kernel
theorem dX12_gathers_52 : decode cX12_gathers 52 = .ok (.iload 4, 2) := by decide +kernel
theorem dX12_gathers_54 : decode cX12_gathers 54 = .ok (.baload, 1) := by decide +kernel
theorem dX12_gathers_55 : decode cX12_gathers 55 = .ok (.ifCond .ne 54, 3) := by decide +kernel
theorem dX12_gathers_58 : decode cX12_gathers 58 = .ok (.aload_n 0, 1) := by decide +kernel
theorem dX12_gathers_59 : decode cX12_gathers 59 = .ok (.getfield 179, 3) := by decide +kernel
theorem dX12_gathers_62 : decode cX12_gathers 62 = .ok (.iload 4, 2) := by decide +kernel
theorem dX12_gathers_64 : decode cX12_gathers 64 = .ok (.iaload, 1) := by decide +kernel
theorem dX12_gathers_65 : decode cX12_gathers 65 = .ok (.aload_n 0, 1) := by decide +kernel
theorem dX12_gathers_66 : decode cX12_gathers 66 = .ok (.getfield 273, 3) := by decide +kernel
theorem dX12_gathers_69 : decode cX12_gathers 69 = .ok (.if_icmp .lt 40, 3) := by decide +kernel
theorem dX12_gathers_72 : decode cX12_gathers 72 = .ok (.aload_n 0, 1) := by decide +kernel
theorem dX12_gathers_73 : decode cX12_gathers 73 = .ok (.aload_n 0, 1) := by decide +kernel
theorem dX12_gathers_74 : decode cX12_gathers 74 = .ok (.getfield 176, 3) := by decide +kernel
theorem dX12_gathers_77 : decode cX12_gathers 77 = .ok (.iload 4, 2) := by decide +kernel
theorem dX12_gathers_79 : decode cX12_gathers 79 = .ok (.iaload, 1) := by decide +kernel
theorem dX12_gathers_80 : decode cX12_gathers 80 = .ok (.aload_n 0, 1) := by decide +kernel
theorem dX12_gathers_81 : decode cX12_gathers 81 = .ok (.getfield 179, 3) := by decide +kernel
theorem dX12_gathers_84 : decode cX12_gathers 84 = .ok (.iload 4, 2) := by decide +kernel
theorem dX12_gathers_86 : decode cX12_gathers 86 = .ok (.iaload, 1) := by decide +kernel
theorem dX12_gathers_87 : decode cX12_gathers 87 = .ok (.aload_n 0, 1) := by decide +kernel
theorem dX12_gathers_88 : decode cX12_gathers 88 = .ok (.getfield 182, 3) := by decide +kernel
theorem dX12_gathers_91 : decode cX12_gathers 91 = .ok (.iload 4, 2) := by decide +kernel
theorem dX12_gathers_93 : decode cX12_gathers 93 = .ok (.iaload, 1) := by decide +kernel
theorem dX12_gathers_94 : decode cX12_gathers 94 = .ok (.iadd, 1) := by decide +kernel
theorem dX12_gathers_95 : decode cX12_gathers 95 = .ok (.aload_n 0, 1) := by decide +kernel
theorem dX12_gathers_96 : decode cX12_gathers 96 = .ok (.getfield 273, 3) := by decide +kernel
theorem dX12_gathers_99 : decode cX12_gathers 99 = .ok (.invokevirtual 469, 3) := by decide +kernel
theorem dX12_gathers_102 : decode cX12_gathers 102 = .ok (.ifCond .ne 7, 3) := by decide +kernel
theorem dX12_gathers_105 : decode cX12_gathers 105 = .ok (.iconst 1, 1) := by decide +kernel
theorem dX12_gathers_106 : decode cX12_gathers 106 = .ok (.goto 4, 3) := by decide +kernel
theorem dX12_gathers_109 : decode cX12_gathers 109 = .ok (.iconst 0, 1) := by decide +kernel
theorem dX12_gathers_110 : decode cX12_gathers 110 = .ok (.istore 5, 2) := by decide +kernel
theorem dX12_gathers_112 : decode cX12_gathers 112 = .ok (.iload 5, 2) := by decide +kernel
theorem dX12_gathers_114 : decode cX12_gathers 114 = .ok (.ifCond .eq 27, 3) := by decide +kernel
theorem dX12_gathers_117 : decode cX12_gathers 117 = .ok (.iload_n 3, 1) := by decide +kernel
theorem dX12_gathers_118 : decode cX12_gathers 118 = .ok (.iconst (-1), 1) := by decide +kernel
theorem dX12_gathers_119 : decode cX12_gathers 119 = .ok (.if_icmp .eq 19, 3) := by decide +kernel
theorem dX12_gathers_122 : decode cX12_gathers 122 = .ok (.aload_n 0, 1) := by decide +kernel
theorem dX12_gathers_123 : decode cX12_gathers 123 = .ok (.getfield 179, 3) := by decide +kernel
theorem dX12_gathers_126 : decode cX12_gathers 126 = .ok (.iload 4, 2) := by decide +kernel
theorem dX12_gathers_128 : decode cX12_gathers 128 = .ok (.iaload, 1) := by decide +kernel
theorem dX12_gathers_129 : decode cX12_gathers 129 = .ok (.aload_n 0, 1) := by decide +kernel
theorem dX12_gathers_130 : decode cX12_gathers 130 = .ok (.getfield 179, 3) := by decide +kernel
theorem dX12_gathers_133 : decode cX12_gathers 133 = .ok (.iload_n 3, 1) := by decide +kernel
theorem dX12_gathers_134 : decode cX12_gathers 134 = .ok (.iaload, 1) := by decide +kernel
theorem dX12_gathers_135 : decode cX12_gathers 135 = .ok (.if_icmp .ge 6, 3) := by decide +kernel
theorem dX12_gathers_138 : decode cX12_gathers 138 = .ok (.iload 4, 2) := by decide +kernel
theorem dX12_gathers_140 : decode cX12_gathers 140 = .ok (.istore_n 3, 1) := by decide +kernel
theorem dX12_gathers_141 : decode cX12_gathers 141 = .ok (.iinc 4 1, 3) := by decide +kernel
theorem dX12_gathers_144 : decode cX12_gathers 144 = .ok (.goto (-105), 3) := by decide +kernel
theorem dX12_gathers_147 : decode cX12_gathers 147 = .ok (.iload_n 3, 1) := by decide +kernel
theorem dX12_gathers_148 : decode cX12_gathers 148 = .ok (.iconst (-1), 1) := by decide +kernel
theorem dX12_gathers_149 : decode cX12_gathers 149 = .ok (.if_icmp .eq 7, 3) := by decide +kernel
theorem dX12_gathers_152 : decode cX12_gathers 152 = .ok (.iconst 1, 1) := by decide +kernel
theorem dX12_gathers_153 : decode cX12_gathers 153 = .ok (.goto 4, 3) := by decide +kernel
theorem dX12_gathers_156 : decode cX12_gathers 156 = .ok (.iconst 0, 1) := by decide +kernel
theorem dX12_gathers_157 : decode cX12_gathers 157 = .ok (.istore_n 2, 1) := by decide +kernel
theorem dX12_gathers_158 : decode cX12_gathers 158 = .ok (.iload_n 2, 1) := by decide +kernel
theorem dX12_gathers_159 : decode cX12_gathers 159 = .ok (.ifCond .eq 20, 3) := by decide +kernel
theorem dX12_gathers_162 : decode cX12_gathers 162 = .ok (.aload_n 0, 1) := by decide +kernel
theorem dX12_gathers_163 : decode cX12_gathers 163 = .ok (.getfield 221, 3) := by decide +kernel
theorem dX12_gathers_166 : decode cX12_gathers 166 = .ok (.iload_n 3, 1) := by decide +kernel
theorem dX12_gathers_167 : decode cX12_gathers 167 = .ok (.iconst 1, 1) := by decide +kernel
theorem dX12_gathers_168 : decode cX12_gathers 168 = .ok (.bastore, 1) := by decide +kernel
theorem dX12_gathers_169 : decode cX12_gathers 169 = .ok (.aload_n 0, 1) := by decide +kernel
theorem dX12_gathers_170 : decode cX12_gathers 170 = .ok (.getfield 212, 3) := by decide +kernel
theorem dX12_gathers_173 : decode cX12_gathers 173 = .ok (.iload_n 1, 1) := by decide +kernel
theorem dX12_gathers_174 : decode cX12_gathers 174 = .ok (.iload_n 3, 1) := by decide +kernel
theorem dX12_gathers_175 : decode cX12_gathers 175 = .ok (.iastore, 1) := by decide +kernel
theorem dX12_gathers_176 : decode cX12_gathers 176 = .ok (.iinc 1 1, 3) := by decide +kernel
theorem dX12_gathers_179 : decode cX12_gathers 179 = .ok (.goto (-154), 3) := by decide +kernel
theorem dX12_gathers_182 : decode cX12_gathers 182 = .ok (.iload_n 1, 1) := by decide +kernel
theorem dX12_gathers_183 : decode cX12_gathers 183 = .ok (.ireturn, 1) := by decide +kernel
theorem dX12_plan_0 : decode cX12_plan 0 = .ok (.aload_n 0, 1) := by decide +kernel
theorem dX12_plan_1 : decode cX12_plan 1 = .ok (.iload_n 1, 1) := by decide +kernel
theorem dX12_plan_2 : decode cX12_plan 2 = .ok (.invokevirtual 285, 3) := by decide +kernel
theorem dX12_plan_5 : decode cX12_plan 5 = .ok (.ifCond .ne 7, 3) := by decide +kernel
theorem dX12_plan_8 : decode cX12_plan 8 = .ok (.ldc2_w 553, 3) := by decide +kernel
theorem dX12_plan_11 : decode cX12_plan 11 = .ok (.lreturn, 1) := by decide +kernel
theorem dX12_plan_12 : decode cX12_plan 12 = .ok (.iconst 0, 1) := by decide +kernel
theorem dX12_plan_13 : decode cX12_plan 13 = .ok (.istore_n 2, 1) := by decide +kernel
theorem dX12_plan_14 : decode cX12_plan 14 = .ok (.iconst 0, 1) := by decide +kernel
theorem dX12_plan_15 : decode cX12_plan 15 = .ok (.istore_n 3, 1) := by decide +kernel
theorem dX12_plan_16 : decode cX12_plan 16 = .ok (.iload_n 3, 1) := by decide +kernel
theorem dX12_plan_17 : decode cX12_plan 17 = .ok (.aload_n 0, 1) := by decide +kernel
theorem dX12_plan_18 : decode cX12_plan 18 = .ok (.getfield 288, 3) := by decide +kernel
theorem dX12_plan_21 : decode cX12_plan 21 = .ok (.if_icmp .ge 43, 3) := by decide +kernel
theorem dX12_plan_24 : decode cX12_plan 24 = .ok (.iload_n 2, 1) := by decide +kernel
theorem dX12_plan_25 : decode cX12_plan 25 = .ok (.iconst 5, 1) := by decide +kernel
theorem dX12_plan_26 : decode cX12_plan 26 = .ok (.if_icmp .ge 38, 3) := by decide +kernel
theorem dX12_plan_29 : decode cX12_plan 29 = .ok (.aload_n 0, 1) := by decide +kernel
theorem dX12_plan_30 : decode cX12_plan 30 = .ok (.getfield 38, 3) := by decide +kernel
theorem dX12_plan_33 : decode cX12_plan 33 = .ok (.iload_n 3, 1) := by decide +kernel
theorem dX12_plan_34 : decode cX12_plan 34 = .ok (.iaload, 1) := by decide +kernel
theorem dX12_plan_35 : decode cX12_plan 35 = .ok (.iload_n 1, 1) := by decide +kernel
theorem dX12_plan_36 : decode cX12_plan 36 = .ok (.if_icmp .ne 22, 3) := by decide +kernel
theorem dX12_plan_39 : decode cX12_plan 39 = .ok (.aload_n 0, 1) := by decide +kernel
theorem dX12_plan_40 : decode cX12_plan 40 = .ok (.getfield 35, 3) := by decide +kernel
theorem dX12_plan_43 : decode cX12_plan 43 = .ok (.iload_n 3, 1) := by decide +kernel
theorem dX12_plan_44 : decode cX12_plan 44 = .ok (.iaload, 1) := by decide +kernel
theorem dX12_plan_45 : decode cX12_plan 45 = .ok (.ifCond .le 13, 3) := by decide +kernel
theorem dX12_plan_48 : decode cX12_plan 48 = .ok (.aload_n 0, 1) := by decide +kernel
theorem dX12_plan_49 : decode cX12_plan 49 = .ok (.getfield 215, 3) := by decide +kernel
theorem dX12_plan_52 : decode cX12_plan 52 = .ok (.iload_n 2, 1) := by decide +kernel
theorem dX12_plan_53 : decode cX12_plan 53 = .ok (.iload_n 3, 1) := by decide +kernel
theorem dX12_plan_54 : decode cX12_plan 54 = .ok (.iastore, 1) := by decide +kernel
theorem dX12_plan_55 : decode cX12_plan 55 = .ok (.iinc 2 1, 3) := by decide +kernel
theorem dX12_plan_58 : decode cX12_plan 58 = .ok (.iinc 3 1, 3) := by decide +kernel
theorem dX12_plan_61 : decode cX12_plan 61 = .ok (.goto (-45), 3) := by decide +kernel
theorem dX12_plan_64 : decode cX12_plan 64 = .ok (.aload_n 0, 1) := by decide +kernel
theorem dX12_plan_65 : decode cX12_plan 65 = .ok (.invokevirtual 555, 3) := by decide +kernel
theorem dX12_plan_68 : decode cX12_plan 68 = .ok (.istore_n 3, 1) := by decide +kernel
theorem dX12_plan_69 : decode cX12_plan 69 = .ok (.iconst 0, 1) := by decide +kernel
theorem dX12_plan_70 : decode cX12_plan 70 = .ok (.istore 4, 2) := by decide +kernel
theorem dX12_plan_72 : decode cX12_plan 72 = .ok (.iload 4, 2) := by decide +kernel
theorem dX12_plan_74 : decode cX12_plan 74 = .ok (.iload_n 2, 1) := by decide +kernel
theorem dX12_plan_75 : decode cX12_plan 75 = .ok (.if_icmp .ge 157, 3) := by decide +kernel
theorem dX12_plan_78 : decode cX12_plan 78 = .ok (.aload_n 0, 1) := by decide +kernel
theorem dX12_plan_79 : decode cX12_plan 79 = .ok (.getfield 218, 3) := by decide +kernel
theorem dX12_plan_82 : decode cX12_plan 82 = .ok (.iload 4, 2) := by decide +kernel
theorem dX12_plan_84 : decode cX12_plan 84 = .ok (.iconst 0, 1) := by decide +kernel
theorem dX12_plan_85 : decode cX12_plan 85 = .ok (.iastore, 1) := by decide +kernel
theorem dX12_plan_86 : decode cX12_plan 86 = .ok (.iconst 0, 1) := by decide +kernel
theorem dX12_plan_87 : decode cX12_plan 87 = .ok (.istore 5, 2) := by decide +kernel
theorem dX12_plan_89 : decode cX12_plan 89 = .ok (.iload 5, 2) := by decide +kernel
theorem dX12_plan_91 : decode cX12_plan 91 = .ok (.iload_n 3, 1) := by decide +kernel
theorem dX12_plan_92 : decode cX12_plan 92 = .ok (.if_icmp .gt 134, 3) := by decide +kernel
theorem dX12_plan_95 : decode cX12_plan 95 = .ok (.iload 5, 2) := by decide +kernel
theorem dX12_plan_97 : decode cX12_plan 97 = .ok (.iload_n 3, 1) := by decide +kernel
theorem dX12_plan_98 : decode cX12_plan 98 = .ok (.if_icmp .ne 8, 3) := by decide +kernel
theorem dX12_plan_101 : decode cX12_plan 101 = .ok (.bipush 8, 2) := by decide +kernel
theorem dX12_plan_103 : decode cX12_plan 103 = .ok (.goto 15, 3) := by decide +kernel
theorem dX12_plan_106 : decode cX12_plan 106 = .ok (.aload_n 0, 1) := by decide +kernel
theorem dX12_plan_107 : decode cX12_plan 107 = .ok (.getfield 176, 3) := by decide +kernel
theorem dX12_plan_110 : decode cX12_plan 110 = .ok (.aload_n 0, 1) := by decide +kernel
theorem dX12_plan_111 : decode cX12_plan 111 = .ok (.getfield 212, 3) := by decide +kernel
theorem dX12_plan_114 : decode cX12_plan 114 = .ok (.iload 5, 2) := by decide +kernel
theorem dX12_plan_116 : decode cX12_plan 116 = .ok (.iaload, 1) := by decide +kernel
theorem dX12_plan_117 : decode cX12_plan 117 = .ok (.iaload, 1) := by decide +kernel
theorem dX12_plan_118 : decode cX12_plan 118 = .ok (.istore 6, 2) := by decide +kernel
theorem dX12_plan_120 : decode cX12_plan 120 = .ok (.aload_n 0, 1) := by decide +kernel
theorem dX12_plan_121 : decode cX12_plan 121 = .ok (.getfield 227, 3) := by decide +kernel
theorem dX12_plan_124 : decode cX12_plan 124 = .ok (.iconst 5, 1) := by decide +kernel
theorem dX12_plan_125 : decode cX12_plan 125 = .ok (.iload 4, 2) := by decide +kernel
theorem dX12_plan_127 : decode cX12_plan 127 = .ok (.imul, 1) := by decide +kernel
theorem dX12_plan_128 : decode cX12_plan 128 = .ok (.iload 5, 2) := by decide +kernel
theorem dX12_plan_130 : decode cX12_plan 130 = .ok (.iadd, 1) := by decide +kernel
theorem dX12_plan_131 : decode cX12_plan 131 = .ok (.aload_n 0, 1) := by decide +kernel
theorem dX12_plan_132 : decode cX12_plan 132 = .ok (.getfield 35, 3) := by decide +kernel
theorem dX12_plan_135 : decode cX12_plan 135 = .ok (.aload_n 0, 1) := by decide +kernel
theorem dX12_plan_136 : decode cX12_plan 136 = .ok (.getfield 215, 3) := by decide +kernel
theorem dX12_plan_139 : decode cX12_plan 139 = .ok (.iload 4, 2) := by decide +kernel
theorem dX12_plan_141 : decode cX12_plan 141 = .ok (.iaload, 1) := by decide +kernel
theorem dX12_plan_142 : decode cX12_plan 142 = .ok (.iaload, 1) := by decide +kernel
theorem dX12_plan_143 : decode cX12_plan 143 = .ok (.i2l, 1) := by decide +kernel
theorem dX12_plan_144 : decode cX12_plan 144 = .ok (.aload_n 0, 1) := by decide +kernel
theorem dX12_plan_145 : decode cX12_plan 145 = .ok (.iload 6, 2) := by decide +kernel
theorem dX12_plan_147 : decode cX12_plan 147 = .ok (.aload_n 0, 1) := by decide +kernel
theorem dX12_plan_148 : decode cX12_plan 148 = .ok (.getfield 32, 3) := by decide +kernel
theorem dX12_plan_151 : decode cX12_plan 151 = .ok (.aload_n 0, 1) := by decide +kernel
theorem dX12_plan_152 : decode cX12_plan 152 = .ok (.getfield 215, 3) := by decide +kernel
theorem dX12_plan_155 : decode cX12_plan 155 = .ok (.iload 4, 2) := by decide +kernel
theorem dX12_plan_157 : decode cX12_plan 157 = .ok (.iaload, 1) := by decide +kernel
theorem dX12_plan_158 : decode cX12_plan 158 = .ok (.iaload, 1) := by decide +kernel
theorem dX12_plan_159 : decode cX12_plan 159 = .ok (.aload_n 0, 1) := by decide +kernel
theorem dX12_plan_160 : decode cX12_plan 160 = .ok (.getfield 273, 3) := by decide +kernel
theorem dX12_plan_163 : decode cX12_plan 163 = .ok (.iconst 0, 1) := by decide +kernel
theorem dX12_plan_164 : decode cX12_plan 164 = .ok (.invokevirtual 484, 3) := by decide +kernel
theorem dX12_plan_167 : decode cX12_plan 167 = .ok (.i2l, 1) := by decide +kernel
theorem dX12_plan_168 : decode cX12_plan 168 = .ok (.lmul, 1) := by decide +kernel
theorem dX12_plan_169 : decode cX12_plan 169 = .ok (.lastore, 1) := by decide +kernel
theorem dX12_plan_170 : decode cX12_plan 170 = .ok (.aload_n 0, 1) := by decide +kernel
theorem dX12_plan_171 : decode cX12_plan 171 = .ok (.getfield 230, 3) := by decide +kernel
theorem dX12_plan_174 : decode cX12_plan 174 = .ok (.iconst 5, 1) := by decide +kernel
theorem dX12_plan_175 : decode cX12_plan 175 = .ok (.iload 4, 2) := by decide +kernel
theorem dX12_plan_177 : decode cX12_plan 177 = .ok (.imul, 1) := by decide +kernel
theorem dX12_plan_178 : decode cX12_plan 178 = .ok (.iload 5, 2) := by decide +kernel
theorem dX12_plan_180 : decode cX12_plan 180 = .ok (.iadd, 1) := by decide +kernel
theorem dX12_plan_181 : decode cX12_plan 181 = .ok (.aload_n 0, 1) := by decide +kernel
theorem dX12_plan_182 : decode cX12_plan 182 = .ok (.getfield 35, 3) := by decide +kernel
theorem dX12_plan_185 : decode cX12_plan 185 = .ok (.aload_n 0, 1) := by decide +kernel
theorem dX12_plan_186 : decode cX12_plan 186 = .ok (.getfield 215, 3) := by decide +kernel
theorem dX12_plan_189 : decode cX12_plan 189 = .ok (.iload 4, 2) := by decide +kernel
theorem dX12_plan_191 : decode cX12_plan 191 = .ok (.iaload, 1) := by decide +kernel
theorem dX12_plan_192 : decode cX12_plan 192 = .ok (.iaload, 1) := by decide +kernel
theorem dX12_plan_193 : decode cX12_plan 193 = .ok (.i2l, 1) := by decide +kernel
theorem dX12_plan_194 : decode cX12_plan 194 = .ok (.aload_n 0, 1) := by decide +kernel
theorem dX12_plan_195 : decode cX12_plan 195 = .ok (.iload 6, 2) := by decide +kernel
theorem dX12_plan_197 : decode cX12_plan 197 = .ok (.aload_n 0, 1) := by decide +kernel
theorem dX12_plan_198 : decode cX12_plan 198 = .ok (.getfield 32, 3) := by decide +kernel
theorem dX12_plan_201 : decode cX12_plan 201 = .ok (.aload_n 0, 1) := by decide +kernel
theorem dX12_plan_202 : decode cX12_plan 202 = .ok (.getfield 215, 3) := by decide +kernel
theorem dX12_plan_205 : decode cX12_plan 205 = .ok (.iload 4, 2) := by decide +kernel
theorem dX12_plan_207 : decode cX12_plan 207 = .ok (.iaload, 1) := by decide +kernel
theorem dX12_plan_208 : decode cX12_plan 208 = .ok (.iaload, 1) := by decide +kernel
theorem dX12_plan_209 : decode cX12_plan 209 = .ok (.aload_n 0, 1) := by decide +kernel
theorem dX12_plan_210 : decode cX12_plan 210 = .ok (.getfield 273, 3) := by decide +kernel
theorem dX12_plan_213 : decode cX12_plan 213 = .ok (.iconst 1, 1) := by decide +kernel
theorem dX12_plan_214 : decode cX12_plan 214 = .ok (.invokevirtual 484, 3) := by decide +kernel
theorem dX12_plan_217 : decode cX12_plan 217 = .ok (.i2l, 1) := by decide +kernel
theorem dX12_plan_218 : decode cX12_plan 218 = .ok (.lmul, 1) := by decide +kernel
theorem dX12_plan_219 : decode cX12_plan 219 = .ok (.lastore, 1) := by decide +kernel
theorem dX12_plan_220 : decode cX12_plan 220 = .ok (.iinc 5 1, 3) := by decide +kernel
theorem dX12_plan_223 : decode cX12_plan 223 = .ok (.goto (-134), 3) := by decide +kernel
theorem dX12_plan_226 : decode cX12_plan 226 = .ok (.iinc 4 1, 3) := by decide +kernel
theorem dX12_plan_229 : decode cX12_plan 229 = .ok (.goto (-157), 3) := by decide +kernel
theorem dX12_plan_232 : decode cX12_plan 232 = .ok (.ldc2_w 553, 3) := by decide +kernel
theorem dX12_plan_235 : decode cX12_plan 235 = .ok (.lstore 4, 2) := by decide +kernel
theorem dX12_plan_237 : decode cX12_plan 237 = .ok (.lconst 0, 1) := by decide +kernel
theorem dX12_plan_238 : decode cX12_plan 238 = .ok (.lstore 6, 2) := by decide +kernel
theorem dX12_plan_240 : decode cX12_plan 240 = .ok (.iconst 1, 1) := by decide +kernel
theorem dX12_plan_241 : decode cX12_plan 241 = .ok (.istore 8, 2) := by decide +kernel
theorem dX12_plan_243 : decode cX12_plan 243 = .ok (.iload 8, 2) := by decide +kernel
theorem dX12_plan_245 : decode cX12_plan 245 = .ok (.ifCond .eq 338, 3) := by decide +kernel
theorem dX12_plan_248 : decode cX12_plan 248 = .ok (.lconst 0, 1) := by decide +kernel
theorem dX12_plan_249 : decode cX12_plan 249 = .ok (.lstore 9, 2) := by decide +kernel
theorem dX12_plan_251 : decode cX12_plan 251 = .ok (.lconst 0, 1) := by decide +kernel
theorem dX12_plan_252 : decode cX12_plan 252 = .ok (.lstore 11, 2) := by decide +kernel
theorem dX12_plan_254 : decode cX12_plan 254 = .ok (.iconst 1, 1) := by decide +kernel
theorem dX12_plan_255 : decode cX12_plan 255 = .ok (.istore 13, 2) := by decide +kernel
theorem dX12_plan_257 : decode cX12_plan 257 = .ok (.iconst 0, 1) := by decide +kernel
theorem dX12_plan_258 : decode cX12_plan 258 = .ok (.istore 14, 2) := by decide +kernel
theorem dX12_plan_260 : decode cX12_plan 260 = .ok (.iload 14, 2) := by decide +kernel
theorem dX12_plan_262 : decode cX12_plan 262 = .ok (.iconst 4, 1) := by decide +kernel
theorem dX12_plan_263 : decode cX12_plan 263 = .ok (.if_icmp .gt 17, 3) := by decide +kernel
theorem dX12_plan_266 : decode cX12_plan 266 = .ok (.aload_n 0, 1) := by decide +kernel
theorem dX12_plan_267 : decode cX12_plan 267 = .ok (.getfield 233, 3) := by decide +kernel
theorem dX12_plan_270 : decode cX12_plan 270 = .ok (.iload 14, 2) := by decide +kernel
theorem dX12_plan_272 : decode cX12_plan 272 = .ok (.lconst 0, 1) := by decide +kernel
theorem dX12_plan_273 : decode cX12_plan 273 = .ok (.lastore, 1) := by decide +kernel
theorem dX12_plan_274 : decode cX12_plan 274 = .ok (.iinc 14 1, 3) := by decide +kernel
theorem dX12_plan_277 : decode cX12_plan 277 = .ok (.goto (-17), 3) := by decide +kernel
theorem dX12_plan_280 : decode cX12_plan 280 = .ok (.iconst 0, 1) := by decide +kernel
theorem dX12_plan_281 : decode cX12_plan 281 = .ok (.istore 14, 2) := by decide +kernel
theorem dX12_plan_283 : decode cX12_plan 283 = .ok (.iload 14, 2) := by decide +kernel
theorem dX12_plan_285 : decode cX12_plan 285 = .ok (.iload_n 2, 1) := by decide +kernel
theorem dX12_plan_286 : decode cX12_plan 286 = .ok (.if_icmp .ge 81, 3) := by decide +kernel
theorem dX12_plan_289 : decode cX12_plan 289 = .ok (.lload 9, 2) := by decide +kernel
theorem dX12_plan_291 : decode cX12_plan 291 = .ok (.aload_n 0, 1) := by decide +kernel
theorem dX12_plan_292 : decode cX12_plan 292 = .ok (.getfield 227, 3) := by decide +kernel
theorem dX12_plan_295 : decode cX12_plan 295 = .ok (.iconst 5, 1) := by decide +kernel
theorem dX12_plan_296 : decode cX12_plan 296 = .ok (.iload 14, 2) := by decide +kernel
theorem dX12_plan_298 : decode cX12_plan 298 = .ok (.imul, 1) := by decide +kernel
theorem dX12_plan_299 : decode cX12_plan 299 = .ok (.aload_n 0, 1) := by decide +kernel
theorem dX12_plan_300 : decode cX12_plan 300 = .ok (.getfield 218, 3) := by decide +kernel
theorem dX12_plan_303 : decode cX12_plan 303 = .ok (.iload 14, 2) := by decide +kernel
theorem dX12_plan_305 : decode cX12_plan 305 = .ok (.iaload, 1) := by decide +kernel
theorem dX12_plan_306 : decode cX12_plan 306 = .ok (.iadd, 1) := by decide +kernel
theorem dX12_plan_307 : decode cX12_plan 307 = .ok (.laload, 1) := by decide +kernel
theorem dX12_plan_308 : decode cX12_plan 308 = .ok (.ladd, 1) := by decide +kernel
theorem dX12_plan_309 : decode cX12_plan 309 = .ok (.lstore 9, 2) := by decide +kernel
theorem dX12_plan_311 : decode cX12_plan 311 = .ok (.lload 11, 2) := by decide +kernel
theorem dX12_plan_313 : decode cX12_plan 313 = .ok (.aload_n 0, 1) := by decide +kernel
theorem dX12_plan_314 : decode cX12_plan 314 = .ok (.getfield 230, 3) := by decide +kernel
theorem dX12_plan_317 : decode cX12_plan 317 = .ok (.iconst 5, 1) := by decide +kernel
theorem dX12_plan_318 : decode cX12_plan 318 = .ok (.iload 14, 2) := by decide +kernel
theorem dX12_plan_320 : decode cX12_plan 320 = .ok (.imul, 1) := by decide +kernel
theorem dX12_plan_321 : decode cX12_plan 321 = .ok (.aload_n 0, 1) := by decide +kernel
theorem dX12_plan_322 : decode cX12_plan 322 = .ok (.getfield 218, 3) := by decide +kernel
theorem dX12_plan_325 : decode cX12_plan 325 = .ok (.iload 14, 2) := by decide +kernel
theorem dX12_plan_327 : decode cX12_plan 327 = .ok (.iaload, 1) := by decide +kernel
theorem dX12_plan_328 : decode cX12_plan 328 = .ok (.iadd, 1) := by decide +kernel
theorem dX12_plan_329 : decode cX12_plan 329 = .ok (.laload, 1) := by decide +kernel
theorem dX12_plan_330 : decode cX12_plan 330 = .ok (.ladd, 1) := by decide +kernel
theorem dX12_plan_331 : decode cX12_plan 331 = .ok (.lstore 11, 2) := by decide +kernel
theorem dX12_plan_333 : decode cX12_plan 333 = .ok (.aload_n 0, 1) := by decide +kernel
theorem dX12_plan_334 : decode cX12_plan 334 = .ok (.getfield 233, 3) := by decide +kernel
theorem dX12_plan_337 : decode cX12_plan 337 = .ok (.aload_n 0, 1) := by decide +kernel
theorem dX12_plan_338 : decode cX12_plan 338 = .ok (.getfield 218, 3) := by decide +kernel
theorem dX12_plan_341 : decode cX12_plan 341 = .ok (.iload 14, 2) := by decide +kernel
theorem dX12_plan_343 : decode cX12_plan 343 = .ok (.iaload, 1) := by decide +kernel
theorem dX12_plan_344 : decode cX12_plan 344 = .ok (.dup2, 1) := by decide +kernel
theorem dX12_plan_345 : decode cX12_plan 345 = .ok (.laload, 1) := by decide +kernel
theorem dX12_plan_346 : decode cX12_plan 346 = .ok (.aload_n 0, 1) := by decide +kernel
theorem dX12_plan_347 : decode cX12_plan 347 = .ok (.getfield 35, 3) := by decide +kernel
theorem dX12_plan_350 : decode cX12_plan 350 = .ok (.aload_n 0, 1) := by decide +kernel
theorem dX12_plan_351 : decode cX12_plan 351 = .ok (.getfield 215, 3) := by decide +kernel
theorem dX12_plan_354 : decode cX12_plan 354 = .ok (.iload 14, 2) := by decide +kernel
theorem dX12_plan_356 : decode cX12_plan 356 = .ok (.iaload, 1) := by decide +kernel
theorem dX12_plan_357 : decode cX12_plan 357 = .ok (.iaload, 1) := by decide +kernel
theorem dX12_plan_358 : decode cX12_plan 358 = .ok (.i2l, 1) := by decide +kernel
theorem dX12_plan_359 : decode cX12_plan 359 = .ok (.ladd, 1) := by decide +kernel
theorem dX12_plan_360 : decode cX12_plan 360 = .ok (.lastore, 1) := by decide +kernel
theorem dX12_plan_361 : decode cX12_plan 361 = .ok (.iinc 14 1, 3) := by decide +kernel
theorem dX12_plan_364 : decode cX12_plan 364 = .ok (.goto (-81), 3) := by decide +kernel
theorem dX12_plan_367 : decode cX12_plan 367 = .ok (.iconst 0, 1) := by decide +kernel
theorem dX12_plan_368 : decode cX12_plan 368 = .ok (.istore 14, 2) := by decide +kernel
theorem dX12_plan_370 : decode cX12_plan 370 = .ok (.iload 14, 2) := by decide +kernel
theorem dX12_plan_372 : decode cX12_plan 372 = .ok (.iload_n 3, 1) := by decide +kernel
theorem dX12_plan_373 : decode cX12_plan 373 = .ok (.if_icmp .ge 45, 3) := by decide +kernel
theorem dX12_plan_376 : decode cX12_plan 376 = .ok (.iload 13, 2) := by decide +kernel
theorem dX12_plan_378 : decode cX12_plan 378 = .ok (.ifCond .eq 31, 3) := by decide +kernel
theorem dX12_plan_381 : decode cX12_plan 381 = .ok (.aload_n 0, 1) := by decide +kernel
theorem dX12_plan_382 : decode cX12_plan 382 = .ok (.getfield 233, 3) := by decide +kernel
theorem dX12_plan_385 : decode cX12_plan 385 = .ok (.iload 14, 2) := by decide +kernel
theorem dX12_plan_387 : decode cX12_plan 387 = .ok (.laload, 1) := by decide +kernel
theorem dX12_plan_388 : decode cX12_plan 388 = .ok (.aload_n 0, 1) := by decide +kernel
theorem dX12_plan_389 : decode cX12_plan 389 = .ok (.getfield 185, 3) := by decide +kernel
theorem dX12_plan_392 : decode cX12_plan 392 = .ok (.aload_n 0, 1) := by decide +kernel
theorem dX12_plan_393 : decode cX12_plan 393 = .ok (.getfield 212, 3) := by decide +kernel
theorem dX12_plan_396 : decode cX12_plan 396 = .ok (.iload 14, 2) := by decide +kernel
theorem dX12_plan_398 : decode cX12_plan 398 = .ok (.iaload, 1) := by decide +kernel
theorem dX12_plan_399 : decode cX12_plan 399 = .ok (.iaload, 1) := by decide +kernel
theorem dX12_plan_400 : decode cX12_plan 400 = .ok (.i2l, 1) := by decide +kernel
theorem dX12_plan_401 : decode cX12_plan 401 = .ok (.lcmp, 1) := by decide +kernel
theorem dX12_plan_402 : decode cX12_plan 402 = .ok (.ifCond .gt 7, 3) := by decide +kernel
theorem dX12_plan_405 : decode cX12_plan 405 = .ok (.iconst 1, 1) := by decide +kernel
theorem dX12_plan_406 : decode cX12_plan 406 = .ok (.goto 4, 3) := by decide +kernel
theorem dX12_plan_409 : decode cX12_plan 409 = .ok (.iconst 0, 1) := by decide +kernel
theorem dX12_plan_410 : decode cX12_plan 410 = .ok (.istore 13, 2) := by decide +kernel
theorem dX12_plan_412 : decode cX12_plan 412 = .ok (.iinc 14 1, 3) := by decide +kernel
theorem dX12_plan_415 : decode cX12_plan 415 = .ok (.goto (-45), 3) := by decide +kernel
theorem dX12_plan_418 : decode cX12_plan 418 = .ok (.iload 13, 2) := by decide +kernel
theorem dX12_plan_420 : decode cX12_plan 420 = .ok (.ifCond .eq 84, 3) := by decide +kernel
theorem dX12_plan_423 : decode cX12_plan 423 = .ok (.lload 9, 2) := by decide +kernel
theorem dX12_plan_425 : decode cX12_plan 425 = .ok (.lload 4, 2) := by decide +kernel
theorem dX12_plan_427 : decode cX12_plan 427 = .ok (.lcmp, 1) := by decide +kernel
theorem dX12_plan_428 : decode cX12_plan 428 = .ok (.ifCond .gt 19, 3) := by decide +kernel
theorem dX12_plan_431 : decode cX12_plan 431 = .ok (.lload 9, 2) := by decide +kernel
theorem dX12_plan_433 : decode cX12_plan 433 = .ok (.lload 4, 2) := by decide +kernel
theorem dX12_plan_435 : decode cX12_plan 435 = .ok (.lcmp, 1) := by decide +kernel
theorem dX12_plan_436 : decode cX12_plan 436 = .ok (.ifCond .ne 68, 3) := by decide +kernel
theorem dX12_plan_439 : decode cX12_plan 439 = .ok (.lload 11, 2) := by decide +kernel
theorem dX12_plan_441 : decode cX12_plan 441 = .ok (.lload 6, 2) := by decide +kernel
theorem dX12_plan_443 : decode cX12_plan 443 = .ok (.lcmp, 1) := by decide +kernel
theorem dX12_plan_444 : decode cX12_plan 444 = .ok (.ifCond .le 60, 3) := by decide +kernel
theorem dX12_plan_447 : decode cX12_plan 447 = .ok (.lload 9, 2) := by decide +kernel
theorem dX12_plan_449 : decode cX12_plan 449 = .ok (.lstore 4, 2) := by decide +kernel
theorem dX12_plan_451 : decode cX12_plan 451 = .ok (.lload 11, 2) := by decide +kernel
theorem dX12_plan_453 : decode cX12_plan 453 = .ok (.lstore 6, 2) := by decide +kernel
theorem dX12_plan_455 : decode cX12_plan 455 = .ok (.iconst 0, 1) := by decide +kernel
theorem dX12_plan_456 : decode cX12_plan 456 = .ok (.istore 14, 2) := by decide +kernel
theorem dX12_plan_458 : decode cX12_plan 458 = .ok (.iload 14, 2) := by decide +kernel
theorem dX12_plan_460 : decode cX12_plan 460 = .ok (.iload_n 2, 1) := by decide +kernel
theorem dX12_plan_461 : decode cX12_plan 461 = .ok (.if_icmp .ge 43, 3) := by decide +kernel
theorem dX12_plan_464 : decode cX12_plan 464 = .ok (.aload_n 0, 1) := by decide +kernel
theorem dX12_plan_465 : decode cX12_plan 465 = .ok (.getfield 209, 3) := by decide +kernel
theorem dX12_plan_468 : decode cX12_plan 468 = .ok (.iload 14, 2) := by decide +kernel
theorem dX12_plan_470 : decode cX12_plan 470 = .ok (.aload_n 0, 1) := by decide +kernel
theorem dX12_plan_471 : decode cX12_plan 471 = .ok (.getfield 218, 3) := by decide +kernel
theorem dX12_plan_474 : decode cX12_plan 474 = .ok (.iload 14, 2) := by decide +kernel
theorem dX12_plan_476 : decode cX12_plan 476 = .ok (.iaload, 1) := by decide +kernel
theorem dX12_plan_477 : decode cX12_plan 477 = .ok (.iload_n 3, 1) := by decide +kernel
theorem dX12_plan_478 : decode cX12_plan 478 = .ok (.if_icmp .ne 7, 3) := by decide +kernel
theorem dX12_plan_481 : decode cX12_plan 481 = .ok (.iconst (-1), 1) := by decide +kernel
theorem dX12_plan_482 : decode cX12_plan 482 = .ok (.goto 15, 3) := by decide +kernel
theorem dX12_plan_485 : decode cX12_plan 485 = .ok (.aload_n 0, 1) := by decide +kernel
theorem dX12_plan_486 : decode cX12_plan 486 = .ok (.getfield 212, 3) := by decide +kernel
theorem dX12_plan_489 : decode cX12_plan 489 = .ok (.aload_n 0, 1) := by decide +kernel
theorem dX12_plan_490 : decode cX12_plan 490 = .ok (.getfield 218, 3) := by decide +kernel
theorem dX12_plan_493 : decode cX12_plan 493 = .ok (.iload 14, 2) := by decide +kernel
theorem dX12_plan_495 : decode cX12_plan 495 = .ok (.iaload, 1) := by decide +kernel
theorem dX12_plan_496 : decode cX12_plan 496 = .ok (.iaload, 1) := by decide +kernel
theorem dX12_plan_497 : decode cX12_plan 497 = .ok (.iastore, 1) := by decide +kernel
theorem dX12_plan_498 : decode cX12_plan 498 = .ok (.iinc 14 1, 3) := by decide +kernel
theorem dX12_plan_501 : decode cX12_plan 501 = .ok (.goto (-43), 3) := by decide +kernel
theorem dX12_plan_504 : decode cX12_plan 504 = .ok (.iconst 0, 1) := by decide +kernel
theorem dX12_plan_505 : decode cX12_plan 505 = .ok (.istore 8, 2) := by decide +kernel
theorem dX12_plan_507 : decode cX12_plan 507 = .ok (.iload_n 2, 1) := by decide +kernel
theorem dX12_plan_508 : decode cX12_plan 508 = .ok (.iconst 1, 1) := by decide +kernel
theorem dX12_plan_509 : decode cX12_plan 509 = .ok (.isub, 1) := by decide +kernel
theorem dX12_plan_510 : decode cX12_plan 510 = .ok (.istore 14, 2) := by decide +kernel
theorem dX12_plan_512 : decode cX12_plan 512 = .ok (.iload 14, 2) := by decide +kernel
theorem dX12_plan_514 : decode cX12_plan 514 = .ok (.ifCond .lt 66, 3) := by decide +kernel
theorem dX12_plan_517 : decode cX12_plan 517 = .ok (.iload 8, 2) := by decide +kernel
theorem dX12_plan_519 : decode cX12_plan 519 = .ok (.ifCond .ne 61, 3) := by decide +kernel
theorem dX12_plan_522 : decode cX12_plan 522 = .ok (.aload_n 0, 1) := by decide +kernel
theorem dX12_plan_523 : decode cX12_plan 523 = .ok (.getfield 218, 3) := by decide +kernel
theorem dX12_plan_526 : decode cX12_plan 526 = .ok (.iload 14, 2) := by decide +kernel
theorem dX12_plan_528 : decode cX12_plan 528 = .ok (.dup2, 1) := by decide +kernel
theorem dX12_plan_529 : decode cX12_plan 529 = .ok (.iaload, 1) := by decide +kernel
theorem dX12_plan_530 : decode cX12_plan 530 = .ok (.iconst 1, 1) := by decide +kernel
theorem dX12_plan_531 : decode cX12_plan 531 = .ok (.iadd, 1) := by decide +kernel
theorem dX12_plan_532 : decode cX12_plan 532 = .ok (.iastore, 1) := by decide +kernel
theorem dX12_plan_533 : decode cX12_plan 533 = .ok (.aload_n 0, 1) := by decide +kernel
theorem dX12_plan_534 : decode cX12_plan 534 = .ok (.getfield 218, 3) := by decide +kernel
theorem dX12_plan_537 : decode cX12_plan 537 = .ok (.iload 14, 2) := by decide +kernel
theorem dX12_plan_539 : decode cX12_plan 539 = .ok (.iaload, 1) := by decide +kernel
theorem dX12_plan_540 : decode cX12_plan 540 = .ok (.iload_n 3, 1) := by decide +kernel
theorem dX12_plan_541 : decode cX12_plan 541 = .ok (.if_icmp .gt 7, 3) := by decide +kernel
theorem dX12_plan_544 : decode cX12_plan 544 = .ok (.iconst 1, 1) := by decide +kernel
theorem dX12_plan_545 : decode cX12_plan 545 = .ok (.goto 4, 3) := by decide +kernel
theorem dX12_plan_548 : decode cX12_plan 548 = .ok (.iconst 0, 1) := by decide +kernel
theorem dX12_plan_549 : decode cX12_plan 549 = .ok (.istore 8, 2) := by decide +kernel
theorem dX12_plan_551 : decode cX12_plan 551 = .ok (.aload_n 0, 1) := by decide +kernel
theorem dX12_plan_552 : decode cX12_plan 552 = .ok (.getfield 218, 3) := by decide +kernel
theorem dX12_plan_555 : decode cX12_plan 555 = .ok (.iload 14, 2) := by decide +kernel
theorem dX12_plan_557 : decode cX12_plan 557 = .ok (.iload 8, 2) := by decide +kernel
theorem dX12_plan_559 : decode cX12_plan 559 = .ok (.ifCond .eq 13, 3) := by decide +kernel
theorem dX12_plan_562 : decode cX12_plan 562 = .ok (.aload_n 0, 1) := by decide +kernel
theorem dX12_plan_563 : decode cX12_plan 563 = .ok (.getfield 218, 3) := by decide +kernel
theorem dX12_plan_566 : decode cX12_plan 566 = .ok (.iload 14, 2) := by decide +kernel
theorem dX12_plan_568 : decode cX12_plan 568 = .ok (.iaload, 1) := by decide +kernel
theorem dX12_plan_569 : decode cX12_plan 569 = .ok (.goto 4, 3) := by decide +kernel
theorem dX12_plan_572 : decode cX12_plan 572 = .ok (.iconst 0, 1) := by decide +kernel
theorem dX12_plan_573 : decode cX12_plan 573 = .ok (.iastore, 1) := by decide +kernel
theorem dX12_plan_574 : decode cX12_plan 574 = .ok (.iinc 14 (-1), 3) := by decide +kernel
theorem dX12_plan_577 : decode cX12_plan 577 = .ok (.goto (-65), 3) := by decide +kernel
theorem dX12_plan_580 : decode cX12_plan 580 = .ok (.goto (-337), 3) := by decide +kernel
theorem dX12_plan_583 : decode cX12_plan 583 = .ok (.iconst 0, 1) := by decide +kernel
theorem dX12_plan_584 : decode cX12_plan 584 = .ok (.istore 9, 2) := by decide +kernel
theorem dX12_plan_586 : decode cX12_plan 586 = .ok (.iload 9, 2) := by decide +kernel
theorem dX12_plan_588 : decode cX12_plan 588 = .ok (.iload_n 2, 1) := by decide +kernel
theorem dX12_plan_589 : decode cX12_plan 589 = .ok (.if_icmp .ge 23, 3) := by decide +kernel
theorem dX12_plan_592 : decode cX12_plan 592 = .ok (.aload_n 0, 1) := by decide +kernel
theorem dX12_plan_593 : decode cX12_plan 593 = .ok (.getfield 206, 3) := by decide +kernel
theorem dX12_plan_596 : decode cX12_plan 596 = .ok (.iload 9, 2) := by decide +kernel
theorem dX12_plan_598 : decode cX12_plan 598 = .ok (.aload_n 0, 1) := by decide +kernel
theorem dX12_plan_599 : decode cX12_plan 599 = .ok (.getfield 215, 3) := by decide +kernel
theorem dX12_plan_602 : decode cX12_plan 602 = .ok (.iload 9, 2) := by decide +kernel
theorem dX12_plan_604 : decode cX12_plan 604 = .ok (.iaload, 1) := by decide +kernel
theorem dX12_plan_605 : decode cX12_plan 605 = .ok (.iastore, 1) := by decide +kernel
theorem dX12_plan_606 : decode cX12_plan 606 = .ok (.iinc 9 1, 3) := by decide +kernel
theorem dX12_plan_609 : decode cX12_plan 609 = .ok (.goto (-23), 3) := by decide +kernel
theorem dX12_plan_612 : decode cX12_plan 612 = .ok (.aload_n 0, 1) := by decide +kernel
theorem dX12_plan_613 : decode cX12_plan 613 = .ok (.iconst 1, 1) := by decide +kernel
theorem dX12_plan_614 : decode cX12_plan 614 = .ok (.putfield 558, 3) := by decide +kernel
theorem dX12_plan_617 : decode cX12_plan 617 = .ok (.aload_n 0, 1) := by decide +kernel
theorem dX12_plan_618 : decode cX12_plan 618 = .ok (.iload_n 2, 1) := by decide +kernel
theorem dX12_plan_619 : decode cX12_plan 619 = .ok (.putfield 562, 3) := by decide +kernel
theorem dX12_plan_622 : decode cX12_plan 622 = .ok (.aload_n 0, 1) := by decide +kernel
theorem dX12_plan_623 : decode cX12_plan 623 = .ok (.iload_n 3, 1) := by decide +kernel
theorem dX12_plan_624 : decode cX12_plan 624 = .ok (.putfield 565, 3) := by decide +kernel
theorem dX12_plan_627 : decode cX12_plan 627 = .ok (.aload_n 0, 1) := by decide +kernel
theorem dX12_plan_628 : decode cX12_plan 628 = .ok (.lload 6, 2) := by decide +kernel
theorem dX12_plan_630 : decode cX12_plan 630 = .ok (.putfield 568, 3) := by decide +kernel
theorem dX12_plan_633 : decode cX12_plan 633 = .ok (.lload 4, 2) := by decide +kernel
theorem dX12_plan_635 : decode cX12_plan 635 = .ok (.lreturn, 1) := by decide +kernel
theorem dX12_planned_0 : decode cX12_planned 0 = .ok (.aload_n 0, 1) := by decide +kernel
theorem dX12_planned_1 : decode cX12_planned 1 = .ok (.getfield 558, 3) := by decide +kernel
theorem dX12_planned_4 : decode cX12_planned 4 = .ok (.ifCond .eq 26, 3) := by decide +kernel
theorem dX12_planned_7 : decode cX12_planned 7 = .ok (.iload_n 1, 1) := by decide +kernel
theorem dX12_planned_8 : decode cX12_planned 8 = .ok (.iconst (-1), 1) := by decide +kernel
theorem dX12_planned_9 : decode cX12_planned 9 = .ok (.aload_n 0, 1) := by decide +kernel
theorem dX12_planned_10 : decode cX12_planned 10 = .ok (.getfield 562, 3) := by decide +kernel
theorem dX12_planned_13 : decode cX12_planned 13 = .ok (.iconst 1, 1) := by decide +kernel
theorem dX12_planned_14 : decode cX12_planned 14 = .ok (.isub, 1) := by decide +kernel
theorem dX12_planned_15 : decode cX12_planned 15 = .ok (.invokestatic 269, 3) := by decide +kernel
theorem dX12_planned_18 : decode cX12_planned 18 = .ok (.ifCond .eq 12, 3) := by decide +kernel
theorem dX12_planned_21 : decode cX12_planned 21 = .ok (.iload_n 2, 1) := by decide +kernel
theorem dX12_planned_22 : decode cX12_planned 22 = .ok (.iconst 0, 1) := by decide +kernel
theorem dX12_planned_23 : decode cX12_planned 23 = .ok (.iconst 1, 1) := by decide +kernel
theorem dX12_planned_24 : decode cX12_planned 24 = .ok (.invokestatic 269, 3) := by decide +kernel
theorem dX12_planned_27 : decode cX12_planned 27 = .ok (.ifCond .ne 5, 3) := by decide +kernel
theorem dX12_planned_30 : decode cX12_planned 30 = .ok (.iconst (-1), 1) := by decide +kernel
theorem dX12_planned_31 : decode cX12_planned 31 = .ok (.ireturn, 1) := by decide +kernel
theorem dX12_planned_32 : decode cX12_planned 32 = .ok (.iload_n 1, 1) := by decide +kernel
theorem dX12_planned_33 : decode cX12_planned 33 = .ok (.iconst (-1), 1) := by decide +kernel
theorem dX12_planned_34 : decode cX12_planned 34 = .ok (.if_icmp .ne 19, 3) := by decide +kernel
theorem dX12_planned_37 : decode cX12_planned 37 = .ok (.iload_n 2, 1) := by decide +kernel
theorem dX12_planned_38 : decode cX12_planned 38 = .ok (.ifCond .ne 10, 3) := by decide +kernel
theorem dX12_planned_41 : decode cX12_planned 41 = .ok (.aload_n 0, 1) := by decide +kernel
theorem dX12_planned_42 : decode cX12_planned 42 = .ok (.getfield 562, 3) := by decide +kernel
theorem dX12_planned_45 : decode cX12_planned 45 = .ok (.goto 7, 3) := by decide +kernel
theorem dX12_planned_48 : decode cX12_planned 48 = .ok (.aload_n 0, 1) := by decide +kernel
theorem dX12_planned_49 : decode cX12_planned 49 = .ok (.getfield 565, 3) := by decide +kernel
theorem dX12_planned_52 : decode cX12_planned 52 = .ok (.ireturn, 1) := by decide +kernel
theorem dX12_planned_53 : decode cX12_planned 53 = .ok (.iload_n 2, 1) := by decide +kernel
theorem dX12_planned_54 : decode cX12_planned 54 = .ok (.ifCond .ne 12, 3) := by decide +kernel
theorem dX12_planned_57 : decode cX12_planned 57 = .ok (.aload_n 0, 1) := by decide +kernel
theorem dX12_planned_58 : decode cX12_planned 58 = .ok (.getfield 206, 3) := by decide +kernel
theorem dX12_planned_61 : decode cX12_planned 61 = .ok (.iload_n 1, 1) := by decide +kernel
theorem dX12_planned_62 : decode cX12_planned 62 = .ok (.iaload, 1) := by decide +kernel
theorem dX12_planned_63 : decode cX12_planned 63 = .ok (.goto 9, 3) := by decide +kernel
theorem dX12_planned_66 : decode cX12_planned 66 = .ok (.aload_n 0, 1) := by decide +kernel
theorem dX12_planned_67 : decode cX12_planned 67 = .ok (.getfield 209, 3) := by decide +kernel
theorem dX12_planned_70 : decode cX12_planned 70 = .ok (.iload_n 1, 1) := by decide +kernel
theorem dX12_planned_71 : decode cX12_planned 71 = .ok (.iaload, 1) := by decide +kernel
theorem dX12_planned_72 : decode cX12_planned 72 = .ok (.ireturn, 1) := by decide +kernel
theorem dX12_high_0 : decode cX12_high 0 = .ok (.aload_n 0, 1) := by decide +kernel
theorem dX12_high_1 : decode cX12_high 1 = .ok (.getfield 558, 3) := by decide +kernel
theorem dX12_high_4 : decode cX12_high 4 = .ok (.ifCond .eq 10, 3) := by decide +kernel
theorem dX12_high_7 : decode cX12_high 7 = .ok (.aload_n 0, 1) := by decide +kernel
theorem dX12_high_8 : decode cX12_high 8 = .ok (.getfield 568, 3) := by decide +kernel
theorem dX12_high_11 : decode cX12_high 11 = .ok (.goto 6, 3) := by decide +kernel
theorem dX12_high_14 : decode cX12_high 14 = .ok (.ldc2_w 553, 3) := by decide +kernel
theorem dX12_high_17 : decode cX12_high 17 = .ok (.lreturn, 1) := by decide +kernel
theorem dX12_sail_0 : decode cX12_sail 0 = .ok (.aload_n 0, 1) := by decide +kernel
theorem dX12_sail_1 : decode cX12_sail 1 = .ok (.iload_n 1, 1) := by decide +kernel
theorem dX12_sail_2 : decode cX12_sail 2 = .ok (.invokevirtual 285, 3) := by decide +kernel
theorem dX12_sail_5 : decode cX12_sail 5 = .ok (.ifCond .eq 44, 3) := by decide +kernel
theorem dX12_sail_8 : decode cX12_sail 8 = .ok (.iload_n 2, 1) := by decide +kernel
theorem dX12_sail_9 : decode cX12_sail 9 = .ok (.iconst 0, 1) := by decide +kernel
theorem dX12_sail_10 : decode cX12_sail 10 = .ok (.aload_n 0, 1) := by decide +kernel
theorem dX12_sail_11 : decode cX12_sail 11 = .ok (.getfield 547, 3) := by decide +kernel
theorem dX12_sail_14 : decode cX12_sail 14 = .ok (.iconst 1, 1) := by decide +kernel
theorem dX12_sail_15 : decode cX12_sail 15 = .ok (.isub, 1) := by decide +kernel
theorem dX12_sail_16 : decode cX12_sail 16 = .ok (.invokestatic 269, 3) := by decide +kernel
theorem dX12_sail_19 : decode cX12_sail 19 = .ok (.ifCond .eq 30, 3) := by decide +kernel
theorem dX12_sail_22 : decode cX12_sail 22 = .ok (.aload_n 0, 1) := by decide +kernel
theorem dX12_sail_23 : decode cX12_sail 23 = .ok (.getfield 273, 3) := by decide +kernel
theorem dX12_sail_26 : decode cX12_sail 26 = .ok (.aload_n 0, 1) := by decide +kernel
theorem dX12_sail_27 : decode cX12_sail 27 = .ok (.getfield 179, 3) := by decide +kernel
theorem dX12_sail_30 : decode cX12_sail 30 = .ok (.iload_n 2, 1) := by decide +kernel
theorem dX12_sail_31 : decode cX12_sail 31 = .ok (.iaload, 1) := by decide +kernel
theorem dX12_sail_32 : decode cX12_sail 32 = .ok (.if_icmp .gt 17, 3) := by decide +kernel
theorem dX12_sail_35 : decode cX12_sail 35 = .ok (.aload_n 0, 1) := by decide +kernel
theorem dX12_sail_36 : decode cX12_sail 36 = .ok (.getfield 203, 3) := by decide +kernel
theorem dX12_sail_39 : decode cX12_sail 39 = .ok (.bipush 40, 2) := by decide +kernel
theorem dX12_sail_41 : decode cX12_sail 41 = .ok (.iload_n 2, 1) := by decide +kernel
theorem dX12_sail_42 : decode cX12_sail 42 = .ok (.imul, 1) := by decide +kernel
theorem dX12_sail_43 : decode cX12_sail 43 = .ok (.iload_n 1, 1) := by decide +kernel
theorem dX12_sail_44 : decode cX12_sail 44 = .ok (.iadd, 1) := by decide +kernel
theorem dX12_sail_45 : decode cX12_sail 45 = .ok (.baload, 1) := by decide +kernel
theorem dX12_sail_46 : decode cX12_sail 46 = .ok (.ifCond .eq 5, 3) := by decide +kernel
theorem dX12_sail_49 : decode cX12_sail 49 = .ok (.iconst (-1), 1) := by decide +kernel
theorem dX12_sail_50 : decode cX12_sail 50 = .ok (.ireturn, 1) := by decide +kernel
theorem dX12_sail_51 : decode cX12_sail 51 = .ok (.aload_n 0, 1) := by decide +kernel
theorem dX12_sail_52 : decode cX12_sail 52 = .ok (.getfield 203, 3) := by decide +kernel
theorem dX12_sail_55 : decode cX12_sail 55 = .ok (.bipush 40, 2) := by decide +kernel
theorem dX12_sail_57 : decode cX12_sail 57 = .ok (.iload_n 2, 1) := by decide +kernel
theorem dX12_sail_58 : decode cX12_sail 58 = .ok (.imul, 1) := by decide +kernel
theorem dX12_sail_59 : decode cX12_sail 59 = .ok (.iload_n 1, 1) := by decide +kernel
theorem dX12_sail_60 : decode cX12_sail 60 = .ok (.iadd, 1) := by decide +kernel
theorem dX12_sail_61 : decode cX12_sail 61 = .ok (.iconst 1, 1) := by decide +kernel
theorem dX12_sail_62 : decode cX12_sail 62 = .ok (.bastore, 1) := by decide +kernel
theorem dX12_sail_63 : decode cX12_sail 63 = .ok (.aload_n 0, 1) := by decide +kernel
theorem dX12_sail_64 : decode cX12_sail 64 = .ok (.getfield 179, 3) := by decide +kernel
theorem dX12_sail_67 : decode cX12_sail 67 = .ok (.iload_n 2, 1) := by decide +kernel
theorem dX12_sail_68 : decode cX12_sail 68 = .ok (.iaload, 1) := by decide +kernel
theorem dX12_sail_69 : decode cX12_sail 69 = .ok (.aload_n 0, 1) := by decide +kernel
theorem dX12_sail_70 : decode cX12_sail 70 = .ok (.getfield 182, 3) := by decide +kernel
theorem dX12_sail_73 : decode cX12_sail 73 = .ok (.iload_n 2, 1) := by decide +kernel
theorem dX12_sail_74 : decode cX12_sail 74 = .ok (.iaload, 1) := by decide +kernel
theorem dX12_sail_75 : decode cX12_sail 75 = .ok (.iadd, 1) := by decide +kernel
theorem dX12_sail_76 : decode cX12_sail 76 = .ok (.istore_n 3, 1) := by decide +kernel
theorem dX12_sail_77 : decode cX12_sail 77 = .ok (.aload_n 0, 1) := by decide +kernel
theorem dX12_sail_78 : decode cX12_sail 78 = .ok (.aload_n 0, 1) := by decide +kernel
theorem dX12_sail_79 : decode cX12_sail 79 = .ok (.getfield 176, 3) := by decide +kernel
theorem dX12_sail_82 : decode cX12_sail 82 = .ok (.iload_n 2, 1) := by decide +kernel
theorem dX12_sail_83 : decode cX12_sail 83 = .ok (.iaload, 1) := by decide +kernel
theorem dX12_sail_84 : decode cX12_sail 84 = .ok (.iload_n 3, 1) := by decide +kernel
theorem dX12_sail_85 : decode cX12_sail 85 = .ok (.aload_n 0, 1) := by decide +kernel
theorem dX12_sail_86 : decode cX12_sail 86 = .ok (.getfield 179, 3) := by decide +kernel
theorem dX12_sail_89 : decode cX12_sail 89 = .ok (.iload_n 2, 1) := by decide +kernel
theorem dX12_sail_90 : decode cX12_sail 90 = .ok (.iaload, 1) := by decide +kernel
theorem dX12_sail_91 : decode cX12_sail 91 = .ok (.invokevirtual 469, 3) := by decide +kernel
theorem dX12_sail_94 : decode cX12_sail 94 = .ok (.ifCond .eq 15, 3) := by decide +kernel
theorem dX12_sail_97 : decode cX12_sail 97 = .ok (.aload_n 0, 1) := by decide +kernel
theorem dX12_sail_98 : decode cX12_sail 98 = .ok (.getfield 22, 3) := by decide +kernel
theorem dX12_sail_101 : decode cX12_sail 101 = .ok (.iload_n 1, 1) := by decide +kernel
theorem dX12_sail_102 : decode cX12_sail 102 = .ok (.dup2, 1) := by decide +kernel
theorem dX12_sail_103 : decode cX12_sail 103 = .ok (.iaload, 1) := by decide +kernel
theorem dX12_sail_104 : decode cX12_sail 104 = .ok (.iconst 1, 1) := by decide +kernel
theorem dX12_sail_105 : decode cX12_sail 105 = .ok (.iadd, 1) := by decide +kernel
theorem dX12_sail_106 : decode cX12_sail 106 = .ok (.iastore, 1) := by decide +kernel
theorem dX12_sail_107 : decode cX12_sail 107 = .ok (.iconst 1, 1) := by decide +kernel
theorem dX12_sail_108 : decode cX12_sail 108 = .ok (.ireturn, 1) := by decide +kernel
theorem dX12_sail_109 : decode cX12_sail 109 = .ok (.aload_n 0, 1) := by decide +kernel
theorem dX12_sail_110 : decode cX12_sail 110 = .ok (.aload_n 0, 1) := by decide +kernel
theorem dX12_sail_111 : decode cX12_sail 111 = .ok (.getfield 176, 3) := by decide +kernel
theorem dX12_sail_114 : decode cX12_sail 114 = .ok (.iload_n 2, 1) := by decide +kernel
theorem dX12_sail_115 : decode cX12_sail 115 = .ok (.iaload, 1) := by decide +kernel
theorem dX12_sail_116 : decode cX12_sail 116 = .ok (.iload_n 3, 1) := by decide +kernel
theorem dX12_sail_117 : decode cX12_sail 117 = .ok (.ldc_w 280, 3) := by decide +kernel
theorem dX12_sail_120 : decode cX12_sail 120 = .ok (.invokevirtual 469, 3) := by decide +kernel
theorem dX12_sail_123 : decode cX12_sail 123 = .ok (.ifCond .eq 7, 3) := by decide +kernel
theorem dX12_sail_126 : decode cX12_sail 126 = .ok (.iconst 2, 1) := by decide +kernel
theorem dX12_sail_127 : decode cX12_sail 127 = .ok (.goto 4, 3) := by decide +kernel
theorem dX12_sail_130 : decode cX12_sail 130 = .ok (.iconst 0, 1) := by decide +kernel
theorem dX12_sail_131 : decode cX12_sail 131 = .ok (.ireturn, 1) := by decide +kernel
theorem dX12_broke_0 : decode cX12_broke 0 = .ok (.aload_n 0, 1) := by decide +kernel
theorem dX12_broke_1 : decode cX12_broke 1 = .ok (.iload_n 1, 1) := by decide +kernel
theorem dX12_broke_2 : decode cX12_broke 2 = .ok (.invokevirtual 281, 3) := by decide +kernel
theorem dX12_broke_5 : decode cX12_broke 5 = .ok (.ifCond .eq 12, 3) := by decide +kernel
theorem dX12_broke_8 : decode cX12_broke 8 = .ok (.aload_n 0, 1) := by decide +kernel
theorem dX12_broke_9 : decode cX12_broke 9 = .ok (.getfield 22, 3) := by decide +kernel
theorem dX12_broke_12 : decode cX12_broke 12 = .ok (.iload_n 1, 1) := by decide +kernel
theorem dX12_broke_13 : decode cX12_broke 13 = .ok (.iaload, 1) := by decide +kernel
theorem dX12_broke_14 : decode cX12_broke 14 = .ok (.goto 4, 3) := by decide +kernel
theorem dX12_broke_17 : decode cX12_broke 17 = .ok (.iconst (-1), 1) := by decide +kernel
theorem dX12_broke_18 : decode cX12_broke 18 = .ok (.ireturn, 1) := by decide +kernel
theorem dX12_hand_0 : decode cX12_hand 0 = .ok (.iload_n 1, 1) := by decide +kernel
theorem dX12_hand_1 : decode cX12_hand 1 = .ok (.iconst 0, 1) := by decide +kernel
theorem dX12_hand_2 : decode cX12_hand 2 = .ok (.aload_n 0, 1) := by decide +kernel
theorem dX12_hand_3 : decode cX12_hand 3 = .ok (.getfield 571, 3) := by decide +kernel
theorem dX12_hand_6 : decode cX12_hand 6 = .ok (.bipush 8, 2) := by decide +kernel
theorem dX12_hand_8 : decode cX12_hand 8 = .ok (.if_icmp .ge 10, 3) := by decide +kernel
theorem dX12_hand_11 : decode cX12_hand 11 = .ok (.aload_n 0, 1) := by decide +kernel
theorem dX12_hand_12 : decode cX12_hand 12 = .ok (.getfield 571, 3) := by decide +kernel
theorem dX12_hand_15 : decode cX12_hand 15 = .ok (.goto 5, 3) := by decide +kernel
theorem dX12_hand_18 : decode cX12_hand 18 = .ok (.bipush 7, 2) := by decide +kernel
theorem dX12_hand_20 : decode cX12_hand 20 = .ok (.invokestatic 269, 3) := by decide +kernel
theorem dX12_hand_23 : decode cX12_hand 23 = .ok (.ifCond .eq 36, 3) := by decide +kernel
theorem dX12_hand_26 : decode cX12_hand 26 = .ok (.iload_n 2, 1) := by decide +kernel
theorem dX12_hand_27 : decode cX12_hand 27 = .ok (.iconst 0, 1) := by decide +kernel
theorem dX12_hand_28 : decode cX12_hand 28 = .ok (.sipush 9999, 3) := by decide +kernel
theorem dX12_hand_31 : decode cX12_hand 31 = .ok (.invokestatic 269, 3) := by decide +kernel
theorem dX12_hand_34 : decode cX12_hand 34 = .ok (.ifCond .eq 25, 3) := by decide +kernel
theorem dX12_hand_37 : decode cX12_hand 37 = .ok (.iload_n 3, 1) := by decide +kernel
theorem dX12_hand_38 : decode cX12_hand 38 = .ok (.iconst 0, 1) := by decide +kernel
theorem dX12_hand_39 : decode cX12_hand 39 = .ok (.sipush 9999, 3) := by decide +kernel
theorem dX12_hand_42 : decode cX12_hand 42 = .ok (.invokestatic 269, 3) := by decide +kernel
theorem dX12_hand_45 : decode cX12_hand 45 = .ok (.ifCond .eq 14, 3) := by decide +kernel
theorem dX12_hand_48 : decode cX12_hand 48 = .ok (.iload 4, 2) := by decide +kernel
theorem dX12_hand_50 : decode cX12_hand 50 = .ok (.iconst 1, 1) := by decide +kernel
theorem dX12_hand_51 : decode cX12_hand 51 = .ok (.bipush 8, 2) := by decide +kernel
theorem dX12_hand_53 : decode cX12_hand 53 = .ok (.invokestatic 269, 3) := by decide +kernel
theorem dX12_hand_56 : decode cX12_hand 56 = .ok (.ifCond .ne 5, 3) := by decide +kernel
theorem dX12_hand_59 : decode cX12_hand 59 = .ok (.iconst 0, 1) := by decide +kernel
theorem dX12_hand_60 : decode cX12_hand 60 = .ok (.ireturn, 1) := by decide +kernel
theorem dX12_hand_61 : decode cX12_hand 61 = .ok (.aload_n 0, 1) := by decide +kernel
theorem dX12_hand_62 : decode cX12_hand 62 = .ok (.getfield 236, 3) := by decide +kernel
theorem dX12_hand_65 : decode cX12_hand 65 = .ok (.iload_n 1, 1) := by decide +kernel
theorem dX12_hand_66 : decode cX12_hand 66 = .ok (.iload_n 2, 1) := by decide +kernel
theorem dX12_hand_67 : decode cX12_hand 67 = .ok (.iastore, 1) := by decide +kernel
theorem dX12_hand_68 : decode cX12_hand 68 = .ok (.aload_n 0, 1) := by decide +kernel
theorem dX12_hand_69 : decode cX12_hand 69 = .ok (.getfield 239, 3) := by decide +kernel
theorem dX12_hand_72 : decode cX12_hand 72 = .ok (.iload_n 1, 1) := by decide +kernel
theorem dX12_hand_73 : decode cX12_hand 73 = .ok (.iload_n 3, 1) := by decide +kernel
theorem dX12_hand_74 : decode cX12_hand 74 = .ok (.iastore, 1) := by decide +kernel
theorem dX12_hand_75 : decode cX12_hand 75 = .ok (.aload_n 0, 1) := by decide +kernel
theorem dX12_hand_76 : decode cX12_hand 76 = .ok (.getfield 242, 3) := by decide +kernel
theorem dX12_hand_79 : decode cX12_hand 79 = .ok (.iload_n 1, 1) := by decide +kernel
theorem dX12_hand_80 : decode cX12_hand 80 = .ok (.iload 4, 2) := by decide +kernel
theorem dX12_hand_82 : decode cX12_hand 82 = .ok (.iastore, 1) := by decide +kernel
theorem dX12_hand_83 : decode cX12_hand 83 = .ok (.aload_n 0, 1) := by decide +kernel
theorem dX12_hand_84 : decode cX12_hand 84 = .ok (.iload_n 1, 1) := by decide +kernel
theorem dX12_hand_85 : decode cX12_hand 85 = .ok (.aload_n 0, 1) := by decide +kernel
theorem dX12_hand_86 : decode cX12_hand 86 = .ok (.getfield 571, 3) := by decide +kernel
theorem dX12_hand_89 : decode cX12_hand 89 = .ok (.if_icmp .ne 9, 3) := by decide +kernel
theorem dX12_hand_92 : decode cX12_hand 92 = .ok (.iload_n 1, 1) := by decide +kernel
theorem dX12_hand_93 : decode cX12_hand 93 = .ok (.iconst 1, 1) := by decide +kernel
theorem dX12_hand_94 : decode cX12_hand 94 = .ok (.iadd, 1) := by decide +kernel
theorem dX12_hand_95 : decode cX12_hand 95 = .ok (.goto 7, 3) := by decide +kernel
theorem dX12_hand_98 : decode cX12_hand 98 = .ok (.aload_n 0, 1) := by decide +kernel
theorem dX12_hand_99 : decode cX12_hand 99 = .ok (.getfield 571, 3) := by decide +kernel
theorem dX12_hand_102 : decode cX12_hand 102 = .ok (.putfield 571, 3) := by decide +kernel
theorem dX12_hand_105 : decode cX12_hand 105 = .ok (.iconst 1, 1) := by decide +kernel
theorem dX12_hand_106 : decode cX12_hand 106 = .ok (.ireturn, 1) := by decide +kernel
theorem dX12_worth_0 : decode cX12_worth 0 = .ok (.aload_n 0, 1) := by decide +kernel
theorem dX12_worth_1 : decode cX12_worth 1 = .ok (.getfield 236, 3) := by decide +kernel
theorem dX12_worth_4 : decode cX12_worth 4 = .ok (.iload_n 1, 1) := by decide +kernel
theorem dX12_worth_5 : decode cX12_worth 5 = .ok (.iaload, 1) := by decide +kernel
theorem dX12_worth_6 : decode cX12_worth 6 = .ok (.iload_n 2, 1) := by decide +kernel
theorem dX12_worth_7 : decode cX12_worth 7 = .ok (.aload_n 0, 1) := by decide +kernel
theorem dX12_worth_8 : decode cX12_worth 8 = .ok (.getfield 242, 3) := by decide +kernel
theorem dX12_worth_11 : decode cX12_worth 11 = .ok (.iload_n 1, 1) := by decide +kernel
theorem dX12_worth_12 : decode cX12_worth 12 = .ok (.iaload, 1) := by decide +kernel
theorem dX12_worth_13 : decode cX12_worth 13 = .ok (.if_icmp .ge 12, 3) := by decide +kernel
theorem dX12_worth_16 : decode cX12_worth 16 = .ok (.aload_n 0, 1) := by decide +kernel
theorem dX12_worth_17 : decode cX12_worth 17 = .ok (.getfield 239, 3) := by decide +kernel
theorem dX12_worth_20 : decode cX12_worth 20 = .ok (.iload_n 1, 1) := by decide +kernel
theorem dX12_worth_21 : decode cX12_worth 21 = .ok (.iaload, 1) := by decide +kernel
theorem dX12_worth_22 : decode cX12_worth 22 = .ok (.goto 4, 3) := by decide +kernel
theorem dX12_worth_25 : decode cX12_worth 25 = .ok (.iconst 0, 1) := by decide +kernel
theorem dX12_worth_26 : decode cX12_worth 26 = .ok (.isub, 1) := by decide +kernel
theorem dX12_worth_27 : decode cX12_worth 27 = .ok (.ireturn, 1) := by decide +kernel
theorem dX12_breakers_0 : decode cX12_breakers 0 = .ok (.iload_n 1, 1) := by decide +kernel
theorem dX12_breakers_1 : decode cX12_breakers 1 = .ok (.iconst 1, 1) := by decide +kernel
theorem dX12_breakers_2 : decode cX12_breakers 2 = .ok (.bipush 8, 2) := by decide +kernel
theorem dX12_breakers_4 : decode cX12_breakers 4 = .ok (.invokestatic 269, 3) := by decide +kernel
theorem dX12_breakers_7 : decode cX12_breakers 7 = .ok (.ifCond .eq 11, 3) := by decide +kernel
theorem dX12_breakers_10 : decode cX12_breakers 10 = .ok (.iload_n 1, 1) := by decide +kernel
theorem dX12_breakers_11 : decode cX12_breakers 11 = .ok (.aload_n 0, 1) := by decide +kernel
theorem dX12_breakers_12 : decode cX12_breakers 12 = .ok (.getfield 571, 3) := by decide +kernel
theorem dX12_breakers_15 : decode cX12_breakers 15 = .ok (.if_icmp .le 5, 3) := by decide +kernel
theorem dX12_breakers_18 : decode cX12_breakers 18 = .ok (.iconst (-1), 1) := by decide +kernel
theorem dX12_breakers_19 : decode cX12_breakers 19 = .ok (.ireturn, 1) := by decide +kernel
theorem dX12_breakers_20 : decode cX12_breakers 20 = .ok (.aload_n 0, 1) := by decide +kernel
theorem dX12_breakers_21 : decode cX12_breakers 21 = .ok (.iconst 0, 1) := by decide +kernel
theorem dX12_breakers_22 : decode cX12_breakers 22 = .ok (.putfield 574, 3) := by decide +kernel
theorem dX12_breakers_25 : decode cX12_breakers 25 = .ok (.iconst 0, 1) := by decide +kernel
theorem dX12_breakers_26 : decode cX12_breakers 26 = .ok (.istore_n 2, 1) := by decide +kernel
theorem dX12_breakers_27 : decode cX12_breakers 27 = .ok (.iload_n 2, 1) := by decide +kernel
theorem dX12_breakers_28 : decode cX12_breakers 28 = .ok (.iconst 1, 1) := by decide +kernel
theorem dX12_breakers_29 : decode cX12_breakers 29 = .ok (.iload_n 1, 1) := by decide +kernel
theorem dX12_breakers_30 : decode cX12_breakers 30 = .ok (.ishl, 1) := by decide +kernel
theorem dX12_breakers_31 : decode cX12_breakers 31 = .ok (.if_icmp .ge 125, 3) := by decide +kernel
theorem dX12_breakers_34 : decode cX12_breakers 34 = .ok (.iconst 0, 1) := by decide +kernel
theorem dX12_breakers_35 : decode cX12_breakers 35 = .ok (.istore_n 3, 1) := by decide +kernel
theorem dX12_breakers_36 : decode cX12_breakers 36 = .ok (.iconst 0, 1) := by decide +kernel
theorem dX12_breakers_37 : decode cX12_breakers 37 = .ok (.istore 4, 2) := by decide +kernel
theorem dX12_breakers_39 : decode cX12_breakers 39 = .ok (.iload 4, 2) := by decide +kernel
theorem dX12_breakers_41 : decode cX12_breakers 41 = .ok (.iload_n 1, 1) := by decide +kernel
theorem dX12_breakers_42 : decode cX12_breakers 42 = .ok (.if_icmp .ge 18, 3) := by decide +kernel
theorem dX12_breakers_45 : decode cX12_breakers 45 = .ok (.iload_n 3, 1) := by decide +kernel
theorem dX12_breakers_46 : decode cX12_breakers 46 = .ok (.iload_n 2, 1) := by decide +kernel
theorem dX12_breakers_47 : decode cX12_breakers 47 = .ok (.iload 4, 2) := by decide +kernel
theorem dX12_breakers_49 : decode cX12_breakers 49 = .ok (.ishr, 1) := by decide +kernel
theorem dX12_breakers_50 : decode cX12_breakers 50 = .ok (.iconst 1, 1) := by decide +kernel
theorem dX12_breakers_51 : decode cX12_breakers 51 = .ok (.iand, 1) := by decide +kernel
theorem dX12_breakers_52 : decode cX12_breakers 52 = .ok (.iadd, 1) := by decide +kernel
theorem dX12_breakers_53 : decode cX12_breakers 53 = .ok (.istore_n 3, 1) := by decide +kernel
theorem dX12_breakers_54 : decode cX12_breakers 54 = .ok (.iinc 4 1, 3) := by decide +kernel
theorem dX12_breakers_57 : decode cX12_breakers 57 = .ok (.goto (-18), 3) := by decide +kernel
theorem dX12_breakers_60 : decode cX12_breakers 60 = .ok (.iconst 1, 1) := by decide +kernel
theorem dX12_breakers_61 : decode cX12_breakers 61 = .ok (.istore 4, 2) := by decide +kernel
theorem dX12_breakers_63 : decode cX12_breakers 63 = .ok (.iconst 0, 1) := by decide +kernel
theorem dX12_breakers_64 : decode cX12_breakers 64 = .ok (.istore 5, 2) := by decide +kernel
theorem dX12_breakers_66 : decode cX12_breakers 66 = .ok (.iload 5, 2) := by decide +kernel
theorem dX12_breakers_68 : decode cX12_breakers 68 = .ok (.iload_n 1, 1) := by decide +kernel
theorem dX12_breakers_69 : decode cX12_breakers 69 = .ok (.if_icmp .ge 56, 3) := by decide +kernel
theorem dX12_breakers_72 : decode cX12_breakers 72 = .ok (.iload 4, 2) := by decide +kernel
theorem dX12_breakers_74 : decode cX12_breakers 74 = .ok (.ifCond .eq 42, 3) := by decide +kernel
theorem dX12_breakers_77 : decode cX12_breakers 77 = .ok (.iload_n 2, 1) := by decide +kernel
theorem dX12_breakers_78 : decode cX12_breakers 78 = .ok (.iload 5, 2) := by decide +kernel
theorem dX12_breakers_80 : decode cX12_breakers 80 = .ok (.ishr, 1) := by decide +kernel
theorem dX12_breakers_81 : decode cX12_breakers 81 = .ok (.iconst 1, 1) := by decide +kernel
theorem dX12_breakers_82 : decode cX12_breakers 82 = .ok (.iand, 1) := by decide +kernel
theorem dX12_breakers_83 : decode cX12_breakers 83 = .ok (.iconst 1, 1) := by decide +kernel
theorem dX12_breakers_84 : decode cX12_breakers 84 = .ok (.if_icmp .ne 16, 3) := by decide +kernel
theorem dX12_breakers_87 : decode cX12_breakers 87 = .ok (.aload_n 0, 1) := by decide +kernel
theorem dX12_breakers_88 : decode cX12_breakers 88 = .ok (.iload 5, 2) := by decide +kernel
theorem dX12_breakers_90 : decode cX12_breakers 90 = .ok (.iload_n 3, 1) := by decide +kernel
theorem dX12_breakers_91 : decode cX12_breakers 91 = .ok (.invokevirtual 577, 3) := by decide +kernel
theorem dX12_breakers_94 : decode cX12_breakers 94 = .ok (.ifCond .lt 22, 3) := by decide +kernel
theorem dX12_breakers_97 : decode cX12_breakers 97 = .ok (.goto 15, 3) := by decide +kernel
theorem dX12_breakers_100 : decode cX12_breakers 100 = .ok (.aload_n 0, 1) := by decide +kernel
theorem dX12_breakers_101 : decode cX12_breakers 101 = .ok (.iload 5, 2) := by decide +kernel
theorem dX12_breakers_103 : decode cX12_breakers 103 = .ok (.iload_n 3, 1) := by decide +kernel
theorem dX12_breakers_104 : decode cX12_breakers 104 = .ok (.iconst 1, 1) := by decide +kernel
theorem dX12_breakers_105 : decode cX12_breakers 105 = .ok (.iadd, 1) := by decide +kernel
theorem dX12_breakers_106 : decode cX12_breakers 106 = .ok (.invokevirtual 577, 3) := by decide +kernel
theorem dX12_breakers_109 : decode cX12_breakers 109 = .ok (.ifCond .gt 7, 3) := by decide +kernel
theorem dX12_breakers_112 : decode cX12_breakers 112 = .ok (.iconst 1, 1) := by decide +kernel
theorem dX12_breakers_113 : decode cX12_breakers 113 = .ok (.goto 4, 3) := by decide +kernel
theorem dX12_breakers_116 : decode cX12_breakers 116 = .ok (.iconst 0, 1) := by decide +kernel
theorem dX12_breakers_117 : decode cX12_breakers 117 = .ok (.istore 4, 2) := by decide +kernel
theorem dX12_breakers_119 : decode cX12_breakers 119 = .ok (.iinc 5 1, 3) := by decide +kernel
theorem dX12_breakers_122 : decode cX12_breakers 122 = .ok (.goto (-56), 3) := by decide +kernel
theorem dX12_breakers_125 : decode cX12_breakers 125 = .ok (.iload 4, 2) := by decide +kernel
theorem dX12_breakers_127 : decode cX12_breakers 127 = .ok (.ifCond .eq 23, 3) := by decide +kernel
theorem dX12_breakers_130 : decode cX12_breakers 130 = .ok (.aload_n 0, 1) := by decide +kernel
theorem dX12_breakers_131 : decode cX12_breakers 131 = .ok (.getfield 245, 3) := by decide +kernel
theorem dX12_breakers_134 : decode cX12_breakers 134 = .ok (.aload_n 0, 1) := by decide +kernel
theorem dX12_breakers_135 : decode cX12_breakers 135 = .ok (.getfield 574, 3) := by decide +kernel
theorem dX12_breakers_138 : decode cX12_breakers 138 = .ok (.iload_n 2, 1) := by decide +kernel
theorem dX12_breakers_139 : decode cX12_breakers 139 = .ok (.iastore, 1) := by decide +kernel
theorem dX12_breakers_140 : decode cX12_breakers 140 = .ok (.aload_n 0, 1) := by decide +kernel
theorem dX12_breakers_141 : decode cX12_breakers 141 = .ok (.dup, 1) := by decide +kernel
theorem dX12_breakers_142 : decode cX12_breakers 142 = .ok (.getfield 574, 3) := by decide +kernel
theorem dX12_breakers_145 : decode cX12_breakers 145 = .ok (.iconst 1, 1) := by decide +kernel
theorem dX12_breakers_146 : decode cX12_breakers 146 = .ok (.iadd, 1) := by decide +kernel
theorem dX12_breakers_147 : decode cX12_breakers 147 = .ok (.putfield 574, 3) := by decide +kernel
theorem dX12_breakers_150 : decode cX12_breakers 150 = .ok (.iinc 2 1, 3) := by decide +kernel
theorem dX12_breakers_153 : decode cX12_breakers 153 = .ok (.goto (-126), 3) := by decide +kernel
theorem dX12_breakers_156 : decode cX12_breakers 156 = .ok (.aload_n 0, 1) := by decide +kernel
theorem dX12_breakers_157 : decode cX12_breakers 157 = .ok (.getfield 574, 3) := by decide +kernel
theorem dX12_breakers_160 : decode cX12_breakers 160 = .ok (.ireturn, 1) := by decide +kernel
theorem dX12_holds__0 : decode cX12_holds_ 0 = .ok (.iload_n 1, 1) := by decide +kernel
theorem dX12_holds__1 : decode cX12_holds_ 1 = .ok (.iconst 0, 1) := by decide +kernel
theorem dX12_holds__2 : decode cX12_holds_ 2 = .ok (.aload_n 0, 1) := by decide +kernel
theorem dX12_holds__3 : decode cX12_holds_ 3 = .ok (.getfield 574, 3) := by decide +kernel
theorem dX12_holds__6 : decode cX12_holds_ 6 = .ok (.iconst 1, 1) := by decide +kernel
theorem dX12_holds__7 : decode cX12_holds_ 7 = .ok (.isub, 1) := by decide +kernel
theorem dX12_holds__8 : decode cX12_holds_ 8 = .ok (.invokestatic 269, 3) := by decide +kernel
theorem dX12_holds__11 : decode cX12_holds_ 11 = .ok (.ifCond .eq 12, 3) := by decide +kernel
theorem dX12_holds__14 : decode cX12_holds_ 14 = .ok (.aload_n 0, 1) := by decide +kernel
theorem dX12_holds__15 : decode cX12_holds_ 15 = .ok (.getfield 245, 3) := by decide +kernel
theorem dX12_holds__18 : decode cX12_holds_ 18 = .ok (.iload_n 1, 1) := by decide +kernel
theorem dX12_holds__19 : decode cX12_holds_ 19 = .ok (.iaload, 1) := by decide +kernel
theorem dX12_holds__20 : decode cX12_holds_ 20 = .ok (.goto 4, 3) := by decide +kernel
theorem dX12_holds__23 : decode cX12_holds_ 23 = .ok (.iconst (-1), 1) := by decide +kernel
theorem dX12_holds__24 : decode cX12_holds_ 24 = .ok (.ireturn, 1) := by decide +kernel
theorem dX12_entry_0 : decode cX12_entry 0 = .ok (.iload_n 1, 1) := by decide +kernel
theorem dX12_entry_1 : decode cX12_entry 1 = .ok (.iconst 0, 1) := by decide +kernel
theorem dX12_entry_2 : decode cX12_entry 2 = .ok (.iconst 1, 1) := by decide +kernel
theorem dX12_entry_3 : decode cX12_entry 3 = .ok (.invokestatic 269, 3) := by decide +kernel
theorem dX12_entry_6 : decode cX12_entry 6 = .ok (.ifCond .eq 41, 3) := by decide +kernel
theorem dX12_entry_9 : decode cX12_entry 9 = .ok (.aload_n 0, 1) := by decide +kernel
theorem dX12_entry_10 : decode cX12_entry 10 = .ok (.getfield 248, 3) := by decide +kernel
theorem dX12_entry_13 : decode cX12_entry 13 = .ok (.iload_n 1, 1) := by decide +kernel
theorem dX12_entry_14 : decode cX12_entry 14 = .ok (.iaload, 1) := by decide +kernel
theorem dX12_entry_15 : decode cX12_entry 15 = .ok (.bipush 10, 2) := by decide +kernel
theorem dX12_entry_17 : decode cX12_entry 17 = .ok (.if_icmp .eq 30, 3) := by decide +kernel
theorem dX12_entry_20 : decode cX12_entry 20 = .ok (.iload_n 2, 1) := by decide +kernel
theorem dX12_entry_21 : decode cX12_entry 21 = .ok (.invokestatic 451, 3) := by decide +kernel
theorem dX12_entry_24 : decode cX12_entry 24 = .ok (.ifCond .eq 23, 3) := by decide +kernel
theorem dX12_entry_27 : decode cX12_entry 27 = .ok (.aload_n 0, 1) := by decide +kernel
theorem dX12_entry_28 : decode cX12_entry 28 = .ok (.iload_n 3, 1) := by decide +kernel
theorem dX12_entry_29 : decode cX12_entry 29 = .ok (.invokevirtual 281, 3) := by decide +kernel
theorem dX12_entry_32 : decode cX12_entry 32 = .ok (.ifCond .eq 15, 3) := by decide +kernel
theorem dX12_entry_35 : decode cX12_entry 35 = .ok (.iload 4, 2) := by decide +kernel
theorem dX12_entry_37 : decode cX12_entry 37 = .ok (.iconst 0, 1) := by decide +kernel
theorem dX12_entry_38 : decode cX12_entry 38 = .ok (.ldc_w 279, 3) := by decide +kernel
theorem dX12_entry_41 : decode cX12_entry 41 = .ok (.invokestatic 269, 3) := by decide +kernel
theorem dX12_entry_44 : decode cX12_entry 44 = .ok (.ifCond .ne 5, 3) := by decide +kernel
theorem dX12_entry_47 : decode cX12_entry 47 = .ok (.iconst (-1), 1) := by decide +kernel
theorem dX12_entry_48 : decode cX12_entry 48 = .ok (.ireturn, 1) := by decide +kernel
theorem dX12_entry_49 : decode cX12_entry 49 = .ok (.bipush 10, 2) := by decide +kernel
theorem dX12_entry_51 : decode cX12_entry 51 = .ok (.iload_n 1, 1) := by decide +kernel
theorem dX12_entry_52 : decode cX12_entry 52 = .ok (.imul, 1) := by decide +kernel
theorem dX12_entry_53 : decode cX12_entry 53 = .ok (.aload_n 0, 1) := by decide +kernel
theorem dX12_entry_54 : decode cX12_entry 54 = .ok (.getfield 248, 3) := by decide +kernel
theorem dX12_entry_57 : decode cX12_entry 57 = .ok (.iload_n 1, 1) := by decide +kernel
theorem dX12_entry_58 : decode cX12_entry 58 = .ok (.iaload, 1) := by decide +kernel
theorem dX12_entry_59 : decode cX12_entry 59 = .ok (.iadd, 1) := by decide +kernel
theorem dX12_entry_60 : decode cX12_entry 60 = .ok (.istore 5, 2) := by decide +kernel
theorem dX12_entry_62 : decode cX12_entry 62 = .ok (.aload_n 0, 1) := by decide +kernel
theorem dX12_entry_63 : decode cX12_entry 63 = .ok (.getfield 251, 3) := by decide +kernel
theorem dX12_entry_66 : decode cX12_entry 66 = .ok (.iload 5, 2) := by decide +kernel
theorem dX12_entry_68 : decode cX12_entry 68 = .ok (.iload_n 2, 1) := by decide +kernel
theorem dX12_entry_69 : decode cX12_entry 69 = .ok (.iastore, 1) := by decide +kernel
theorem dX12_entry_70 : decode cX12_entry 70 = .ok (.aload_n 0, 1) := by decide +kernel
theorem dX12_entry_71 : decode cX12_entry 71 = .ok (.getfield 254, 3) := by decide +kernel
theorem dX12_entry_74 : decode cX12_entry 74 = .ok (.iload 5, 2) := by decide +kernel
theorem dX12_entry_76 : decode cX12_entry 76 = .ok (.iload_n 3, 1) := by decide +kernel
theorem dX12_entry_77 : decode cX12_entry 77 = .ok (.iastore, 1) := by decide +kernel
theorem dX12_entry_78 : decode cX12_entry 78 = .ok (.aload_n 0, 1) := by decide +kernel
theorem dX12_entry_79 : decode cX12_entry 79 = .ok (.getfield 257, 3) := by decide +kernel
theorem dX12_entry_82 : decode cX12_entry 82 = .ok (.iload 5, 2) := by decide +kernel
theorem dX12_entry_84 : decode cX12_entry 84 = .ok (.iload 4, 2) := by decide +kernel
theorem dX12_entry_86 : decode cX12_entry 86 = .ok (.iastore, 1) := by decide +kernel
theorem dX12_entry_87 : decode cX12_entry 87 = .ok (.aload_n 0, 1) := by decide +kernel
theorem dX12_entry_88 : decode cX12_entry 88 = .ok (.getfield 248, 3) := by decide +kernel
theorem dX12_entry_91 : decode cX12_entry 91 = .ok (.iload_n 1, 1) := by decide +kernel
theorem dX12_entry_92 : decode cX12_entry 92 = .ok (.dup2, 1) := by decide +kernel
theorem dX12_entry_93 : decode cX12_entry 93 = .ok (.iaload, 1) := by decide +kernel
theorem dX12_entry_94 : decode cX12_entry 94 = .ok (.iconst 1, 1) := by decide +kernel
theorem dX12_entry_95 : decode cX12_entry 95 = .ok (.iadd, 1) := by decide +kernel
theorem dX12_entry_96 : decode cX12_entry 96 = .ok (.iastore, 1) := by decide +kernel
theorem dX12_entry_97 : decode cX12_entry 97 = .ok (.aload_n 0, 1) := by decide +kernel
theorem dX12_entry_98 : decode cX12_entry 98 = .ok (.iconst 0, 1) := by decide +kernel
theorem dX12_entry_99 : decode cX12_entry 99 = .ok (.putfield 579, 3) := by decide +kernel
theorem dX12_entry_102 : decode cX12_entry 102 = .ok (.aload_n 0, 1) := by decide +kernel
theorem dX12_entry_103 : decode cX12_entry 103 = .ok (.getfield 248, 3) := by decide +kernel
theorem dX12_entry_106 : decode cX12_entry 106 = .ok (.iload_n 1, 1) := by decide +kernel
theorem dX12_entry_107 : decode cX12_entry 107 = .ok (.iaload, 1) := by decide +kernel
theorem dX12_entry_108 : decode cX12_entry 108 = .ok (.iconst 1, 1) := by decide +kernel
theorem dX12_entry_109 : decode cX12_entry 109 = .ok (.isub, 1) := by decide +kernel
theorem dX12_entry_110 : decode cX12_entry 110 = .ok (.ireturn, 1) := by decide +kernel
theorem dX12_clear_0 : decode cX12_clear 0 = .ok (.aload_n 0, 1) := by decide +kernel
theorem dX12_clear_1 : decode cX12_clear 1 = .ok (.getfield 248, 3) := by decide +kernel
theorem dX12_clear_4 : decode cX12_clear 4 = .ok (.iconst 0, 1) := by decide +kernel
theorem dX12_clear_5 : decode cX12_clear 5 = .ok (.iaload, 1) := by decide +kernel
theorem dX12_clear_6 : decode cX12_clear 6 = .ok (.aload_n 0, 1) := by decide +kernel
theorem dX12_clear_7 : decode cX12_clear 7 = .ok (.getfield 248, 3) := by decide +kernel
theorem dX12_clear_10 : decode cX12_clear 10 = .ok (.iconst 1, 1) := by decide +kernel
theorem dX12_clear_11 : decode cX12_clear 11 = .ok (.iaload, 1) := by decide +kernel
theorem dX12_clear_12 : decode cX12_clear 12 = .ok (.iadd, 1) := by decide +kernel
theorem dX12_clear_13 : decode cX12_clear 13 = .ok (.istore_n 1, 1) := by decide +kernel
theorem dX12_clear_14 : decode cX12_clear 14 = .ok (.aload_n 0, 1) := by decide +kernel
theorem dX12_clear_15 : decode cX12_clear 15 = .ok (.getfield 248, 3) := by decide +kernel
theorem dX12_clear_18 : decode cX12_clear 18 = .ok (.iconst 0, 1) := by decide +kernel
theorem dX12_clear_19 : decode cX12_clear 19 = .ok (.iconst 0, 1) := by decide +kernel
theorem dX12_clear_20 : decode cX12_clear 20 = .ok (.iastore, 1) := by decide +kernel
theorem dX12_clear_21 : decode cX12_clear 21 = .ok (.aload_n 0, 1) := by decide +kernel
theorem dX12_clear_22 : decode cX12_clear 22 = .ok (.getfield 248, 3) := by decide +kernel
theorem dX12_clear_25 : decode cX12_clear 25 = .ok (.iconst 1, 1) := by decide +kernel
theorem dX12_clear_26 : decode cX12_clear 26 = .ok (.iconst 0, 1) := by decide +kernel
theorem dX12_clear_27 : decode cX12_clear 27 = .ok (.iastore, 1) := by decide +kernel
theorem dX12_clear_28 : decode cX12_clear 28 = .ok (.aload_n 0, 1) := by decide +kernel
theorem dX12_clear_29 : decode cX12_clear 29 = .ok (.aload_n 0, 1) := by decide +kernel
theorem dX12_clear_30 : decode cX12_clear 30 = .ok (.getfield 579, 3) := by decide +kernel
theorem dX12_clear_33 : decode cX12_clear 33 = .ok (.ifCond .eq 11, 3) := by decide +kernel
theorem dX12_clear_36 : decode cX12_clear 36 = .ok (.iload_n 1, 1) := by decide +kernel
theorem dX12_clear_37 : decode cX12_clear 37 = .ok (.ifCond .ne 7, 3) := by decide +kernel
theorem dX12_clear_40 : decode cX12_clear 40 = .ok (.iconst 1, 1) := by decide +kernel
theorem dX12_clear_41 : decode cX12_clear 41 = .ok (.goto 4, 3) := by decide +kernel
theorem dX12_clear_44 : decode cX12_clear 44 = .ok (.iconst 0, 1) := by decide +kernel
theorem dX12_clear_45 : decode cX12_clear 45 = .ok (.putfield 579, 3) := by decide +kernel
theorem dX12_clear_48 : decode cX12_clear 48 = .ok (.iload_n 1, 1) := by decide +kernel
theorem dX12_clear_49 : decode cX12_clear 49 = .ok (.ireturn, 1) := by decide +kernel
theorem dX12_off_0 : decode cX12_off 0 = .ok (.iload_n 0, 1) := by decide +kernel
theorem dX12_off_1 : decode cX12_off 1 = .ok (.iload_n 1, 1) := by decide +kernel
theorem dX12_off_2 : decode cX12_off 2 = .ok (.if_icmp .le 9, 3) := by decide +kernel
theorem dX12_off_5 : decode cX12_off 5 = .ok (.iload_n 0, 1) := by decide +kernel
theorem dX12_off_6 : decode cX12_off 6 = .ok (.iload_n 1, 1) := by decide +kernel
theorem dX12_off_7 : decode cX12_off 7 = .ok (.isub, 1) := by decide +kernel
theorem dX12_off_8 : decode cX12_off 8 = .ok (.goto 6, 3) := by decide +kernel
theorem dX12_off_11 : decode cX12_off 11 = .ok (.iload_n 1, 1) := by decide +kernel
theorem dX12_off_12 : decode cX12_off 12 = .ok (.iload_n 0, 1) := by decide +kernel
theorem dX12_off_13 : decode cX12_off 13 = .ok (.isub, 1) := by decide +kernel
theorem dX12_off_14 : decode cX12_off 14 = .ok (.ireturn, 1) := by decide +kernel
theorem dX12_pairs_0 : decode cX12_pairs 0 = .ok (.aload_n 0, 1) := by decide +kernel
theorem dX12_pairs_1 : decode cX12_pairs 1 = .ok (.getfield 257, 3) := by decide +kernel
theorem dX12_pairs_4 : decode cX12_pairs 4 = .ok (.iload_n 1, 1) := by decide +kernel
theorem dX12_pairs_5 : decode cX12_pairs 5 = .ok (.iaload, 1) := by decide +kernel
theorem dX12_pairs_6 : decode cX12_pairs 6 = .ok (.aload_n 0, 1) := by decide +kernel
theorem dX12_pairs_7 : decode cX12_pairs 7 = .ok (.getfield 257, 3) := by decide +kernel
theorem dX12_pairs_10 : decode cX12_pairs 10 = .ok (.bipush 10, 2) := by decide +kernel
theorem dX12_pairs_12 : decode cX12_pairs 12 = .ok (.iload_n 2, 1) := by decide +kernel
theorem dX12_pairs_13 : decode cX12_pairs 13 = .ok (.iadd, 1) := by decide +kernel
theorem dX12_pairs_14 : decode cX12_pairs 14 = .ok (.iaload, 1) := by decide +kernel
theorem dX12_pairs_15 : decode cX12_pairs 15 = .ok (.invokestatic 582, 3) := by decide +kernel
theorem dX12_pairs_18 : decode cX12_pairs 18 = .ok (.istore 5, 2) := by decide +kernel
theorem dX12_pairs_20 : decode cX12_pairs 20 = .ok (.aload_n 0, 1) := by decide +kernel
theorem dX12_pairs_21 : decode cX12_pairs 21 = .ok (.getfield 251, 3) := by decide +kernel
theorem dX12_pairs_24 : decode cX12_pairs 24 = .ok (.iload_n 1, 1) := by decide +kernel
theorem dX12_pairs_25 : decode cX12_pairs 25 = .ok (.iaload, 1) := by decide +kernel
theorem dX12_pairs_26 : decode cX12_pairs 26 = .ok (.aload_n 0, 1) := by decide +kernel
theorem dX12_pairs_27 : decode cX12_pairs 27 = .ok (.getfield 251, 3) := by decide +kernel
theorem dX12_pairs_30 : decode cX12_pairs 30 = .ok (.bipush 10, 2) := by decide +kernel
theorem dX12_pairs_32 : decode cX12_pairs 32 = .ok (.iload_n 2, 1) := by decide +kernel
theorem dX12_pairs_33 : decode cX12_pairs 33 = .ok (.iadd, 1) := by decide +kernel
theorem dX12_pairs_34 : decode cX12_pairs 34 = .ok (.iaload, 1) := by decide +kernel
theorem dX12_pairs_35 : decode cX12_pairs 35 = .ok (.invokestatic 582, 3) := by decide +kernel
theorem dX12_pairs_38 : decode cX12_pairs 38 = .ok (.istore 6, 2) := by decide +kernel
theorem dX12_pairs_40 : decode cX12_pairs 40 = .ok (.aload_n 0, 1) := by decide +kernel
theorem dX12_pairs_41 : decode cX12_pairs 41 = .ok (.getfield 254, 3) := by decide +kernel
theorem dX12_pairs_44 : decode cX12_pairs 44 = .ok (.iload_n 1, 1) := by decide +kernel
theorem dX12_pairs_45 : decode cX12_pairs 45 = .ok (.iaload, 1) := by decide +kernel
theorem dX12_pairs_46 : decode cX12_pairs 46 = .ok (.aload_n 0, 1) := by decide +kernel
theorem dX12_pairs_47 : decode cX12_pairs 47 = .ok (.getfield 254, 3) := by decide +kernel
theorem dX12_pairs_50 : decode cX12_pairs 50 = .ok (.bipush 10, 2) := by decide +kernel
theorem dX12_pairs_52 : decode cX12_pairs 52 = .ok (.iload_n 2, 1) := by decide +kernel
theorem dX12_pairs_53 : decode cX12_pairs 53 = .ok (.iadd, 1) := by decide +kernel
theorem dX12_pairs_54 : decode cX12_pairs 54 = .ok (.iaload, 1) := by decide +kernel
theorem dX12_pairs_55 : decode cX12_pairs 55 = .ok (.if_icmp .ne 16, 3) := by decide +kernel
theorem dX12_pairs_58 : decode cX12_pairs 58 = .ok (.iload 5, 2) := by decide +kernel
theorem dX12_pairs_60 : decode cX12_pairs 60 = .ok (.iload_n 3, 1) := by decide +kernel
theorem dX12_pairs_61 : decode cX12_pairs 61 = .ok (.if_icmp .gt 10, 3) := by decide +kernel
theorem dX12_pairs_64 : decode cX12_pairs 64 = .ok (.iload 6, 2) := by decide +kernel
theorem dX12_pairs_66 : decode cX12_pairs 66 = .ok (.iload 4, 2) := by decide +kernel
theorem dX12_pairs_68 : decode cX12_pairs 68 = .ok (.if_icmp .le 7, 3) := by decide +kernel
theorem dX12_pairs_71 : decode cX12_pairs 71 = .ok (.lconst 0, 1) := by decide +kernel
theorem dX12_pairs_72 : decode cX12_pairs 72 = .ok (.goto 18, 3) := by decide +kernel
theorem dX12_pairs_75 : decode cX12_pairs 75 = .ok (.ldc2_w 585, 3) := by decide +kernel
theorem dX12_pairs_78 : decode cX12_pairs 78 = .ok (.ldc2_w 587, 3) := by decide +kernel
theorem dX12_pairs_81 : decode cX12_pairs 81 = .ok (.iload 5, 2) := by decide +kernel
theorem dX12_pairs_83 : decode cX12_pairs 83 = .ok (.i2l, 1) := by decide +kernel
theorem dX12_pairs_84 : decode cX12_pairs 84 = .ok (.lmul, 1) := by decide +kernel
theorem dX12_pairs_85 : decode cX12_pairs 85 = .ok (.lsub, 1) := by decide +kernel
theorem dX12_pairs_86 : decode cX12_pairs 86 = .ok (.iload 6, 2) := by decide +kernel
theorem dX12_pairs_88 : decode cX12_pairs 88 = .ok (.i2l, 1) := by decide +kernel
theorem dX12_pairs_89 : decode cX12_pairs 89 = .ok (.lsub, 1) := by decide +kernel
theorem dX12_pairs_90 : decode cX12_pairs 90 = .ok (.lreturn, 1) := by decide +kernel
theorem dX12_join_0 : decode cX12_join 0 = .ok (.iload_n 1, 1) := by decide +kernel
theorem dX12_join_1 : decode cX12_join 1 = .ok (.iconst 0, 1) := by decide +kernel
theorem dX12_join_2 : decode cX12_join 2 = .ok (.sipush 1000, 3) := by decide +kernel
theorem dX12_join_5 : decode cX12_join 5 = .ok (.invokestatic 269, 3) := by decide +kernel
theorem dX12_join_8 : decode cX12_join 8 = .ok (.ifCond .eq 14, 3) := by decide +kernel
theorem dX12_join_11 : decode cX12_join 11 = .ok (.iload_n 2, 1) := by decide +kernel
theorem dX12_join_12 : decode cX12_join 12 = .ok (.iconst 0, 1) := by decide +kernel
theorem dX12_join_13 : decode cX12_join 13 = .ok (.sipush 1000, 3) := by decide +kernel
theorem dX12_join_16 : decode cX12_join 16 = .ok (.invokestatic 269, 3) := by decide +kernel
theorem dX12_join_19 : decode cX12_join 19 = .ok (.ifCond .ne 5, 3) := by decide +kernel
theorem dX12_join_22 : decode cX12_join 22 = .ok (.iconst (-1), 1) := by decide +kernel
theorem dX12_join_23 : decode cX12_join 23 = .ok (.ireturn, 1) := by decide +kernel
theorem dX12_join_24 : decode cX12_join 24 = .ok (.aload_n 0, 1) := by decide +kernel
theorem dX12_join_25 : decode cX12_join 25 = .ok (.getfield 248, 3) := by decide +kernel
theorem dX12_join_28 : decode cX12_join 28 = .ok (.iconst 0, 1) := by decide +kernel
theorem dX12_join_29 : decode cX12_join 29 = .ok (.iaload, 1) := by decide +kernel
theorem dX12_join_30 : decode cX12_join 30 = .ok (.istore_n 3, 1) := by decide +kernel
theorem dX12_join_31 : decode cX12_join 31 = .ok (.aload_n 0, 1) := by decide +kernel
theorem dX12_join_32 : decode cX12_join 32 = .ok (.getfield 248, 3) := by decide +kernel
theorem dX12_join_35 : decode cX12_join 35 = .ok (.iconst 1, 1) := by decide +kernel
theorem dX12_join_36 : decode cX12_join 36 = .ok (.iaload, 1) := by decide +kernel
theorem dX12_join_37 : decode cX12_join 37 = .ok (.istore 4, 2) := by decide +kernel
theorem dX12_join_39 : decode cX12_join 39 = .ok (.iconst 0, 1) := by decide +kernel
theorem dX12_join_40 : decode cX12_join 40 = .ok (.istore 5, 2) := by decide +kernel
theorem dX12_join_42 : decode cX12_join 42 = .ok (.iload 5, 2) := by decide +kernel
theorem dX12_join_44 : decode cX12_join 44 = .ok (.iconst 1, 1) := by decide +kernel
theorem dX12_join_45 : decode cX12_join 45 = .ok (.iload 4, 2) := by decide +kernel
theorem dX12_join_47 : decode cX12_join 47 = .ok (.ishl, 1) := by decide +kernel
theorem dX12_join_48 : decode cX12_join 48 = .ok (.if_icmp .ge 22, 3) := by decide +kernel
theorem dX12_join_51 : decode cX12_join 51 = .ok (.aload_n 0, 1) := by decide +kernel
theorem dX12_join_52 : decode cX12_join 52 = .ok (.getfield 263, 3) := by decide +kernel
theorem dX12_join_55 : decode cX12_join 55 = .ok (.iload_n 3, 1) := by decide +kernel
theorem dX12_join_56 : decode cX12_join 56 = .ok (.bipush 10, 2) := by decide +kernel
theorem dX12_join_58 : decode cX12_join 58 = .ok (.ishl, 1) := by decide +kernel
theorem dX12_join_59 : decode cX12_join 59 = .ok (.iload 5, 2) := by decide +kernel
theorem dX12_join_61 : decode cX12_join 61 = .ok (.iadd, 1) := by decide +kernel
theorem dX12_join_62 : decode cX12_join 62 = .ok (.lconst 0, 1) := by decide +kernel
theorem dX12_join_63 : decode cX12_join 63 = .ok (.lastore, 1) := by decide +kernel
theorem dX12_join_64 : decode cX12_join 64 = .ok (.iinc 5 1, 3) := by decide +kernel
theorem dX12_join_67 : decode cX12_join 67 = .ok (.goto (-25), 3) := by decide +kernel
theorem dX12_join_70 : decode cX12_join 70 = .ok (.iload_n 3, 1) := by decide +kernel
theorem dX12_join_71 : decode cX12_join 71 = .ok (.iconst 1, 1) := by decide +kernel
theorem dX12_join_72 : decode cX12_join 72 = .ok (.isub, 1) := by decide +kernel
theorem dX12_join_73 : decode cX12_join 73 = .ok (.istore 5, 2) := by decide +kernel
theorem dX12_join_75 : decode cX12_join 75 = .ok (.iload 5, 2) := by decide +kernel
theorem dX12_join_77 : decode cX12_join 77 = .ok (.ifCond .lt 155, 3) := by decide +kernel
theorem dX12_join_80 : decode cX12_join 80 = .ok (.iconst 0, 1) := by decide +kernel
theorem dX12_join_81 : decode cX12_join 81 = .ok (.istore 6, 2) := by decide +kernel
theorem dX12_join_83 : decode cX12_join 83 = .ok (.iload 6, 2) := by decide +kernel
theorem dX12_join_85 : decode cX12_join 85 = .ok (.iconst 1, 1) := by decide +kernel
theorem dX12_join_86 : decode cX12_join 86 = .ok (.iload 4, 2) := by decide +kernel
theorem dX12_join_88 : decode cX12_join 88 = .ok (.ishl, 1) := by decide +kernel
theorem dX12_join_89 : decode cX12_join 89 = .ok (.if_icmp .ge 137, 3) := by decide +kernel
theorem dX12_join_92 : decode cX12_join 92 = .ok (.aload_n 0, 1) := by decide +kernel
theorem dX12_join_93 : decode cX12_join 93 = .ok (.getfield 263, 3) := by decide +kernel
theorem dX12_join_96 : decode cX12_join 96 = .ok (.iload 5, 2) := by decide +kernel
theorem dX12_join_98 : decode cX12_join 98 = .ok (.iconst 1, 1) := by decide +kernel
theorem dX12_join_99 : decode cX12_join 99 = .ok (.iadd, 1) := by decide +kernel
theorem dX12_join_100 : decode cX12_join 100 = .ok (.bipush 10, 2) := by decide +kernel
theorem dX12_join_102 : decode cX12_join 102 = .ok (.ishl, 1) := by decide +kernel
theorem dX12_join_103 : decode cX12_join 103 = .ok (.iload 6, 2) := by decide +kernel
theorem dX12_join_105 : decode cX12_join 105 = .ok (.iadd, 1) := by decide +kernel
theorem dX12_join_106 : decode cX12_join 106 = .ok (.laload, 1) := by decide +kernel
theorem dX12_join_107 : decode cX12_join 107 = .ok (.lstore 7, 2) := by decide +kernel
theorem dX12_join_109 : decode cX12_join 109 = .ok (.iconst 0, 1) := by decide +kernel
theorem dX12_join_110 : decode cX12_join 110 = .ok (.istore 9, 2) := by decide +kernel
theorem dX12_join_112 : decode cX12_join 112 = .ok (.iload 9, 2) := by decide +kernel
theorem dX12_join_114 : decode cX12_join 114 = .ok (.iload 4, 2) := by decide +kernel
theorem dX12_join_116 : decode cX12_join 116 = .ok (.if_icmp .ge 89, 3) := by decide +kernel
theorem dX12_join_119 : decode cX12_join 119 = .ok (.iload 6, 2) := by decide +kernel
theorem dX12_join_121 : decode cX12_join 121 = .ok (.iload 9, 2) := by decide +kernel
theorem dX12_join_123 : decode cX12_join 123 = .ok (.ishr, 1) := by decide +kernel
theorem dX12_join_124 : decode cX12_join 124 = .ok (.iconst 1, 1) := by decide +kernel
theorem dX12_join_125 : decode cX12_join 125 = .ok (.iand, 1) := by decide +kernel
theorem dX12_join_126 : decode cX12_join 126 = .ok (.iconst 1, 1) := by decide +kernel
theorem dX12_join_127 : decode cX12_join 127 = .ok (.if_icmp .ne 7, 3) := by decide +kernel
theorem dX12_join_130 : decode cX12_join 130 = .ok (.lconst 0, 1) := by decide +kernel
theorem dX12_join_131 : decode cX12_join 131 = .ok (.goto 13, 3) := by decide +kernel
theorem dX12_join_134 : decode cX12_join 134 = .ok (.aload_n 0, 1) := by decide +kernel
theorem dX12_join_135 : decode cX12_join 135 = .ok (.iload 5, 2) := by decide +kernel
theorem dX12_join_137 : decode cX12_join 137 = .ok (.iload 9, 2) := by decide +kernel
theorem dX12_join_139 : decode cX12_join 139 = .ok (.iload_n 1, 1) := by decide +kernel
theorem dX12_join_140 : decode cX12_join 140 = .ok (.iload_n 2, 1) := by decide +kernel
theorem dX12_join_141 : decode cX12_join 141 = .ok (.invokevirtual 589, 3) := by decide +kernel
theorem dX12_join_144 : decode cX12_join 144 = .ok (.lstore 10, 2) := by decide +kernel
theorem dX12_join_146 : decode cX12_join 146 = .ok (.lload 10, 2) := by decide +kernel
theorem dX12_join_148 : decode cX12_join 148 = .ok (.lconst 0, 1) := by decide +kernel
theorem dX12_join_149 : decode cX12_join 149 = .ok (.lcmp, 1) := by decide +kernel
theorem dX12_join_150 : decode cX12_join 150 = .ok (.ifCond .ne 7, 3) := by decide +kernel
theorem dX12_join_153 : decode cX12_join 153 = .ok (.lconst 0, 1) := by decide +kernel
theorem dX12_join_154 : decode cX12_join 154 = .ok (.goto 26, 3) := by decide +kernel
theorem dX12_join_157 : decode cX12_join 157 = .ok (.lload 10, 2) := by decide +kernel
theorem dX12_join_159 : decode cX12_join 159 = .ok (.aload_n 0, 1) := by decide +kernel
theorem dX12_join_160 : decode cX12_join 160 = .ok (.getfield 263, 3) := by decide +kernel
theorem dX12_join_163 : decode cX12_join 163 = .ok (.iload 5, 2) := by decide +kernel
theorem dX12_join_165 : decode cX12_join 165 = .ok (.iconst 1, 1) := by decide +kernel
theorem dX12_join_166 : decode cX12_join 166 = .ok (.iadd, 1) := by decide +kernel
theorem dX12_join_167 : decode cX12_join 167 = .ok (.bipush 10, 2) := by decide +kernel
theorem dX12_join_169 : decode cX12_join 169 = .ok (.ishl, 1) := by decide +kernel
theorem dX12_join_170 : decode cX12_join 170 = .ok (.iload 6, 2) := by decide +kernel
theorem dX12_join_172 : decode cX12_join 172 = .ok (.iconst 1, 1) := by decide +kernel
theorem dX12_join_173 : decode cX12_join 173 = .ok (.iload 9, 2) := by decide +kernel
theorem dX12_join_175 : decode cX12_join 175 = .ok (.ishl, 1) := by decide +kernel
theorem dX12_join_176 : decode cX12_join 176 = .ok (.ior, 1) := by decide +kernel
theorem dX12_join_177 : decode cX12_join 177 = .ok (.iadd, 1) := by decide +kernel
theorem dX12_join_178 : decode cX12_join 178 = .ok (.laload, 1) := by decide +kernel
theorem dX12_join_179 : decode cX12_join 179 = .ok (.ladd, 1) := by decide +kernel
theorem dX12_join_180 : decode cX12_join 180 = .ok (.lstore 12, 2) := by decide +kernel
theorem dX12_join_182 : decode cX12_join 182 = .ok (.lload 12, 2) := by decide +kernel
theorem dX12_join_184 : decode cX12_join 184 = .ok (.lload 7, 2) := by decide +kernel
theorem dX12_join_186 : decode cX12_join 186 = .ok (.lcmp, 1) := by decide +kernel
theorem dX12_join_187 : decode cX12_join 187 = .ok (.ifCond .le 8, 3) := by decide +kernel
theorem dX12_join_190 : decode cX12_join 190 = .ok (.lload 12, 2) := by decide +kernel
theorem dX12_join_192 : decode cX12_join 192 = .ok (.goto 5, 3) := by decide +kernel
theorem dX12_join_195 : decode cX12_join 195 = .ok (.lload 7, 2) := by decide +kernel
theorem dX12_join_197 : decode cX12_join 197 = .ok (.lstore 7, 2) := by decide +kernel
theorem dX12_join_199 : decode cX12_join 199 = .ok (.iinc 9 1, 3) := by decide +kernel
theorem dX12_join_202 : decode cX12_join 202 = .ok (.goto (-90), 3) := by decide +kernel
theorem dX12_join_205 : decode cX12_join 205 = .ok (.aload_n 0, 1) := by decide +kernel
theorem dX12_join_206 : decode cX12_join 206 = .ok (.getfield 263, 3) := by decide +kernel
theorem dX12_join_209 : decode cX12_join 209 = .ok (.iload 5, 2) := by decide +kernel
theorem dX12_join_211 : decode cX12_join 211 = .ok (.bipush 10, 2) := by decide +kernel
theorem dX12_join_213 : decode cX12_join 213 = .ok (.ishl, 1) := by decide +kernel
theorem dX12_join_214 : decode cX12_join 214 = .ok (.iload 6, 2) := by decide +kernel
theorem dX12_join_216 : decode cX12_join 216 = .ok (.iadd, 1) := by decide +kernel
theorem dX12_join_217 : decode cX12_join 217 = .ok (.lload 7, 2) := by decide +kernel
theorem dX12_join_219 : decode cX12_join 219 = .ok (.lastore, 1) := by decide +kernel
theorem dX12_join_220 : decode cX12_join 220 = .ok (.iinc 6 1, 3) := by decide +kernel
theorem dX12_join_223 : decode cX12_join 223 = .ok (.goto (-140), 3) := by decide +kernel
theorem dX12_join_226 : decode cX12_join 226 = .ok (.iinc 5 (-1), 3) := by decide +kernel
theorem dX12_join_229 : decode cX12_join 229 = .ok (.goto (-154), 3) := by decide +kernel
theorem dX12_join_232 : decode cX12_join 232 = .ok (.iconst 0, 1) := by decide +kernel
theorem dX12_join_233 : decode cX12_join 233 = .ok (.istore 5, 2) := by decide +kernel
theorem dX12_join_235 : decode cX12_join 235 = .ok (.iconst 0, 1) := by decide +kernel
theorem dX12_join_236 : decode cX12_join 236 = .ok (.istore 6, 2) := by decide +kernel
theorem dX12_join_238 : decode cX12_join 238 = .ok (.aload_n 0, 1) := by decide +kernel
theorem dX12_join_239 : decode cX12_join 239 = .ok (.iconst 0, 1) := by decide +kernel
theorem dX12_join_240 : decode cX12_join 240 = .ok (.putfield 593, 3) := by decide +kernel
theorem dX12_join_243 : decode cX12_join 243 = .ok (.aload_n 0, 1) := by decide +kernel
theorem dX12_join_244 : decode cX12_join 244 = .ok (.iconst 0, 1) := by decide +kernel
theorem dX12_join_245 : decode cX12_join 245 = .ok (.putfield 596, 3) := by decide +kernel
theorem dX12_join_248 : decode cX12_join 248 = .ok (.iconst 0, 1) := by decide +kernel
theorem dX12_join_249 : decode cX12_join 249 = .ok (.istore 7, 2) := by decide +kernel
theorem dX12_join_251 : decode cX12_join 251 = .ok (.iload 7, 2) := by decide +kernel
theorem dX12_join_253 : decode cX12_join 253 = .ok (.iload_n 3, 1) := by decide +kernel
theorem dX12_join_254 : decode cX12_join 254 = .ok (.if_icmp .ge 223, 3) := by decide +kernel
theorem dX12_join_257 : decode cX12_join 257 = .ok (.aload_n 0, 1) := by decide +kernel
theorem dX12_join_258 : decode cX12_join 258 = .ok (.getfield 260, 3) := by decide +kernel
theorem dX12_join_261 : decode cX12_join 261 = .ok (.iload 7, 2) := by decide +kernel
theorem dX12_join_263 : decode cX12_join 263 = .ok (.iconst (-1), 1) := by decide +kernel
theorem dX12_join_264 : decode cX12_join 264 = .ok (.iastore, 1) := by decide +kernel
theorem dX12_join_265 : decode cX12_join 265 = .ok (.iconst 0, 1) := by decide +kernel
theorem dX12_join_266 : decode cX12_join 266 = .ok (.istore 8, 2) := by decide +kernel
theorem dX12_join_268 : decode cX12_join 268 = .ok (.iload 8, 2) := by decide +kernel
theorem dX12_join_270 : decode cX12_join 270 = .ok (.iload 4, 2) := by decide +kernel
theorem dX12_join_272 : decode cX12_join 272 = .ok (.if_icmp .ge 103, 3) := by decide +kernel
theorem dX12_join_275 : decode cX12_join 275 = .ok (.aload_n 0, 1) := by decide +kernel
theorem dX12_join_276 : decode cX12_join 276 = .ok (.getfield 260, 3) := by decide +kernel
theorem dX12_join_279 : decode cX12_join 279 = .ok (.iload 7, 2) := by decide +kernel
theorem dX12_join_281 : decode cX12_join 281 = .ok (.iaload, 1) := by decide +kernel
theorem dX12_join_282 : decode cX12_join 282 = .ok (.iconst (-1), 1) := by decide +kernel
theorem dX12_join_283 : decode cX12_join 283 = .ok (.if_icmp .ne 92, 3) := by decide +kernel
theorem dX12_join_286 : decode cX12_join 286 = .ok (.iload 5, 2) := by decide +kernel
theorem dX12_join_288 : decode cX12_join 288 = .ok (.iload 8, 2) := by decide +kernel
theorem dX12_join_290 : decode cX12_join 290 = .ok (.ishr, 1) := by decide +kernel
theorem dX12_join_291 : decode cX12_join 291 = .ok (.iconst 1, 1) := by decide +kernel
theorem dX12_join_292 : decode cX12_join 292 = .ok (.iand, 1) := by decide +kernel
theorem dX12_join_293 : decode cX12_join 293 = .ok (.iconst 1, 1) := by decide +kernel
theorem dX12_join_294 : decode cX12_join 294 = .ok (.if_icmp .ne 7, 3) := by decide +kernel
theorem dX12_join_297 : decode cX12_join 297 = .ok (.lconst 0, 1) := by decide +kernel
theorem dX12_join_298 : decode cX12_join 298 = .ok (.goto 13, 3) := by decide +kernel
theorem dX12_join_301 : decode cX12_join 301 = .ok (.aload_n 0, 1) := by decide +kernel
theorem dX12_join_302 : decode cX12_join 302 = .ok (.iload 7, 2) := by decide +kernel
theorem dX12_join_304 : decode cX12_join 304 = .ok (.iload 8, 2) := by decide +kernel
theorem dX12_join_306 : decode cX12_join 306 = .ok (.iload_n 1, 1) := by decide +kernel
theorem dX12_join_307 : decode cX12_join 307 = .ok (.iload_n 2, 1) := by decide +kernel
theorem dX12_join_308 : decode cX12_join 308 = .ok (.invokevirtual 589, 3) := by decide +kernel
theorem dX12_join_311 : decode cX12_join 311 = .ok (.lstore 9, 2) := by decide +kernel
theorem dX12_join_313 : decode cX12_join 313 = .ok (.lload 9, 2) := by decide +kernel
theorem dX12_join_315 : decode cX12_join 315 = .ok (.lconst 0, 1) := by decide +kernel
theorem dX12_join_316 : decode cX12_join 316 = .ok (.lcmp, 1) := by decide +kernel
theorem dX12_join_317 : decode cX12_join 317 = .ok (.ifCond .le 52, 3) := by decide +kernel
theorem dX12_join_320 : decode cX12_join 320 = .ok (.lload 9, 2) := by decide +kernel
theorem dX12_join_322 : decode cX12_join 322 = .ok (.aload_n 0, 1) := by decide +kernel
theorem dX12_join_323 : decode cX12_join 323 = .ok (.getfield 263, 3) := by decide +kernel
theorem dX12_join_326 : decode cX12_join 326 = .ok (.iload 7, 2) := by decide +kernel
theorem dX12_join_328 : decode cX12_join 328 = .ok (.iconst 1, 1) := by decide +kernel
theorem dX12_join_329 : decode cX12_join 329 = .ok (.iadd, 1) := by decide +kernel
theorem dX12_join_330 : decode cX12_join 330 = .ok (.bipush 10, 2) := by decide +kernel
theorem dX12_join_332 : decode cX12_join 332 = .ok (.ishl, 1) := by decide +kernel
theorem dX12_join_333 : decode cX12_join 333 = .ok (.iload 5, 2) := by decide +kernel
theorem dX12_join_335 : decode cX12_join 335 = .ok (.iconst 1, 1) := by decide +kernel
theorem dX12_join_336 : decode cX12_join 336 = .ok (.iload 8, 2) := by decide +kernel
theorem dX12_join_338 : decode cX12_join 338 = .ok (.ishl, 1) := by decide +kernel
theorem dX12_join_339 : decode cX12_join 339 = .ok (.ior, 1) := by decide +kernel
theorem dX12_join_340 : decode cX12_join 340 = .ok (.iadd, 1) := by decide +kernel
theorem dX12_join_341 : decode cX12_join 341 = .ok (.laload, 1) := by decide +kernel
theorem dX12_join_342 : decode cX12_join 342 = .ok (.ladd, 1) := by decide +kernel
theorem dX12_join_343 : decode cX12_join 343 = .ok (.aload_n 0, 1) := by decide +kernel
theorem dX12_join_344 : decode cX12_join 344 = .ok (.getfield 263, 3) := by decide +kernel
theorem dX12_join_347 : decode cX12_join 347 = .ok (.iload 7, 2) := by decide +kernel
theorem dX12_join_349 : decode cX12_join 349 = .ok (.bipush 10, 2) := by decide +kernel
theorem dX12_join_351 : decode cX12_join 351 = .ok (.ishl, 1) := by decide +kernel
theorem dX12_join_352 : decode cX12_join 352 = .ok (.iload 5, 2) := by decide +kernel
theorem dX12_join_354 : decode cX12_join 354 = .ok (.iadd, 1) := by decide +kernel
theorem dX12_join_355 : decode cX12_join 355 = .ok (.laload, 1) := by decide +kernel
theorem dX12_join_356 : decode cX12_join 356 = .ok (.lcmp, 1) := by decide +kernel
theorem dX12_join_357 : decode cX12_join 357 = .ok (.ifCond .ne 12, 3) := by decide +kernel
theorem dX12_join_360 : decode cX12_join 360 = .ok (.aload_n 0, 1) := by decide +kernel
theorem dX12_join_361 : decode cX12_join 361 = .ok (.getfield 260, 3) := by decide +kernel
theorem dX12_join_364 : decode cX12_join 364 = .ok (.iload 7, 2) := by decide +kernel
theorem dX12_join_366 : decode cX12_join 366 = .ok (.iload 8, 2) := by decide +kernel
theorem dX12_join_368 : decode cX12_join 368 = .ok (.iastore, 1) := by decide +kernel
theorem dX12_join_369 : decode cX12_join 369 = .ok (.iinc 8 1, 3) := by decide +kernel
theorem dX12_join_372 : decode cX12_join 372 = .ok (.goto (-104), 3) := by decide +kernel
theorem dX12_join_375 : decode cX12_join 375 = .ok (.aload_n 0, 1) := by decide +kernel
theorem dX12_join_376 : decode cX12_join 376 = .ok (.getfield 260, 3) := by decide +kernel
theorem dX12_join_379 : decode cX12_join 379 = .ok (.iload 7, 2) := by decide +kernel
theorem dX12_join_381 : decode cX12_join 381 = .ok (.iaload, 1) := by decide +kernel
theorem dX12_join_382 : decode cX12_join 382 = .ok (.iconst (-1), 1) := by decide +kernel
theorem dX12_join_383 : decode cX12_join 383 = .ok (.if_icmp .eq 88, 3) := by decide +kernel
theorem dX12_join_386 : decode cX12_join 386 = .ok (.iload 5, 2) := by decide +kernel
theorem dX12_join_388 : decode cX12_join 388 = .ok (.iconst 1, 1) := by decide +kernel
theorem dX12_join_389 : decode cX12_join 389 = .ok (.aload_n 0, 1) := by decide +kernel
theorem dX12_join_390 : decode cX12_join 390 = .ok (.getfield 260, 3) := by decide +kernel
theorem dX12_join_393 : decode cX12_join 393 = .ok (.iload 7, 2) := by decide +kernel
theorem dX12_join_395 : decode cX12_join 395 = .ok (.iaload, 1) := by decide +kernel
theorem dX12_join_396 : decode cX12_join 396 = .ok (.ishl, 1) := by decide +kernel
theorem dX12_join_397 : decode cX12_join 397 = .ok (.ior, 1) := by decide +kernel
theorem dX12_join_398 : decode cX12_join 398 = .ok (.istore 5, 2) := by decide +kernel
theorem dX12_join_400 : decode cX12_join 400 = .ok (.iinc 6 1, 3) := by decide +kernel
theorem dX12_join_403 : decode cX12_join 403 = .ok (.aload_n 0, 1) := by decide +kernel
theorem dX12_join_404 : decode cX12_join 404 = .ok (.dup, 1) := by decide +kernel
theorem dX12_join_405 : decode cX12_join 405 = .ok (.getfield 593, 3) := by decide +kernel
theorem dX12_join_408 : decode cX12_join 408 = .ok (.aload_n 0, 1) := by decide +kernel
theorem dX12_join_409 : decode cX12_join 409 = .ok (.getfield 257, 3) := by decide +kernel
theorem dX12_join_412 : decode cX12_join 412 = .ok (.iload 7, 2) := by decide +kernel
theorem dX12_join_414 : decode cX12_join 414 = .ok (.iaload, 1) := by decide +kernel
theorem dX12_join_415 : decode cX12_join 415 = .ok (.aload_n 0, 1) := by decide +kernel
theorem dX12_join_416 : decode cX12_join 416 = .ok (.getfield 257, 3) := by decide +kernel
theorem dX12_join_419 : decode cX12_join 419 = .ok (.bipush 10, 2) := by decide +kernel
theorem dX12_join_421 : decode cX12_join 421 = .ok (.aload_n 0, 1) := by decide +kernel
theorem dX12_join_422 : decode cX12_join 422 = .ok (.getfield 260, 3) := by decide +kernel
theorem dX12_join_425 : decode cX12_join 425 = .ok (.iload 7, 2) := by decide +kernel
theorem dX12_join_427 : decode cX12_join 427 = .ok (.iaload, 1) := by decide +kernel
theorem dX12_join_428 : decode cX12_join 428 = .ok (.iadd, 1) := by decide +kernel
theorem dX12_join_429 : decode cX12_join 429 = .ok (.iaload, 1) := by decide +kernel
theorem dX12_join_430 : decode cX12_join 430 = .ok (.invokestatic 582, 3) := by decide +kernel
theorem dX12_join_433 : decode cX12_join 433 = .ok (.iadd, 1) := by decide +kernel
theorem dX12_join_434 : decode cX12_join 434 = .ok (.putfield 593, 3) := by decide +kernel
theorem dX12_join_437 : decode cX12_join 437 = .ok (.aload_n 0, 1) := by decide +kernel
theorem dX12_join_438 : decode cX12_join 438 = .ok (.dup, 1) := by decide +kernel
theorem dX12_join_439 : decode cX12_join 439 = .ok (.getfield 596, 3) := by decide +kernel
theorem dX12_join_442 : decode cX12_join 442 = .ok (.aload_n 0, 1) := by decide +kernel
theorem dX12_join_443 : decode cX12_join 443 = .ok (.getfield 251, 3) := by decide +kernel
theorem dX12_join_446 : decode cX12_join 446 = .ok (.iload 7, 2) := by decide +kernel
theorem dX12_join_448 : decode cX12_join 448 = .ok (.iaload, 1) := by decide +kernel
theorem dX12_join_449 : decode cX12_join 449 = .ok (.aload_n 0, 1) := by decide +kernel
theorem dX12_join_450 : decode cX12_join 450 = .ok (.getfield 251, 3) := by decide +kernel
theorem dX12_join_453 : decode cX12_join 453 = .ok (.bipush 10, 2) := by decide +kernel
theorem dX12_join_455 : decode cX12_join 455 = .ok (.aload_n 0, 1) := by decide +kernel
theorem dX12_join_456 : decode cX12_join 456 = .ok (.getfield 260, 3) := by decide +kernel
theorem dX12_join_459 : decode cX12_join 459 = .ok (.iload 7, 2) := by decide +kernel
theorem dX12_join_461 : decode cX12_join 461 = .ok (.iaload, 1) := by decide +kernel
theorem dX12_join_462 : decode cX12_join 462 = .ok (.iadd, 1) := by decide +kernel
theorem dX12_join_463 : decode cX12_join 463 = .ok (.iaload, 1) := by decide +kernel
theorem dX12_join_464 : decode cX12_join 464 = .ok (.invokestatic 582, 3) := by decide +kernel
theorem dX12_join_467 : decode cX12_join 467 = .ok (.iadd, 1) := by decide +kernel
theorem dX12_join_468 : decode cX12_join 468 = .ok (.putfield 596, 3) := by decide +kernel
theorem dX12_join_471 : decode cX12_join 471 = .ok (.iinc 7 1, 3) := by decide +kernel
theorem dX12_join_474 : decode cX12_join 474 = .ok (.goto (-223), 3) := by decide +kernel
theorem dX12_join_477 : decode cX12_join 477 = .ok (.aload_n 0, 1) := by decide +kernel
theorem dX12_join_478 : decode cX12_join 478 = .ok (.iconst 1, 1) := by decide +kernel
theorem dX12_join_479 : decode cX12_join 479 = .ok (.putfield 579, 3) := by decide +kernel
theorem dX12_join_482 : decode cX12_join 482 = .ok (.iload 6, 2) := by decide +kernel
theorem dX12_join_484 : decode cX12_join 484 = .ok (.ireturn, 1) := by decide +kernel
theorem dX12_joined_0 : decode cX12_joined 0 = .ok (.aload_n 0, 1) := by decide +kernel
theorem dX12_joined_1 : decode cX12_joined 1 = .ok (.getfield 579, 3) := by decide +kernel
theorem dX12_joined_4 : decode cX12_joined 4 = .ok (.ifCond .ne 5, 3) := by decide +kernel
theorem dX12_joined_7 : decode cX12_joined 7 = .ok (.iconst (-1), 1) := by decide +kernel
theorem dX12_joined_8 : decode cX12_joined 8 = .ok (.ireturn, 1) := by decide +kernel
theorem dX12_joined_9 : decode cX12_joined 9 = .ok (.iload_n 1, 1) := by decide +kernel
theorem dX12_joined_10 : decode cX12_joined 10 = .ok (.iconst (-1), 1) := by decide +kernel
theorem dX12_joined_11 : decode cX12_joined 11 = .ok (.if_icmp .ne 10, 3) := by decide +kernel
theorem dX12_joined_14 : decode cX12_joined 14 = .ok (.aload_n 0, 1) := by decide +kernel
theorem dX12_joined_15 : decode cX12_joined 15 = .ok (.getfield 593, 3) := by decide +kernel
theorem dX12_joined_18 : decode cX12_joined 18 = .ok (.goto 42, 3) := by decide +kernel
theorem dX12_joined_21 : decode cX12_joined 21 = .ok (.iload_n 1, 1) := by decide +kernel
theorem dX12_joined_22 : decode cX12_joined 22 = .ok (.bipush (-2), 2) := by decide +kernel
theorem dX12_joined_24 : decode cX12_joined 24 = .ok (.if_icmp .ne 10, 3) := by decide +kernel
theorem dX12_joined_27 : decode cX12_joined 27 = .ok (.aload_n 0, 1) := by decide +kernel
theorem dX12_joined_28 : decode cX12_joined 28 = .ok (.getfield 596, 3) := by decide +kernel
theorem dX12_joined_31 : decode cX12_joined 31 = .ok (.goto 29, 3) := by decide +kernel
theorem dX12_joined_34 : decode cX12_joined 34 = .ok (.iload_n 1, 1) := by decide +kernel
theorem dX12_joined_35 : decode cX12_joined 35 = .ok (.iconst 0, 1) := by decide +kernel
theorem dX12_joined_36 : decode cX12_joined 36 = .ok (.aload_n 0, 1) := by decide +kernel
theorem dX12_joined_37 : decode cX12_joined 37 = .ok (.getfield 248, 3) := by decide +kernel
theorem dX12_joined_40 : decode cX12_joined 40 = .ok (.iconst 0, 1) := by decide +kernel
theorem dX12_joined_41 : decode cX12_joined 41 = .ok (.iaload, 1) := by decide +kernel
theorem dX12_joined_42 : decode cX12_joined 42 = .ok (.iconst 1, 1) := by decide +kernel
theorem dX12_joined_43 : decode cX12_joined 43 = .ok (.isub, 1) := by decide +kernel
theorem dX12_joined_44 : decode cX12_joined 44 = .ok (.invokestatic 269, 3) := by decide +kernel
theorem dX12_joined_47 : decode cX12_joined 47 = .ok (.ifCond .eq 12, 3) := by decide +kernel
theorem dX12_joined_50 : decode cX12_joined 50 = .ok (.aload_n 0, 1) := by decide +kernel
theorem dX12_joined_51 : decode cX12_joined 51 = .ok (.getfield 260, 3) := by decide +kernel
theorem dX12_joined_54 : decode cX12_joined 54 = .ok (.iload_n 1, 1) := by decide +kernel
theorem dX12_joined_55 : decode cX12_joined 55 = .ok (.iaload, 1) := by decide +kernel
theorem dX12_joined_56 : decode cX12_joined 56 = .ok (.goto 4, 3) := by decide +kernel
theorem dX12_joined_59 : decode cX12_joined 59 = .ok (.iconst (-1), 1) := by decide +kernel
theorem dX12_joined_60 : decode cX12_joined 60 = .ok (.ireturn, 1) := by decide +kernel
theorem dX12_count_0 : decode cX12_count 0 = .ok (.lconst 0, 1) := by decide +kernel
theorem dX12_count_1 : decode cX12_count 1 = .ok (.lstore_n 2, 1) := by decide +kernel
theorem dX12_count_2 : decode cX12_count 2 = .ok (.iload_n 1, 1) := by decide +kernel
theorem dX12_count_3 : decode cX12_count 3 = .ok (.tableswitch 209 0 13 #[69, 75, 81, 87, 93, 99, 105, 111, 117, 123, 129, 135, 143, 151], 69) := by decide +kernel
theorem dX12_count_72 : decode cX12_count 72 = .ok (.aload_n 0, 1) := by decide +kernel
theorem dX12_count_73 : decode cX12_count 73 = .ok (.getfield 273, 3) := by decide +kernel
theorem dX12_count_76 : decode cX12_count 76 = .ok (.i2l, 1) := by decide +kernel
theorem dX12_count_77 : decode cX12_count 77 = .ok (.lreturn, 1) := by decide +kernel
theorem dX12_count_78 : decode cX12_count 78 = .ok (.aload_n 0, 1) := by decide +kernel
theorem dX12_count_79 : decode cX12_count 79 = .ok (.getfield 276, 3) := by decide +kernel
theorem dX12_count_82 : decode cX12_count 82 = .ok (.i2l, 1) := by decide +kernel
theorem dX12_count_83 : decode cX12_count 83 = .ok (.lreturn, 1) := by decide +kernel
theorem dX12_count_84 : decode cX12_count 84 = .ok (.aload_n 0, 1) := by decide +kernel
theorem dX12_count_85 : decode cX12_count 85 = .ok (.getfield 288, 3) := by decide +kernel
theorem dX12_count_88 : decode cX12_count 88 = .ok (.i2l, 1) := by decide +kernel
theorem dX12_count_89 : decode cX12_count 89 = .ok (.lreturn, 1) := by decide +kernel
theorem dX12_count_90 : decode cX12_count 90 = .ok (.aload_n 0, 1) := by decide +kernel
theorem dX12_count_91 : decode cX12_count 91 = .ok (.getfield 356, 3) := by decide +kernel
theorem dX12_count_94 : decode cX12_count 94 = .ok (.i2l, 1) := by decide +kernel
theorem dX12_count_95 : decode cX12_count 95 = .ok (.lreturn, 1) := by decide +kernel
theorem dX12_count_96 : decode cX12_count 96 = .ok (.aload_n 0, 1) := by decide +kernel
theorem dX12_count_97 : decode cX12_count 97 = .ok (.getfield 472, 3) := by decide +kernel
theorem dX12_count_100 : decode cX12_count 100 = .ok (.i2l, 1) := by decide +kernel
theorem dX12_count_101 : decode cX12_count 101 = .ok (.lreturn, 1) := by decide +kernel
theorem dX12_count_102 : decode cX12_count 102 = .ok (.aload_n 0, 1) := by decide +kernel
theorem dX12_count_103 : decode cX12_count 103 = .ok (.getfield 510, 3) := by decide +kernel
theorem dX12_count_106 : decode cX12_count 106 = .ok (.i2l, 1) := by decide +kernel
theorem dX12_count_107 : decode cX12_count 107 = .ok (.lreturn, 1) := by decide +kernel
theorem dX12_count_108 : decode cX12_count 108 = .ok (.aload_n 0, 1) := by decide +kernel
theorem dX12_count_109 : decode cX12_count 109 = .ok (.getfield 547, 3) := by decide +kernel
theorem dX12_count_112 : decode cX12_count 112 = .ok (.i2l, 1) := by decide +kernel
theorem dX12_count_113 : decode cX12_count 113 = .ok (.lreturn, 1) := by decide +kernel
theorem dX12_count_114 : decode cX12_count 114 = .ok (.aload_n 0, 1) := by decide +kernel
theorem dX12_count_115 : decode cX12_count 115 = .ok (.getfield 550, 3) := by decide +kernel
theorem dX12_count_118 : decode cX12_count 118 = .ok (.i2l, 1) := by decide +kernel
theorem dX12_count_119 : decode cX12_count 119 = .ok (.lreturn, 1) := by decide +kernel
theorem dX12_count_120 : decode cX12_count 120 = .ok (.aload_n 0, 1) := by decide +kernel
theorem dX12_count_121 : decode cX12_count 121 = .ok (.getfield 466, 3) := by decide +kernel
theorem dX12_count_124 : decode cX12_count 124 = .ok (.i2l, 1) := by decide +kernel
theorem dX12_count_125 : decode cX12_count 125 = .ok (.lreturn, 1) := by decide +kernel
theorem dX12_count_126 : decode cX12_count 126 = .ok (.aload_n 0, 1) := by decide +kernel
theorem dX12_count_127 : decode cX12_count 127 = .ok (.getfield 298, 3) := by decide +kernel
theorem dX12_count_130 : decode cX12_count 130 = .ok (.i2l, 1) := by decide +kernel
theorem dX12_count_131 : decode cX12_count 131 = .ok (.lreturn, 1) := by decide +kernel
theorem dX12_count_132 : decode cX12_count 132 = .ok (.aload_n 0, 1) := by decide +kernel
theorem dX12_count_133 : decode cX12_count 133 = .ok (.getfield 571, 3) := by decide +kernel
theorem dX12_count_136 : decode cX12_count 136 = .ok (.i2l, 1) := by decide +kernel
theorem dX12_count_137 : decode cX12_count 137 = .ok (.lreturn, 1) := by decide +kernel
theorem dX12_count_138 : decode cX12_count 138 = .ok (.aload_n 0, 1) := by decide +kernel
theorem dX12_count_139 : decode cX12_count 139 = .ok (.getfield 248, 3) := by decide +kernel
theorem dX12_count_142 : decode cX12_count 142 = .ok (.iconst 0, 1) := by decide +kernel
theorem dX12_count_143 : decode cX12_count 143 = .ok (.iaload, 1) := by decide +kernel
theorem dX12_count_144 : decode cX12_count 144 = .ok (.i2l, 1) := by decide +kernel
theorem dX12_count_145 : decode cX12_count 145 = .ok (.lreturn, 1) := by decide +kernel
theorem dX12_count_146 : decode cX12_count 146 = .ok (.aload_n 0, 1) := by decide +kernel
theorem dX12_count_147 : decode cX12_count 147 = .ok (.getfield 248, 3) := by decide +kernel
theorem dX12_count_150 : decode cX12_count 150 = .ok (.iconst 1, 1) := by decide +kernel
theorem dX12_count_151 : decode cX12_count 151 = .ok (.iaload, 1) := by decide +kernel
theorem dX12_count_152 : decode cX12_count 152 = .ok (.i2l, 1) := by decide +kernel
theorem dX12_count_153 : decode cX12_count 153 = .ok (.lreturn, 1) := by decide +kernel
theorem dX12_count_154 : decode cX12_count 154 = .ok (.iconst 0, 1) := by decide +kernel
theorem dX12_count_155 : decode cX12_count 155 = .ok (.istore 4, 2) := by decide +kernel
theorem dX12_count_157 : decode cX12_count 157 = .ok (.iload 4, 2) := by decide +kernel
theorem dX12_count_159 : decode cX12_count 159 = .ok (.aload_n 0, 1) := by decide +kernel
theorem dX12_count_160 : decode cX12_count 160 = .ok (.getfield 276, 3) := by decide +kernel
theorem dX12_count_163 : decode cX12_count 163 = .ok (.if_icmp .ge 20, 3) := by decide +kernel
theorem dX12_count_166 : decode cX12_count 166 = .ok (.lload_n 2, 1) := by decide +kernel
theorem dX12_count_167 : decode cX12_count 167 = .ok (.aload_n 0, 1) := by decide +kernel
theorem dX12_count_168 : decode cX12_count 168 = .ok (.getfield 13, 3) := by decide +kernel
theorem dX12_count_171 : decode cX12_count 171 = .ok (.iload 4, 2) := by decide +kernel
theorem dX12_count_173 : decode cX12_count 173 = .ok (.iaload, 1) := by decide +kernel
theorem dX12_count_174 : decode cX12_count 174 = .ok (.i2l, 1) := by decide +kernel
theorem dX12_count_175 : decode cX12_count 175 = .ok (.ladd, 1) := by decide +kernel
theorem dX12_count_176 : decode cX12_count 176 = .ok (.lstore_n 2, 1) := by decide +kernel
theorem dX12_count_177 : decode cX12_count 177 = .ok (.iinc 4 1, 3) := by decide +kernel
theorem dX12_count_180 : decode cX12_count 180 = .ok (.goto (-23), 3) := by decide +kernel
theorem dX12_count_183 : decode cX12_count 183 = .ok (.iconst 0, 1) := by decide +kernel
theorem dX12_count_184 : decode cX12_count 184 = .ok (.istore 4, 2) := by decide +kernel
theorem dX12_count_186 : decode cX12_count 186 = .ok (.iload 4, 2) := by decide +kernel
theorem dX12_count_188 : decode cX12_count 188 = .ok (.bipush 9, 2) := by decide +kernel
theorem dX12_count_190 : decode cX12_count 190 = .ok (.if_icmp .gt 20, 3) := by decide +kernel
theorem dX12_count_193 : decode cX12_count 193 = .ok (.lload_n 2, 1) := by decide +kernel
theorem dX12_count_194 : decode cX12_count 194 = .ok (.aload_n 0, 1) := by decide +kernel
theorem dX12_count_195 : decode cX12_count 195 = .ok (.getfield 25, 3) := by decide +kernel
theorem dX12_count_198 : decode cX12_count 198 = .ok (.iload 4, 2) := by decide +kernel
theorem dX12_count_200 : decode cX12_count 200 = .ok (.iaload, 1) := by decide +kernel
theorem dX12_count_201 : decode cX12_count 201 = .ok (.i2l, 1) := by decide +kernel
theorem dX12_count_202 : decode cX12_count 202 = .ok (.ladd, 1) := by decide +kernel
theorem dX12_count_203 : decode cX12_count 203 = .ok (.lstore_n 2, 1) := by decide +kernel
theorem dX12_count_204 : decode cX12_count 204 = .ok (.iinc 4 1, 3) := by decide +kernel
theorem dX12_count_207 : decode cX12_count 207 = .ok (.goto (-21), 3) := by decide +kernel
theorem dX12_count_210 : decode cX12_count 210 = .ok (.lload_n 2, 1) := by decide +kernel
theorem dX12_count_211 : decode cX12_count 211 = .ok (.lreturn, 1) := by decide +kernel
theorem dX12_count_212 : decode cX12_count 212 = .ok (.ldc2_w 553, 3) := by decide +kernel
theorem dX12_count_215 : decode cX12_count 215 = .ok (.lreturn, 1) := by decide +kernel
