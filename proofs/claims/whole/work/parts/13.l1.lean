theorem mf_X12_191 : mm_fl RX12 191 13 83 := ⟨RX12, TX12, 117, "MerchantYardModel", rfl, mi13, by decide, rfl, by decide, (mm_in7 1 (by decide +kernel) (by decide +kernel)), Or.inl rfl⟩
theorem mf_X12_194 : mm_fl RX12 194 13 84 := ⟨RX12, TX12, 117, "MerchantYardModel", rfl, mi13, by decide, rfl, by decide, (mm_in7 2 (by decide +kernel) (by decide +kernel)), Or.inl rfl⟩
theorem mf_X12_197 : mm_fl RX12 197 13 85 := ⟨RX12, TX12, 117, "MerchantYardModel", rfl, mi13, by decide, rfl, by decide, (mm_in7 3 (by decide +kernel) (by decide +kernel)), Or.inl rfl⟩
theorem mf_X12_200 : mm_fl RX12 200 13 86 := ⟨RX12, TX12, 117, "MerchantYardModel", rfl, mi13, by decide, rfl, by decide, (mm_in7 4 (by decide +kernel) (by decide +kernel)), Or.inl rfl⟩
theorem mf_X12_203 : mm_fl RX12 203 13 87 := ⟨RX12, TX12, 117, "MerchantYardModel", rfl, mi13, by decide, rfl, by decide, (mm_in7 5 (by decide +kernel) (by decide +kernel)), Or.inl rfl⟩
theorem mf_X12_206 : mm_fl RX12 206 13 92 := ⟨RX12, TX12, 117, "MerchantYardModel", rfl, mi13, by decide, rfl, by decide, (mm_in7 10 (by decide +kernel) (by decide +kernel)), Or.inl rfl⟩
theorem mf_X12_209 : mm_fl RX12 209 13 93 := ⟨RX12, TX12, 117, "MerchantYardModel", rfl, mi13, by decide, rfl, by decide, (mm_in7 11 (by decide +kernel) (by decide +kernel)), Or.inl rfl⟩
theorem mf_X12_212 : mm_fl RX12 212 13 94 := ⟨RX12, TX12, 117, "MerchantYardModel", rfl, mi13, by decide, rfl, by decide, (mm_in7 12 (by decide +kernel) (by decide +kernel)), Or.inl rfl⟩
theorem mf_X12_215 : mm_fl RX12 215 13 95 := ⟨RX12, TX12, 117, "MerchantYardModel", rfl, mi13, by decide, rfl, by decide, (mm_in7 13 (by decide +kernel) (by decide +kernel)), Or.inl rfl⟩
theorem mf_X12_218 : mm_fl RX12 218 13 96 := ⟨RX12, TX12, 117, "MerchantYardModel", rfl, mi13, by decide, rfl, by decide, (mm_in7 14 (by decide +kernel) (by decide +kernel)), Or.inl rfl⟩
theorem mf_X12_22 : mm_fl RX12 22 13 7 := ⟨RX12, TX12, 117, "MerchantYardModel", rfl, mi13, by decide, rfl, by decide, (mm_in6 165 (by decide +kernel) (by decide +kernel)), Or.inl rfl⟩
theorem mf_X12_221 : mm_fl RX12 221 13 97 := ⟨RX12, TX12, 117, "MerchantYardModel", rfl, mi13, by decide, rfl, by decide, (mm_in7 15 (by decide +kernel) (by decide +kernel)), Or.inl rfl⟩
theorem mf_X12_224 : mm_fl RX12 224 13 98 := ⟨RX12, TX12, 117, "MerchantYardModel", rfl, mi13, by decide, rfl, by decide, (mm_in7 16 (by decide +kernel) (by decide +kernel)), Or.inl rfl⟩
theorem mf_X12_227 : mm_fl RX12 227 13 99 := ⟨RX12, TX12, 117, "MerchantYardModel", rfl, mi13, by decide, rfl, by decide, (mm_in7 17 (by decide +kernel) (by decide +kernel)), Or.inl rfl⟩
theorem mf_X12_230 : mm_fl RX12 230 13 100 := ⟨RX12, TX12, 117, "MerchantYardModel", rfl, mi13, by decide, rfl, by decide, (mm_in7 18 (by decide +kernel) (by decide +kernel)), Or.inl rfl⟩
theorem mf_X12_233 : mm_fl RX12 233 13 101 := ⟨RX12, TX12, 117, "MerchantYardModel", rfl, mi13, by decide, rfl, by decide, (mm_in7 19 (by decide +kernel) (by decide +kernel)), Or.inl rfl⟩
theorem mf_X12_236 : mm_fl RX12 236 13 104 := ⟨RX12, TX12, 117, "MerchantYardModel", rfl, mi13, by decide, rfl, by decide, (mm_in7 22 (by decide +kernel) (by decide +kernel)), Or.inl rfl⟩
theorem mf_X12_239 : mm_fl RX12 239 13 105 := ⟨RX12, TX12, 117, "MerchantYardModel", rfl, mi13, by decide, rfl, by decide, (mm_in7 23 (by decide +kernel) (by decide +kernel)), Or.inl rfl⟩
theorem mf_X12_242 : mm_fl RX12 242 13 106 := ⟨RX12, TX12, 117, "MerchantYardModel", rfl, mi13, by decide, rfl, by decide, (mm_in7 24 (by decide +kernel) (by decide +kernel)), Or.inl rfl⟩
theorem mf_X12_245 : mm_fl RX12 245 13 107 := ⟨RX12, TX12, 117, "MerchantYardModel", rfl, mi13, by decide, rfl, by decide, (mm_in7 25 (by decide +kernel) (by decide +kernel)), Or.inl rfl⟩
theorem mf_X12_248 : mm_fl RX12 248 13 109 := ⟨RX12, TX12, 117, "MerchantYardModel", rfl, mi13, by decide, rfl, by decide, (mm_in7 27 (by decide +kernel) (by decide +kernel)), Or.inl rfl⟩
theorem mf_X12_25 : mm_fl RX12 25 13 8 := ⟨RX12, TX12, 117, "MerchantYardModel", rfl, mi13, by decide, rfl, by decide, (mm_in6 166 (by decide +kernel) (by decide +kernel)), Or.inl rfl⟩
theorem mf_X12_251 : mm_fl RX12 251 13 110 := ⟨RX12, TX12, 117, "MerchantYardModel", rfl, mi13, by decide, rfl, by decide, (mm_in7 28 (by decide +kernel) (by decide +kernel)), Or.inl rfl⟩
theorem mf_X12_254 : mm_fl RX12 254 13 111 := ⟨RX12, TX12, 117, "MerchantYardModel", rfl, mi13, by decide, rfl, by decide, (mm_in7 29 (by decide +kernel) (by decide +kernel)), Or.inl rfl⟩
theorem mf_X12_257 : mm_fl RX12 257 13 112 := ⟨RX12, TX12, 117, "MerchantYardModel", rfl, mi13, by decide, rfl, by decide, (mm_in7 30 (by decide +kernel) (by decide +kernel)), Or.inl rfl⟩
theorem mf_X12_260 : mm_fl RX12 260 13 113 := ⟨RX12, TX12, 117, "MerchantYardModel", rfl, mi13, by decide, rfl, by decide, (mm_in7 31 (by decide +kernel) (by decide +kernel)), Or.inl rfl⟩
theorem mf_X12_263 : mm_fl RX12 263 13 116 := ⟨RX12, TX12, 117, "MerchantYardModel", rfl, mi13, by decide, rfl, by decide, (mm_in7 34 (by decide +kernel) (by decide +kernel)), Or.inl rfl⟩
theorem mf_X12_273 : mm_fl RX12 273 13 1 := ⟨RX12, TX12, 117, "MerchantYardModel", rfl, mi13, by decide, rfl, by decide, (mm_in6 159 (by decide +kernel) (by decide +kernel)), Or.inl rfl⟩
theorem mf_X12_276 : mm_fl RX12 276 13 2 := ⟨RX12, TX12, 117, "MerchantYardModel", rfl, mi13, by decide, rfl, by decide, (mm_in6 160 (by decide +kernel) (by decide +kernel)), Or.inl rfl⟩
theorem mf_X12_28 : mm_fl RX12 28 13 9 := ⟨RX12, TX12, 117, "MerchantYardModel", rfl, mi13, by decide, rfl, by decide, (mm_in6 167 (by decide +kernel) (by decide +kernel)), Or.inl rfl⟩
theorem mf_X12_288 : mm_fl RX12 288 13 10 := ⟨RX12, TX12, 117, "MerchantYardModel", rfl, mi13, by decide, rfl, by decide, (mm_in6 168 (by decide +kernel) (by decide +kernel)), Or.inl rfl⟩
theorem mf_X12_298 : mm_fl RX12 298 13 17 := ⟨RX12, TX12, 117, "MerchantYardModel", rfl, mi13, by decide, rfl, by decide, (mm_in6 175 (by decide +kernel) (by decide +kernel)), Or.inl rfl⟩
theorem mf_X12_305 : mm_fl RX12 305 13 20 := ⟨RX12, TX12, 117, "MerchantYardModel", rfl, mi13, by decide, rfl, by decide, (mm_in6 178 (by decide +kernel) (by decide +kernel)), Or.inl rfl⟩
theorem mf_X12_308 : mm_fl RX12 308 13 18 := ⟨RX12, TX12, 117, "MerchantYardModel", rfl, mi13, by decide, rfl, by decide, (mm_in6 176 (by decide +kernel) (by decide +kernel)), Or.inl rfl⟩
theorem mf_X12_311 : mm_fl RX12 311 13 19 := ⟨RX12, TX12, 117, "MerchantYardModel", rfl, mi13, by decide, rfl, by decide, (mm_in6 177 (by decide +kernel) (by decide +kernel)), Or.inl rfl⟩
theorem mf_X12_32 : mm_fl RX12 32 13 11 := ⟨RX12, TX12, 117, "MerchantYardModel", rfl, mi13, by decide, rfl, by decide, (mm_in6 169 (by decide +kernel) (by decide +kernel)), Or.inl rfl⟩
theorem mf_X12_35 : mm_fl RX12 35 13 12 := ⟨RX12, TX12, 117, "MerchantYardModel", rfl, mi13, by decide, rfl, by decide, (mm_in6 170 (by decide +kernel) (by decide +kernel)), Or.inl rfl⟩
theorem mf_X12_356 : mm_fl RX12 356 13 23 := ⟨RX12, TX12, 117, "MerchantYardModel", rfl, mi13, by decide, rfl, by decide, (mm_in6 181 (by decide +kernel) (by decide +kernel)), Or.inl rfl⟩
theorem mf_X12_359 : mm_fl RX12 359 13 33 := ⟨RX12, TX12, 117, "MerchantYardModel", rfl, mi13, by decide, rfl, by decide, (mm_in6 191 (by decide +kernel) (by decide +kernel)), Or.inl rfl⟩
theorem mf_X12_362 : mm_fl RX12 362 13 34 := ⟨RX12, TX12, 117, "MerchantYardModel", rfl, mi13, by decide, rfl, by decide, (mm_in6 192 (by decide +kernel) (by decide +kernel)), Or.inl rfl⟩
theorem mf_X12_365 : mm_fl RX12 365 13 21 := ⟨RX12, TX12, 117, "MerchantYardModel", rfl, mi13, by decide, rfl, by decide, (mm_in6 179 (by decide +kernel) (by decide +kernel)), Or.inl rfl⟩
theorem mf_X12_374 : mm_fl RX12 374 13 22 := ⟨RX12, TX12, 117, "MerchantYardModel", rfl, mi13, by decide, rfl, by decide, (mm_in6 180 (by decide +kernel) (by decide +kernel)), Or.inl rfl⟩
theorem mf_X12_38 : mm_fl RX12 38 13 13 := ⟨RX12, TX12, 117, "MerchantYardModel", rfl, mi13, by decide, rfl, by decide, (mm_in6 171 (by decide +kernel) (by decide +kernel)), Or.inl rfl⟩
theorem mf_X12_41 : mm_fl RX12 41 13 14 := ⟨RX12, TX12, 117, "MerchantYardModel", rfl, mi13, by decide, rfl, by decide, (mm_in6 172 (by decide +kernel) (by decide +kernel)), Or.inl rfl⟩
theorem mf_X12_44 : mm_fl RX12 44 13 15 := ⟨RX12, TX12, 117, "MerchantYardModel", rfl, mi13, by decide, rfl, by decide, (mm_in6 173 (by decide +kernel) (by decide +kernel)), Or.inl rfl⟩
theorem mf_X12_466 : mm_fl RX12 466 13 38 := ⟨RX12, TX12, 117, "MerchantYardModel", rfl, mi13, by decide, rfl, by decide, (mm_in6 196 (by decide +kernel) (by decide +kernel)), Or.inl rfl⟩
theorem mf_X12_47 : mm_fl RX12 47 13 16 := ⟨RX12, TX12, 117, "MerchantYardModel", rfl, mi13, by decide, rfl, by decide, (mm_in6 174 (by decide +kernel) (by decide +kernel)), Or.inl rfl⟩
theorem mf_X12_472 : mm_fl RX12 472 13 43 := ⟨RX12, TX12, 117, "MerchantYardModel", rfl, mi13, by decide, rfl, by decide, (mm_in6 201 (by decide +kernel) (by decide +kernel)), Or.inl rfl⟩
theorem mf_X12_51 : mm_fl RX12 51 13 24 := ⟨RX12, TX12, 117, "MerchantYardModel", rfl, mi13, by decide, rfl, by decide, (mm_in6 182 (by decide +kernel) (by decide +kernel)), Or.inl rfl⟩
theorem mf_X12_510 : mm_fl RX12 510 13 61 := ⟨RX12, TX12, 117, "MerchantYardModel", rfl, mi13, by decide, rfl, by decide, (mm_in6 219 (by decide +kernel) (by decide +kernel)), Or.inl rfl⟩
theorem mf_X12_513 : mm_fl RX12 513 13 67 := ⟨RX12, TX12, 117, "MerchantYardModel", rfl, mi13, by decide, rfl, by decide, (mm_in6 225 (by decide +kernel) (by decide +kernel)), Or.inl rfl⟩
theorem mf_X12_517 : mm_fl RX12 517 13 68 := ⟨RX12, TX12, 117, "MerchantYardModel", rfl, mi13, by decide, rfl, by decide, (mm_in6 226 (by decide +kernel) (by decide +kernel)), Or.inl rfl⟩
theorem mf_X12_520 : mm_fl RX12 520 13 69 := ⟨RX12, TX12, 117, "MerchantYardModel", rfl, mi13, by decide, rfl, by decide, (mm_in6 227 (by decide +kernel) (by decide +kernel)), Or.inl rfl⟩
theorem mf_X12_523 : mm_fl RX12 523 13 70 := ⟨RX12, TX12, 117, "MerchantYardModel", rfl, mi13, by decide, rfl, by decide, (mm_in6 228 (by decide +kernel) (by decide +kernel)), Or.inl rfl⟩
theorem mf_X12_526 : mm_fl RX12 526 13 71 := ⟨RX12, TX12, 117, "MerchantYardModel", rfl, mi13, by decide, rfl, by decide, (mm_in6 229 (by decide +kernel) (by decide +kernel)), Or.inl rfl⟩
theorem mf_X12_529 : mm_fl RX12 529 13 72 := ⟨RX12, TX12, 117, "MerchantYardModel", rfl, mi13, by decide, rfl, by decide, (mm_in6 230 (by decide +kernel) (by decide +kernel)), Or.inl rfl⟩
theorem mf_X12_54 : mm_fl RX12 54 13 25 := ⟨RX12, TX12, 117, "MerchantYardModel", rfl, mi13, by decide, rfl, by decide, (mm_in6 183 (by decide +kernel) (by decide +kernel)), Or.inl rfl⟩
theorem mf_X12_547 : mm_fl RX12 547 13 76 := ⟨RX12, TX12, 117, "MerchantYardModel", rfl, mi13, by decide, rfl, by decide, (mm_in6 234 (by decide +kernel) (by decide +kernel)), Or.inl rfl⟩
theorem mf_X12_550 : mm_fl RX12 550 13 77 := ⟨RX12, TX12, 117, "MerchantYardModel", rfl, mi13, by decide, rfl, by decide, (mm_in6 235 (by decide +kernel) (by decide +kernel)), Or.inl rfl⟩
theorem mf_X12_558 : mm_fl RX12 558 13 88 := ⟨RX12, TX12, 117, "MerchantYardModel", rfl, mi13, by decide, rfl, by decide, (mm_in7 6 (by decide +kernel) (by decide +kernel)), Or.inl rfl⟩
theorem mf_X12_562 : mm_fl RX12 562 13 89 := ⟨RX12, TX12, 117, "MerchantYardModel", rfl, mi13, by decide, rfl, by decide, (mm_in7 7 (by decide +kernel) (by decide +kernel)), Or.inl rfl⟩
theorem mf_X12_565 : mm_fl RX12 565 13 90 := ⟨RX12, TX12, 117, "MerchantYardModel", rfl, mi13, by decide, rfl, by decide, (mm_in7 8 (by decide +kernel) (by decide +kernel)), Or.inl rfl⟩
theorem mf_X12_568 : mm_fl RX12 568 13 91 := ⟨RX12, TX12, 117, "MerchantYardModel", rfl, mi13, by decide, rfl, by decide, (mm_in7 9 (by decide +kernel) (by decide +kernel)), Or.inl rfl⟩
theorem mf_X12_57 : mm_fl RX12 57 13 26 := ⟨RX12, TX12, 117, "MerchantYardModel", rfl, mi13, by decide, rfl, by decide, (mm_in6 184 (by decide +kernel) (by decide +kernel)), Or.inl rfl⟩
theorem mf_X12_571 : mm_fl RX12 571 13 102 := ⟨RX12, TX12, 117, "MerchantYardModel", rfl, mi13, by decide, rfl, by decide, (mm_in7 20 (by decide +kernel) (by decide +kernel)), Or.inl rfl⟩
theorem mf_X12_574 : mm_fl RX12 574 13 103 := ⟨RX12, TX12, 117, "MerchantYardModel", rfl, mi13, by decide, rfl, by decide, (mm_in7 21 (by decide +kernel) (by decide +kernel)), Or.inl rfl⟩
theorem mf_X12_579 : mm_fl RX12 579 13 108 := ⟨RX12, TX12, 117, "MerchantYardModel", rfl, mi13, by decide, rfl, by decide, (mm_in7 26 (by decide +kernel) (by decide +kernel)), Or.inl rfl⟩
theorem mf_X12_593 : mm_fl RX12 593 13 114 := ⟨RX12, TX12, 117, "MerchantYardModel", rfl, mi13, by decide, rfl, by decide, (mm_in7 32 (by decide +kernel) (by decide +kernel)), Or.inl rfl⟩
theorem mf_X12_596 : mm_fl RX12 596 13 115 := ⟨RX12, TX12, 117, "MerchantYardModel", rfl, mi13, by decide, rfl, by decide, (mm_in7 33 (by decide +kernel) (by decide +kernel)), Or.inl rfl⟩
theorem mf_X12_60 : mm_fl RX12 60 13 27 := ⟨RX12, TX12, 117, "MerchantYardModel", rfl, mi13, by decide, rfl, by decide, (mm_in6 185 (by decide +kernel) (by decide +kernel)), Or.inl rfl⟩
theorem mf_X12_63 : mm_fl RX12 63 13 28 := ⟨RX12, TX12, 117, "MerchantYardModel", rfl, mi13, by decide, rfl, by decide, (mm_in6 186 (by decide +kernel) (by decide +kernel)), Or.inl rfl⟩
theorem mf_X12_66 : mm_fl RX12 66 13 29 := ⟨RX12, TX12, 117, "MerchantYardModel", rfl, mi13, by decide, rfl, by decide, (mm_in6 187 (by decide +kernel) (by decide +kernel)), Or.inl rfl⟩
theorem mf_X12_69 : mm_fl RX12 69 13 30 := ⟨RX12, TX12, 117, "MerchantYardModel", rfl, mi13, by decide, rfl, by decide, (mm_in6 188 (by decide +kernel) (by decide +kernel)), Or.inl rfl⟩
theorem mf_X12_72 : mm_fl RX12 72 13 31 := ⟨RX12, TX12, 117, "MerchantYardModel", rfl, mi13, by decide, rfl, by decide, (mm_in6 189 (by decide +kernel) (by decide +kernel)), Or.inl rfl⟩
theorem mf_X12_75 : mm_fl RX12 75 13 32 := ⟨RX12, TX12, 117, "MerchantYardModel", rfl, mi13, by decide, rfl, by decide, (mm_in6 190 (by decide +kernel) (by decide +kernel)), Or.inl rfl⟩
theorem mf_X12_78 : mm_fl RX12 78 13 35 := ⟨RX12, TX12, 117, "MerchantYardModel", rfl, mi13, by decide, rfl, by decide, (mm_in6 193 (by decide +kernel) (by decide +kernel)), Or.inl rfl⟩
theorem mf_X12_81 : mm_fl RX12 81 13 36 := ⟨RX12, TX12, 117, "MerchantYardModel", rfl, mi13, by decide, rfl, by decide, (mm_in6 194 (by decide +kernel) (by decide +kernel)), Or.inl rfl⟩
theorem mf_X12_85 : mm_fl RX12 85 13 37 := ⟨RX12, TX12, 117, "MerchantYardModel", rfl, mi13, by decide, rfl, by decide, (mm_in6 195 (by decide +kernel) (by decide +kernel)), Or.inl rfl⟩
theorem mf_X12_88 : mm_fl RX12 88 13 39 := ⟨RX12, TX12, 117, "MerchantYardModel", rfl, mi13, by decide, rfl, by decide, (mm_in6 197 (by decide +kernel) (by decide +kernel)), Or.inl rfl⟩
theorem mf_X12_9 : mm_fl RX12 9 13 3 := ⟨RX12, TX12, 117, "MerchantYardModel", rfl, mi13, by decide, rfl, by decide, (mm_in6 161 (by decide +kernel) (by decide +kernel)), Or.inl rfl⟩
theorem mf_X12_91 : mm_fl RX12 91 13 40 := ⟨RX12, TX12, 117, "MerchantYardModel", rfl, mi13, by decide, rfl, by decide, (mm_in6 198 (by decide +kernel) (by decide +kernel)), Or.inl rfl⟩
theorem mf_X12_94 : mm_fl RX12 94 13 41 := ⟨RX12, TX12, 117, "MerchantYardModel", rfl, mi13, by decide, rfl, by decide, (mm_in6 199 (by decide +kernel) (by decide +kernel)), Or.inl rfl⟩
theorem mf_X12_97 : mm_fl RX12 97 13 42 := ⟨RX12, TX12, 117, "MerchantYardModel", rfl, mi13, by decide, rfl, by decide, (mm_in6 200 (by decide +kernel) (by decide +kernel)), Or.inl rfl⟩
theorem mf_Jxc12de_7 : mm_fl RJxc12de 7 0 0 := ⟨RJx4a65c, TJx4a65c, 3, "java/util/AbstractList", rfl, mi0, by decide, rfl, by decide, (mm_in1 51 (by decide +kernel) (by decide +kernel)), Or.inl rfl⟩
theorem mf_Jx4a65c_48 : mm_fl RJx4a65c 48 0 2 := ⟨RJx4a65c, TJx4a65c, 3, "java/util/ArrayList", rfl, mi0, by decide, rfl, by decide, (mm_in1 50 (by decide +kernel) (by decide +kernel)), Or.inl rfl⟩
theorem mf_Jx4a65c_63 : mm_fl RJx4a65c 63 0 0 := ⟨RJx4a65c, TJx4a65c, 3, "java/util/ArrayList", rfl, mi0, by decide, rfl, by decide, (mm_in1 52 (by decide +kernel) (by decide +kernel)), Or.inr (mm_in1 53 (by decide +kernel) (by decide +kernel))⟩
theorem mf_Jx4a65c_9 : mm_fl RJx4a65c 9 0 1 := ⟨RJx4a65c, TJx4a65c, 3, "java/util/ArrayList", rfl, mi0, by decide, rfl, by decide, (mm_in1 49 (by decide +kernel) (by decide +kernel)), Or.inl rfl⟩
theorem mp_X0_1_0 : mm_fp RX0 1 0 .int true := ⟨RX0, TX0, 13, tyX0, rfl, tyX0_ok, nmX0, rfl, rfl, fun h => by rfl⟩
theorem mp_X0_1_1 : mm_fp RX0 1 1 .int true := ⟨RX0, TX0, 13, tyX0, rfl, tyX0_ok, nmX0, rfl, rfl, fun h => by rfl⟩
theorem mp_X0_1_10 : mm_fp RX0 1 10 (.array .int) true := ⟨RX0, TX0, 13, tyX0, rfl, tyX0_ok, nmX0, rfl, rfl, fun h => by rfl⟩
theorem mp_X0_1_11 : mm_fp RX0 1 11 (.array .int) true := ⟨RX0, TX0, 13, tyX0, rfl, tyX0_ok, nmX0, rfl, rfl, fun h => by rfl⟩
theorem mp_X0_1_12 : mm_fp RX0 1 12 (.array .int) true := ⟨RX0, TX0, 13, tyX0, rfl, tyX0_ok, nmX0, rfl, rfl, fun h => by rfl⟩
theorem mp_X0_1_2 : mm_fp RX0 1 2 .int true := ⟨RX0, TX0, 13, tyX0, rfl, tyX0_ok, nmX0, rfl, rfl, fun h => by rfl⟩
theorem mp_X0_1_3 : mm_fp RX0 1 3 .int true := ⟨RX0, TX0, 13, tyX0, rfl, tyX0_ok, nmX0, rfl, rfl, fun h => by rfl⟩
theorem mp_X0_1_4 : mm_fp RX0 1 4 .int true := ⟨RX0, TX0, 13, tyX0, rfl, tyX0_ok, nmX0, rfl, rfl, fun h => by rfl⟩
theorem mp_X0_1_5 : mm_fp RX0 1 5 .int true := ⟨RX0, TX0, 13, tyX0, rfl, tyX0_ok, nmX0, rfl, rfl, fun h => by rfl⟩
theorem mp_X0_1_6 : mm_fp RX0 1 6 .int false := ⟨RX0, TX0, 13, tyX0, rfl, tyX0_ok, nmX0, rfl, rfl, fun h => by cases h⟩
theorem mp_X0_1_8 : mm_fp RX0 1 8 .int false := ⟨RX0, TX0, 13, tyX0, rfl, tyX0_ok, nmX0, rfl, rfl, fun h => by cases h⟩
theorem mp_X0_1_9 : mm_fp RX0 1 9 .int false := ⟨RX0, TX0, 13, tyX0, rfl, tyX0_ok, nmX0, rfl, rfl, fun h => by cases h⟩
theorem mp_X1_2_0 : mm_fp RX1 2 0 (.array .int) true := ⟨RX1, TX1, 10, tyX1, rfl, tyX1_ok, nmX1, rfl, rfl, fun h => by rfl⟩
theorem mp_X1_2_1 : mm_fp RX1 2 1 (.array (.array .int)) true := ⟨RX1, TX1, 10, tyX1, rfl, tyX1_ok, nmX1, rfl, rfl, fun h => by rfl⟩
theorem mp_X1_2_2 : mm_fp RX1 2 2 (.array (.array .int)) true := ⟨RX1, TX1, 10, tyX1, rfl, tyX1_ok, nmX1, rfl, rfl, fun h => by rfl⟩
theorem mp_X1_2_3 : mm_fp RX1 2 3 (.array (.array .int)) true := ⟨RX1, TX1, 10, tyX1, rfl, tyX1_ok, nmX1, rfl, rfl, fun h => by rfl⟩
theorem mp_X1_2_4 : mm_fp RX1 2 4 (.array .int) true := ⟨RX1, TX1, 10, tyX1, rfl, tyX1_ok, nmX1, rfl, rfl, fun h => by rfl⟩
theorem mp_X1_2_5 : mm_fp RX1 2 5 .int false := ⟨RX1, TX1, 10, tyX1, rfl, tyX1_ok, nmX1, rfl, rfl, fun h => by cases h⟩
theorem mp_X1_2_6 : mm_fp RX1 2 6 .int false := ⟨RX1, TX1, 10, tyX1, rfl, tyX1_ok, nmX1, rfl, rfl, fun h => by cases h⟩
theorem mp_X1_2_7 : mm_fp RX1 2 7 .boolean false := ⟨RX1, TX1, 10, tyX1, rfl, tyX1_ok, nmX1, rfl, rfl, fun h => by cases h⟩
theorem mp_X1_2_8 : mm_fp RX1 2 8 (.array .int) true := ⟨RX1, TX1, 10, tyX1, rfl, tyX1_ok, nmX1, rfl, rfl, fun h => by rfl⟩
theorem mp_X1_2_9 : mm_fp RX1 2 9 (.array .int) false := ⟨RX1, TX1, 10, tyX1, rfl, tyX1_ok, nmX1, rfl, rfl, fun h => by cases h⟩
theorem mp_X2_3_0 : mm_fp RX2 3 0 (.object "java/util/ArrayList") true := ⟨RX2, TX2, 5, tyX2, rfl, tyX2_ok, nmX2, rfl, rfl, fun h => by rfl⟩
theorem mp_X2_3_1 : mm_fp RX2 3 1 (.array .long) true := ⟨RX2, TX2, 5, tyX2, rfl, tyX2_ok, nmX2, rfl, rfl, fun h => by rfl⟩
theorem mp_X2_3_2 : mm_fp RX2 3 2 (.array .long) true := ⟨RX2, TX2, 5, tyX2, rfl, tyX2_ok, nmX2, rfl, rfl, fun h => by rfl⟩
theorem mp_X2_3_3 : mm_fp RX2 3 3 .int false := ⟨RX2, TX2, 5, tyX2, rfl, tyX2_ok, nmX2, rfl, rfl, fun h => by cases h⟩
theorem mp_X2_3_4 : mm_fp RX2 3 4 .int false := ⟨RX2, TX2, 5, tyX2, rfl, tyX2_ok, nmX2, rfl, rfl, fun h => by cases h⟩
theorem mp_X3_4_0 : mm_fp RX3 4 0 (.array .int) true := ⟨RX3, TX3, 6, tyX3, rfl, tyX3_ok, nmX3, rfl, rfl, fun h => by rfl⟩
theorem mp_X3_4_1 : mm_fp RX3 4 1 (.array .int) true := ⟨RX3, TX3, 6, tyX3, rfl, tyX3_ok, nmX3, rfl, rfl, fun h => by rfl⟩
theorem mp_X3_4_2 : mm_fp RX3 4 2 (.array .int) true := ⟨RX3, TX3, 6, tyX3, rfl, tyX3_ok, nmX3, rfl, rfl, fun h => by rfl⟩
theorem mp_X3_4_3 : mm_fp RX3 4 3 .int false := ⟨RX3, TX3, 6, tyX3, rfl, tyX3_ok, nmX3, rfl, rfl, fun h => by cases h⟩
theorem mp_X3_4_4 : mm_fp RX3 4 4 (.array .int) true := ⟨RX3, TX3, 6, tyX3, rfl, tyX3_ok, nmX3, rfl, rfl, fun h => by rfl⟩
theorem mp_X3_4_5 : mm_fp RX3 4 5 .int false := ⟨RX3, TX3, 6, tyX3, rfl, tyX3_ok, nmX3, rfl, rfl, fun h => by cases h⟩
theorem mp_X4_5_0 : mm_fp RX4 5 0 .int true := ⟨RX4, TX4, 6, tyX4, rfl, tyX4_ok, nmX4, rfl, rfl, fun h => by rfl⟩
theorem mp_X4_5_1 : mm_fp RX4 5 1 .int true := ⟨RX4, TX4, 6, tyX4, rfl, tyX4_ok, nmX4, rfl, rfl, fun h => by rfl⟩
theorem mp_X4_5_2 : mm_fp RX4 5 2 .int false := ⟨RX4, TX4, 6, tyX4, rfl, tyX4_ok, nmX4, rfl, rfl, fun h => by cases h⟩
theorem mp_X4_5_3 : mm_fp RX4 5 3 (.array .int) true := ⟨RX4, TX4, 6, tyX4, rfl, tyX4_ok, nmX4, rfl, rfl, fun h => by rfl⟩
theorem mp_X4_5_4 : mm_fp RX4 5 4 (.array .int) true := ⟨RX4, TX4, 6, tyX4, rfl, tyX4_ok, nmX4, rfl, rfl, fun h => by rfl⟩
theorem mp_X4_5_5 : mm_fp RX4 5 5 (.array .int) true := ⟨RX4, TX4, 6, tyX4, rfl, tyX4_ok, nmX4, rfl, rfl, fun h => by rfl⟩
theorem mp_X5_6_0 : mm_fp RX5 6 0 (.array .byte) true := ⟨RX5, TX5, 14, tyX5, rfl, tyX5_ok, nmX5, rfl, rfl, fun h => by rfl⟩
theorem mp_X5_6_1 : mm_fp RX5 6 1 .int false := ⟨RX5, TX5, 14, tyX5, rfl, tyX5_ok, nmX5, rfl, rfl, fun h => by cases h⟩
theorem mp_X5_6_10 : mm_fp RX5 6 10 .int false := ⟨RX5, TX5, 14, tyX5, rfl, tyX5_ok, nmX5, rfl, rfl, fun h => by cases h⟩
theorem mp_X5_6_11 : mm_fp RX5 6 11 (.array .int) true := ⟨RX5, TX5, 14, tyX5, rfl, tyX5_ok, nmX5, rfl, rfl, fun h => by rfl⟩
theorem mp_X5_6_12 : mm_fp RX5 6 12 (.array .int) true := ⟨RX5, TX5, 14, tyX5, rfl, tyX5_ok, nmX5, rfl, rfl, fun h => by rfl⟩
theorem mp_X5_6_13 : mm_fp RX5 6 13 .int false := ⟨RX5, TX5, 14, tyX5, rfl, tyX5_ok, nmX5, rfl, rfl, fun h => by cases h⟩
theorem mp_X5_6_2 : mm_fp RX5 6 2 (.array .int) true := ⟨RX5, TX5, 14, tyX5, rfl, tyX5_ok, nmX5, rfl, rfl, fun h => by rfl⟩
theorem mp_X5_6_3 : mm_fp RX5 6 3 (.array .int) true := ⟨RX5, TX5, 14, tyX5, rfl, tyX5_ok, nmX5, rfl, rfl, fun h => by rfl⟩
theorem mp_X5_6_4 : mm_fp RX5 6 4 (.array .int) true := ⟨RX5, TX5, 14, tyX5, rfl, tyX5_ok, nmX5, rfl, rfl, fun h => by rfl⟩
theorem mp_X5_6_5 : mm_fp RX5 6 5 .int false := ⟨RX5, TX5, 14, tyX5, rfl, tyX5_ok, nmX5, rfl, rfl, fun h => by cases h⟩
theorem mp_X5_6_6 : mm_fp RX5 6 6 .int false := ⟨RX5, TX5, 14, tyX5, rfl, tyX5_ok, nmX5, rfl, rfl, fun h => by cases h⟩
theorem mp_X5_6_7 : mm_fp RX5 6 7 .int false := ⟨RX5, TX5, 14, tyX5, rfl, tyX5_ok, nmX5, rfl, rfl, fun h => by cases h⟩
theorem mp_X5_6_8 : mm_fp RX5 6 8 .int false := ⟨RX5, TX5, 14, tyX5, rfl, tyX5_ok, nmX5, rfl, rfl, fun h => by cases h⟩
theorem mp_X5_6_9 : mm_fp RX5 6 9 (.array .int) true := ⟨RX5, TX5, 14, tyX5, rfl, tyX5_ok, nmX5, rfl, rfl, fun h => by rfl⟩
theorem mp_X6_7_0 : mm_fp RX6 7 0 .int true := ⟨RX6, TX6, 5, tyX6, rfl, tyX6_ok, nmX6, rfl, rfl, fun h => by rfl⟩
theorem mp_X6_7_1 : mm_fp RX6 7 1 .int true := ⟨RX6, TX6, 5, tyX6, rfl, tyX6_ok, nmX6, rfl, rfl, fun h => by rfl⟩
theorem mp_X6_7_2 : mm_fp RX6 7 2 .int true := ⟨RX6, TX6, 5, tyX6, rfl, tyX6_ok, nmX6, rfl, rfl, fun h => by rfl⟩
theorem mp_X6_7_3 : mm_fp RX6 7 3 .int false := ⟨RX6, TX6, 5, tyX6, rfl, tyX6_ok, nmX6, rfl, rfl, fun h => by cases h⟩
theorem mp_X6_7_4 : mm_fp RX6 7 4 .int false := ⟨RX6, TX6, 5, tyX6, rfl, tyX6_ok, nmX6, rfl, rfl, fun h => by cases h⟩
theorem mp_X7_8_0 : mm_fp RX7 8 0 .int true := ⟨RX7, TX7, 7, tyX7, rfl, tyX7_ok, nmX7, rfl, rfl, fun h => by rfl⟩
theorem mp_X7_8_1 : mm_fp RX7 8 1 .boolean true := ⟨RX7, TX7, 7, tyX7, rfl, tyX7_ok, nmX7, rfl, rfl, fun h => by rfl⟩
theorem mp_X7_8_2 : mm_fp RX7 8 2 .int true := ⟨RX7, TX7, 7, tyX7, rfl, tyX7_ok, nmX7, rfl, rfl, fun h => by rfl⟩
theorem mp_X7_8_3 : mm_fp RX7 8 3 .int false := ⟨RX7, TX7, 7, tyX7, rfl, tyX7_ok, nmX7, rfl, rfl, fun h => by cases h⟩
theorem mp_X7_8_4 : mm_fp RX7 8 4 .int false := ⟨RX7, TX7, 7, tyX7, rfl, tyX7_ok, nmX7, rfl, rfl, fun h => by cases h⟩
theorem mp_X8_9_0 : mm_fp RX8 9 0 (.array .int) true := ⟨RX8, TX8, 6, tyX8, rfl, tyX8_ok, nmX8, rfl, rfl, fun h => by rfl⟩
theorem mp_X8_9_1 : mm_fp RX8 9 1 (.array .int) true := ⟨RX8, TX8, 6, tyX8, rfl, tyX8_ok, nmX8, rfl, rfl, fun h => by rfl⟩
theorem mp_X8_9_2 : mm_fp RX8 9 2 (.array .int) true := ⟨RX8, TX8, 6, tyX8, rfl, tyX8_ok, nmX8, rfl, rfl, fun h => by rfl⟩
theorem mp_X8_9_3 : mm_fp RX8 9 3 (.array .int) true := ⟨RX8, TX8, 6, tyX8, rfl, tyX8_ok, nmX8, rfl, rfl, fun h => by rfl⟩
theorem mp_X8_9_4 : mm_fp RX8 9 4 (.array .int) true := ⟨RX8, TX8, 6, tyX8, rfl, tyX8_ok, nmX8, rfl, rfl, fun h => by rfl⟩
theorem mp_X8_9_5 : mm_fp RX8 9 5 .int false := ⟨RX8, TX8, 6, tyX8, rfl, tyX8_ok, nmX8, rfl, rfl, fun h => by cases h⟩
theorem mp_X9_10_0 : mm_fp RX9 10 0 (.array .int) true := ⟨RX9, TX9, 14, tyX9, rfl, tyX9_ok, nmX9, rfl, rfl, fun h => by rfl⟩
theorem mp_X9_10_1 : mm_fp RX9 10 1 (.array .int) true := ⟨RX9, TX9, 14, tyX9, rfl, tyX9_ok, nmX9, rfl, rfl, fun h => by rfl⟩
theorem mp_X9_10_10 : mm_fp RX9 10 10 (.array .int) true := ⟨RX9, TX9, 14, tyX9, rfl, tyX9_ok, nmX9, rfl, rfl, fun h => by rfl⟩
theorem mp_X9_10_11 : mm_fp RX9 10 11 .long false := ⟨RX9, TX9, 14, tyX9, rfl, tyX9_ok, nmX9, rfl, rfl, fun h => by cases h⟩
theorem mp_X9_10_12 : mm_fp RX9 10 12 .long false := ⟨RX9, TX9, 14, tyX9, rfl, tyX9_ok, nmX9, rfl, rfl, fun h => by cases h⟩
theorem mp_X9_10_13 : mm_fp RX9 10 13 .boolean false := ⟨RX9, TX9, 14, tyX9, rfl, tyX9_ok, nmX9, rfl, rfl, fun h => by cases h⟩
theorem mp_X9_10_2 : mm_fp RX9 10 2 .int false := ⟨RX9, TX9, 14, tyX9, rfl, tyX9_ok, nmX9, rfl, rfl, fun h => by cases h⟩
theorem mp_X9_10_3 : mm_fp RX9 10 3 (.array .int) true := ⟨RX9, TX9, 14, tyX9, rfl, tyX9_ok, nmX9, rfl, rfl, fun h => by rfl⟩
theorem mp_X9_10_4 : mm_fp RX9 10 4 (.array .int) true := ⟨RX9, TX9, 14, tyX9, rfl, tyX9_ok, nmX9, rfl, rfl, fun h => by rfl⟩
theorem mp_X9_10_5 : mm_fp RX9 10 5 .int false := ⟨RX9, TX9, 14, tyX9, rfl, tyX9_ok, nmX9, rfl, rfl, fun h => by cases h⟩
theorem mp_X9_10_6 : mm_fp RX9 10 6 (.array .long) true := ⟨RX9, TX9, 14, tyX9, rfl, tyX9_ok, nmX9, rfl, rfl, fun h => by rfl⟩
theorem mp_X9_10_7 : mm_fp RX9 10 7 (.array .long) true := ⟨RX9, TX9, 14, tyX9, rfl, tyX9_ok, nmX9, rfl, rfl, fun h => by rfl⟩
theorem mp_X9_10_8 : mm_fp RX9 10 8 (.array .long) true := ⟨RX9, TX9, 14, tyX9, rfl, tyX9_ok, nmX9, rfl, rfl, fun h => by rfl⟩
theorem mp_X9_10_9 : mm_fp RX9 10 9 (.array .int) true := ⟨RX9, TX9, 14, tyX9, rfl, tyX9_ok, nmX9, rfl, rfl, fun h => by rfl⟩
theorem mp_X10_11_0 : mm_fp RX10 11 0 (.array .int) true := ⟨RX10, TX10, 16, tyX10, rfl, tyX10_ok, nmX10, rfl, rfl, fun h => by rfl⟩
theorem mp_X10_11_1 : mm_fp RX10 11 1 (.array .int) true := ⟨RX10, TX10, 16, tyX10, rfl, tyX10_ok, nmX10, rfl, rfl, fun h => by rfl⟩
theorem mp_X10_11_10 : mm_fp RX10 11 10 .int false := ⟨RX10, TX10, 16, tyX10, rfl, tyX10_ok, nmX10, rfl, rfl, fun h => by cases h⟩
theorem mp_X10_11_11 : mm_fp RX10 11 11 (.array .int) true := ⟨RX10, TX10, 16, tyX10, rfl, tyX10_ok, nmX10, rfl, rfl, fun h => by rfl⟩
theorem mp_X10_11_12 : mm_fp RX10 11 12 (.array .int) true := ⟨RX10, TX10, 16, tyX10, rfl, tyX10_ok, nmX10, rfl, rfl, fun h => by rfl⟩
theorem mp_X10_11_13 : mm_fp RX10 11 13 (.array .int) true := ⟨RX10, TX10, 16, tyX10, rfl, tyX10_ok, nmX10, rfl, rfl, fun h => by rfl⟩
theorem mp_X10_11_14 : mm_fp RX10 11 14 (.array .int) true := ⟨RX10, TX10, 16, tyX10, rfl, tyX10_ok, nmX10, rfl, rfl, fun h => by rfl⟩
theorem mp_X10_11_15 : mm_fp RX10 11 15 .int false := ⟨RX10, TX10, 16, tyX10, rfl, tyX10_ok, nmX10, rfl, rfl, fun h => by cases h⟩
theorem mp_X10_11_2 : mm_fp RX10 11 2 (.array .int) true := ⟨RX10, TX10, 16, tyX10, rfl, tyX10_ok, nmX10, rfl, rfl, fun h => by rfl⟩
theorem mp_X10_11_3 : mm_fp RX10 11 3 (.array .int) true := ⟨RX10, TX10, 16, tyX10, rfl, tyX10_ok, nmX10, rfl, rfl, fun h => by rfl⟩
theorem mp_X10_11_4 : mm_fp RX10 11 4 .int false := ⟨RX10, TX10, 16, tyX10, rfl, tyX10_ok, nmX10, rfl, rfl, fun h => by cases h⟩
theorem mp_X10_11_5 : mm_fp RX10 11 5 (.array .int) true := ⟨RX10, TX10, 16, tyX10, rfl, tyX10_ok, nmX10, rfl, rfl, fun h => by rfl⟩
theorem mp_X10_11_6 : mm_fp RX10 11 6 (.array .int) true := ⟨RX10, TX10, 16, tyX10, rfl, tyX10_ok, nmX10, rfl, rfl, fun h => by rfl⟩
theorem mp_X10_11_7 : mm_fp RX10 11 7 (.array .int) true := ⟨RX10, TX10, 16, tyX10, rfl, tyX10_ok, nmX10, rfl, rfl, fun h => by rfl⟩
theorem mp_X10_11_8 : mm_fp RX10 11 8 (.array .int) true := ⟨RX10, TX10, 16, tyX10, rfl, tyX10_ok, nmX10, rfl, rfl, fun h => by rfl⟩
theorem mp_X10_11_9 : mm_fp RX10 11 9 (.array .int) true := ⟨RX10, TX10, 16, tyX10, rfl, tyX10_ok, nmX10, rfl, rfl, fun h => by rfl⟩
theorem mp_X11_1_6 : mm_fp RX11 1 6 .int false := ⟨RX0, TX0, 13, tyX0, rfl, tyX0_ok, nmX0, rfl, rfl, fun h => by cases h⟩
theorem mp_X11_1_7 : mm_fp RX11 1 7 .int false := ⟨RX0, TX0, 13, tyX0, rfl, tyX0_ok, nmX0, rfl, rfl, fun h => by cases h⟩
theorem mp_X11_12_0 : mm_fp RX11 12 0 (.object "java/util/ArrayList") true := ⟨RX11, TX11, 15, tyX11, rfl, tyX11_ok, nmX11, rfl, rfl, fun h => by rfl⟩
theorem mp_X11_12_1 : mm_fp RX11 12 1 (.object "java/util/ArrayList") true := ⟨RX11, TX11, 15, tyX11, rfl, tyX11_ok, nmX11, rfl, rfl, fun h => by rfl⟩
theorem mp_X11_12_10 : mm_fp RX11 12 10 (.object "MerchantYard$Books") true := ⟨RX11, TX11, 15, tyX11, rfl, tyX11_ok, nmX11, rfl, rfl, fun h => by rfl⟩
theorem mp_X11_12_11 : mm_fp RX11 12 11 .int false := ⟨RX11, TX11, 15, tyX11, rfl, tyX11_ok, nmX11, rfl, rfl, fun h => by cases h⟩
theorem mp_X11_12_12 : mm_fp RX11 12 12 .long false := ⟨RX11, TX11, 15, tyX11, rfl, tyX11_ok, nmX11, rfl, rfl, fun h => by cases h⟩
theorem mp_X11_12_13 : mm_fp RX11 12 13 (.array .int) false := ⟨RX11, TX11, 15, tyX11, rfl, tyX11_ok, nmX11, rfl, rfl, fun h => by cases h⟩
theorem mp_X11_12_14 : mm_fp RX11 12 14 .int false := ⟨RX11, TX11, 15, tyX11, rfl, tyX11_ok, nmX11, rfl, rfl, fun h => by cases h⟩
theorem mp_X11_12_2 : mm_fp RX11 12 2 (.object "java/util/ArrayList") true := ⟨RX11, TX11, 15, tyX11, rfl, tyX11_ok, nmX11, rfl, rfl, fun h => by rfl⟩
theorem mp_X11_12_3 : mm_fp RX11 12 3 (.array .int) true := ⟨RX11, TX11, 15, tyX11, rfl, tyX11_ok, nmX11, rfl, rfl, fun h => by rfl⟩
theorem mp_X11_12_4 : mm_fp RX11 12 4 (.object "MerchantYard$LawReader") true := ⟨RX11, TX11, 15, tyX11, rfl, tyX11_ok, nmX11, rfl, rfl, fun h => by rfl⟩
theorem mp_X11_12_5 : mm_fp RX11 12 5 (.object "MerchantYard$Court") true := ⟨RX11, TX11, 15, tyX11, rfl, tyX11_ok, nmX11, rfl, rfl, fun h => by rfl⟩
theorem mp_X11_12_6 : mm_fp RX11 12 6 (.object "MerchantYard$Measures") true := ⟨RX11, TX11, 15, tyX11, rfl, tyX11_ok, nmX11, rfl, rfl, fun h => by rfl⟩
theorem mp_X11_12_7 : mm_fp RX11 12 7 (.object "MerchantYard$Sea") true := ⟨RX11, TX11, 15, tyX11, rfl, tyX11_ok, nmX11, rfl, rfl, fun h => by rfl⟩
theorem mp_X11_12_8 : mm_fp RX11 12 8 (.object "MerchantYard$Planner") true := ⟨RX11, TX11, 15, tyX11, rfl, tyX11_ok, nmX11, rfl, rfl, fun h => by rfl⟩
theorem mp_X11_12_9 : mm_fp RX11 12 9 (.object "MerchantYard$Crowd") true := ⟨RX11, TX11, 15, tyX11, rfl, tyX11_ok, nmX11, rfl, rfl, fun h => by rfl⟩
theorem mp_X11_5_2 : mm_fp RX11 5 2 .int false := ⟨RX4, TX4, 6, tyX4, rfl, tyX4_ok, nmX4, rfl, rfl, fun h => by cases h⟩
theorem mp_X11_6_1 : mm_fp RX11 6 1 .int false := ⟨RX5, TX5, 14, tyX5, rfl, tyX5_ok, nmX5, rfl, rfl, fun h => by cases h⟩
theorem mp_X11_7_3 : mm_fp RX11 7 3 .int false := ⟨RX6, TX6, 5, tyX6, rfl, tyX6_ok, nmX6, rfl, rfl, fun h => by cases h⟩
theorem mp_X11_7_4 : mm_fp RX11 7 4 .int false := ⟨RX6, TX6, 5, tyX6, rfl, tyX6_ok, nmX6, rfl, rfl, fun h => by cases h⟩
theorem mp_X11_8_4 : mm_fp RX11 8 4 .int false := ⟨RX7, TX7, 7, tyX7, rfl, tyX7_ok, nmX7, rfl, rfl, fun h => by cases h⟩
theorem mp_X11_8_5 : mm_fp RX11 8 5 .int false := ⟨RX7, TX7, 7, tyX7, rfl, tyX7_ok, nmX7, rfl, rfl, fun h => by cases h⟩
theorem mp_X11_8_6 : mm_fp RX11 8 6 .int false := ⟨RX7, TX7, 7, tyX7, rfl, tyX7_ok, nmX7, rfl, rfl, fun h => by cases h⟩
theorem mp_X12_13_1 : mm_fp RX12 13 1 .int false := ⟨RX12, TX12, 117, tyX12, rfl, tyX12_ok, nmX12, rfl, rfl, fun h => by cases h⟩
theorem mp_X12_13_10 : mm_fp RX12 13 10 .int false := ⟨RX12, TX12, 117, tyX12, rfl, tyX12_ok, nmX12, rfl, rfl, fun h => by cases h⟩
theorem mp_X12_13_100 : mm_fp RX12 13 100 (.array .long) true := ⟨RX12, TX12, 117, tyX12, rfl, tyX12_ok, nmX12, rfl, rfl, fun h => by rfl⟩
theorem mp_X12_13_101 : mm_fp RX12 13 101 (.array .long) true := ⟨RX12, TX12, 117, tyX12, rfl, tyX12_ok, nmX12, rfl, rfl, fun h => by rfl⟩
theorem mp_X12_13_102 : mm_fp RX12 13 102 .int false := ⟨RX12, TX12, 117, tyX12, rfl, tyX12_ok, nmX12, rfl, rfl, fun h => by cases h⟩
theorem mp_X12_13_103 : mm_fp RX12 13 103 .int false := ⟨RX12, TX12, 117, tyX12, rfl, tyX12_ok, nmX12, rfl, rfl, fun h => by cases h⟩
theorem mp_X12_13_104 : mm_fp RX12 13 104 (.array .int) true := ⟨RX12, TX12, 117, tyX12, rfl, tyX12_ok, nmX12, rfl, rfl, fun h => by rfl⟩
theorem mp_X12_13_105 : mm_fp RX12 13 105 (.array .int) true := ⟨RX12, TX12, 117, tyX12, rfl, tyX12_ok, nmX12, rfl, rfl, fun h => by rfl⟩
theorem mp_X12_13_106 : mm_fp RX12 13 106 (.array .int) true := ⟨RX12, TX12, 117, tyX12, rfl, tyX12_ok, nmX12, rfl, rfl, fun h => by rfl⟩
theorem mp_X12_13_107 : mm_fp RX12 13 107 (.array .int) true := ⟨RX12, TX12, 117, tyX12, rfl, tyX12_ok, nmX12, rfl, rfl, fun h => by rfl⟩
theorem mp_X12_13_108 : mm_fp RX12 13 108 .boolean false := ⟨RX12, TX12, 117, tyX12, rfl, tyX12_ok, nmX12, rfl, rfl, fun h => by cases h⟩
theorem mp_X12_13_109 : mm_fp RX12 13 109 (.array .int) true := ⟨RX12, TX12, 117, tyX12, rfl, tyX12_ok, nmX12, rfl, rfl, fun h => by rfl⟩
theorem mp_X12_13_11 : mm_fp RX12 13 11 (.array .int) true := ⟨RX12, TX12, 117, tyX12, rfl, tyX12_ok, nmX12, rfl, rfl, fun h => by rfl⟩
theorem mp_X12_13_110 : mm_fp RX12 13 110 (.array .int) true := ⟨RX12, TX12, 117, tyX12, rfl, tyX12_ok, nmX12, rfl, rfl, fun h => by rfl⟩
theorem mp_X12_13_111 : mm_fp RX12 13 111 (.array .int) true := ⟨RX12, TX12, 117, tyX12, rfl, tyX12_ok, nmX12, rfl, rfl, fun h => by rfl⟩
theorem mp_X12_13_112 : mm_fp RX12 13 112 (.array .int) true := ⟨RX12, TX12, 117, tyX12, rfl, tyX12_ok, nmX12, rfl, rfl, fun h => by rfl⟩
theorem mp_X12_13_113 : mm_fp RX12 13 113 (.array .int) true := ⟨RX12, TX12, 117, tyX12, rfl, tyX12_ok, nmX12, rfl, rfl, fun h => by rfl⟩
theorem mp_X12_13_114 : mm_fp RX12 13 114 .int false := ⟨RX12, TX12, 117, tyX12, rfl, tyX12_ok, nmX12, rfl, rfl, fun h => by cases h⟩
theorem mp_X12_13_115 : mm_fp RX12 13 115 .int false := ⟨RX12, TX12, 117, tyX12, rfl, tyX12_ok, nmX12, rfl, rfl, fun h => by cases h⟩
theorem mp_X12_13_116 : mm_fp RX12 13 116 (.array .long) true := ⟨RX12, TX12, 117, tyX12, rfl, tyX12_ok, nmX12, rfl, rfl, fun h => by rfl⟩
theorem mp_X12_13_12 : mm_fp RX12 13 12 (.array .int) true := ⟨RX12, TX12, 117, tyX12, rfl, tyX12_ok, nmX12, rfl, rfl, fun h => by rfl⟩
theorem mp_X12_13_13 : mm_fp RX12 13 13 (.array .int) true := ⟨RX12, TX12, 117, tyX12, rfl, tyX12_ok, nmX12, rfl, rfl, fun h => by rfl⟩
theorem mp_X12_13_14 : mm_fp RX12 13 14 (.array .int) true := ⟨RX12, TX12, 117, tyX12, rfl, tyX12_ok, nmX12, rfl, rfl, fun h => by rfl⟩
theorem mp_X12_13_15 : mm_fp RX12 13 15 (.array .int) true := ⟨RX12, TX12, 117, tyX12, rfl, tyX12_ok, nmX12, rfl, rfl, fun h => by rfl⟩
theorem mp_X12_13_16 : mm_fp RX12 13 16 (.array .byte) true := ⟨RX12, TX12, 117, tyX12, rfl, tyX12_ok, nmX12, rfl, rfl, fun h => by rfl⟩
theorem mp_X12_13_17 : mm_fp RX12 13 17 .int false := ⟨RX12, TX12, 117, tyX12, rfl, tyX12_ok, nmX12, rfl, rfl, fun h => by cases h⟩
theorem mp_X12_13_18 : mm_fp RX12 13 18 .int false := ⟨RX12, TX12, 117, tyX12, rfl, tyX12_ok, nmX12, rfl, rfl, fun h => by cases h⟩
theorem mp_X12_13_19 : mm_fp RX12 13 19 .int false := ⟨RX12, TX12, 117, tyX12, rfl, tyX12_ok, nmX12, rfl, rfl, fun h => by cases h⟩
theorem mp_X12_13_2 : mm_fp RX12 13 2 .int false := ⟨RX12, TX12, 117, tyX12, rfl, tyX12_ok, nmX12, rfl, rfl, fun h => by cases h⟩
theorem mp_X12_13_20 : mm_fp RX12 13 20 .int false := ⟨RX12, TX12, 117, tyX12, rfl, tyX12_ok, nmX12, rfl, rfl, fun h => by cases h⟩
theorem mp_X12_13_21 : mm_fp RX12 13 21 .int false := ⟨RX12, TX12, 117, tyX12, rfl, tyX12_ok, nmX12, rfl, rfl, fun h => by cases h⟩
theorem mp_X12_13_22 : mm_fp RX12 13 22 .int false := ⟨RX12, TX12, 117, tyX12, rfl, tyX12_ok, nmX12, rfl, rfl, fun h => by cases h⟩
theorem mp_X12_13_23 : mm_fp RX12 13 23 .int false := ⟨RX12, TX12, 117, tyX12, rfl, tyX12_ok, nmX12, rfl, rfl, fun h => by cases h⟩
theorem mp_X12_13_24 : mm_fp RX12 13 24 (.array .int) true := ⟨RX12, TX12, 117, tyX12, rfl, tyX12_ok, nmX12, rfl, rfl, fun h => by rfl⟩
theorem mp_X12_13_25 : mm_fp RX12 13 25 (.array .int) true := ⟨RX12, TX12, 117, tyX12, rfl, tyX12_ok, nmX12, rfl, rfl, fun h => by rfl⟩
theorem mp_X12_13_26 : mm_fp RX12 13 26 (.array .int) true := ⟨RX12, TX12, 117, tyX12, rfl, tyX12_ok, nmX12, rfl, rfl, fun h => by rfl⟩
theorem mp_X12_13_27 : mm_fp RX12 13 27 (.array .int) true := ⟨RX12, TX12, 117, tyX12, rfl, tyX12_ok, nmX12, rfl, rfl, fun h => by rfl⟩
theorem mp_X12_13_28 : mm_fp RX12 13 28 (.array .int) true := ⟨RX12, TX12, 117, tyX12, rfl, tyX12_ok, nmX12, rfl, rfl, fun h => by rfl⟩
theorem mp_X12_13_29 : mm_fp RX12 13 29 (.array .int) true := ⟨RX12, TX12, 117, tyX12, rfl, tyX12_ok, nmX12, rfl, rfl, fun h => by rfl⟩
theorem mp_X12_13_3 : mm_fp RX12 13 3 (.array .int) true := ⟨RX12, TX12, 117, tyX12, rfl, tyX12_ok, nmX12, rfl, rfl, fun h => by rfl⟩
