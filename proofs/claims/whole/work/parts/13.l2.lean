theorem mp_X12_13_30 : mm_fp RX12 13 30 (.array .int) true := ⟨RX12, TX12, 117, tyX12, rfl, tyX12_ok, nmX12, rfl, rfl, fun h => by rfl⟩
theorem mp_X12_13_31 : mm_fp RX12 13 31 (.array .int) true := ⟨RX12, TX12, 117, tyX12, rfl, tyX12_ok, nmX12, rfl, rfl, fun h => by rfl⟩
theorem mp_X12_13_32 : mm_fp RX12 13 32 (.array .int) true := ⟨RX12, TX12, 117, tyX12, rfl, tyX12_ok, nmX12, rfl, rfl, fun h => by rfl⟩
theorem mp_X12_13_33 : mm_fp RX12 13 33 .int false := ⟨RX12, TX12, 117, tyX12, rfl, tyX12_ok, nmX12, rfl, rfl, fun h => by cases h⟩
theorem mp_X12_13_34 : mm_fp RX12 13 34 .int false := ⟨RX12, TX12, 117, tyX12, rfl, tyX12_ok, nmX12, rfl, rfl, fun h => by cases h⟩
theorem mp_X12_13_35 : mm_fp RX12 13 35 (.array .int) true := ⟨RX12, TX12, 117, tyX12, rfl, tyX12_ok, nmX12, rfl, rfl, fun h => by rfl⟩
theorem mp_X12_13_36 : mm_fp RX12 13 36 (.array .long) true := ⟨RX12, TX12, 117, tyX12, rfl, tyX12_ok, nmX12, rfl, rfl, fun h => by rfl⟩
theorem mp_X12_13_37 : mm_fp RX12 13 37 (.array .long) true := ⟨RX12, TX12, 117, tyX12, rfl, tyX12_ok, nmX12, rfl, rfl, fun h => by rfl⟩
theorem mp_X12_13_38 : mm_fp RX12 13 38 .int false := ⟨RX12, TX12, 117, tyX12, rfl, tyX12_ok, nmX12, rfl, rfl, fun h => by cases h⟩
theorem mp_X12_13_39 : mm_fp RX12 13 39 (.array .int) true := ⟨RX12, TX12, 117, tyX12, rfl, tyX12_ok, nmX12, rfl, rfl, fun h => by rfl⟩
theorem mp_X12_13_4 : mm_fp RX12 13 4 (.array .int) true := ⟨RX12, TX12, 117, tyX12, rfl, tyX12_ok, nmX12, rfl, rfl, fun h => by rfl⟩
theorem mp_X12_13_40 : mm_fp RX12 13 40 (.array .int) true := ⟨RX12, TX12, 117, tyX12, rfl, tyX12_ok, nmX12, rfl, rfl, fun h => by rfl⟩
theorem mp_X12_13_41 : mm_fp RX12 13 41 (.array .int) true := ⟨RX12, TX12, 117, tyX12, rfl, tyX12_ok, nmX12, rfl, rfl, fun h => by rfl⟩
theorem mp_X12_13_42 : mm_fp RX12 13 42 (.array .int) true := ⟨RX12, TX12, 117, tyX12, rfl, tyX12_ok, nmX12, rfl, rfl, fun h => by rfl⟩
theorem mp_X12_13_43 : mm_fp RX12 13 43 .int false := ⟨RX12, TX12, 117, tyX12, rfl, tyX12_ok, nmX12, rfl, rfl, fun h => by cases h⟩
theorem mp_X12_13_44 : mm_fp RX12 13 44 (.array .int) true := ⟨RX12, TX12, 117, tyX12, rfl, tyX12_ok, nmX12, rfl, rfl, fun h => by rfl⟩
theorem mp_X12_13_45 : mm_fp RX12 13 45 (.array .int) true := ⟨RX12, TX12, 117, tyX12, rfl, tyX12_ok, nmX12, rfl, rfl, fun h => by rfl⟩
theorem mp_X12_13_46 : mm_fp RX12 13 46 (.array .int) true := ⟨RX12, TX12, 117, tyX12, rfl, tyX12_ok, nmX12, rfl, rfl, fun h => by rfl⟩
theorem mp_X12_13_47 : mm_fp RX12 13 47 (.array .int) true := ⟨RX12, TX12, 117, tyX12, rfl, tyX12_ok, nmX12, rfl, rfl, fun h => by rfl⟩
theorem mp_X12_13_48 : mm_fp RX12 13 48 (.array .int) true := ⟨RX12, TX12, 117, tyX12, rfl, tyX12_ok, nmX12, rfl, rfl, fun h => by rfl⟩
theorem mp_X12_13_49 : mm_fp RX12 13 49 (.array .int) true := ⟨RX12, TX12, 117, tyX12, rfl, tyX12_ok, nmX12, rfl, rfl, fun h => by rfl⟩
theorem mp_X12_13_5 : mm_fp RX12 13 5 (.array .int) true := ⟨RX12, TX12, 117, tyX12, rfl, tyX12_ok, nmX12, rfl, rfl, fun h => by rfl⟩
theorem mp_X12_13_50 : mm_fp RX12 13 50 (.array .int) true := ⟨RX12, TX12, 117, tyX12, rfl, tyX12_ok, nmX12, rfl, rfl, fun h => by rfl⟩
theorem mp_X12_13_51 : mm_fp RX12 13 51 (.array .int) true := ⟨RX12, TX12, 117, tyX12, rfl, tyX12_ok, nmX12, rfl, rfl, fun h => by rfl⟩
theorem mp_X12_13_52 : mm_fp RX12 13 52 (.array .int) true := ⟨RX12, TX12, 117, tyX12, rfl, tyX12_ok, nmX12, rfl, rfl, fun h => by rfl⟩
theorem mp_X12_13_53 : mm_fp RX12 13 53 (.array .int) true := ⟨RX12, TX12, 117, tyX12, rfl, tyX12_ok, nmX12, rfl, rfl, fun h => by rfl⟩
theorem mp_X12_13_54 : mm_fp RX12 13 54 (.array .int) true := ⟨RX12, TX12, 117, tyX12, rfl, tyX12_ok, nmX12, rfl, rfl, fun h => by rfl⟩
theorem mp_X12_13_55 : mm_fp RX12 13 55 (.array .int) true := ⟨RX12, TX12, 117, tyX12, rfl, tyX12_ok, nmX12, rfl, rfl, fun h => by rfl⟩
theorem mp_X12_13_56 : mm_fp RX12 13 56 (.array .int) true := ⟨RX12, TX12, 117, tyX12, rfl, tyX12_ok, nmX12, rfl, rfl, fun h => by rfl⟩
theorem mp_X12_13_57 : mm_fp RX12 13 57 (.array .int) true := ⟨RX12, TX12, 117, tyX12, rfl, tyX12_ok, nmX12, rfl, rfl, fun h => by rfl⟩
theorem mp_X12_13_58 : mm_fp RX12 13 58 (.array .int) true := ⟨RX12, TX12, 117, tyX12, rfl, tyX12_ok, nmX12, rfl, rfl, fun h => by rfl⟩
theorem mp_X12_13_59 : mm_fp RX12 13 59 .int false := ⟨RX12, TX12, 117, tyX12, rfl, tyX12_ok, nmX12, rfl, rfl, fun h => by cases h⟩
theorem mp_X12_13_6 : mm_fp RX12 13 6 (.array .int) true := ⟨RX12, TX12, 117, tyX12, rfl, tyX12_ok, nmX12, rfl, rfl, fun h => by rfl⟩
theorem mp_X12_13_60 : mm_fp RX12 13 60 .int false := ⟨RX12, TX12, 117, tyX12, rfl, tyX12_ok, nmX12, rfl, rfl, fun h => by cases h⟩
theorem mp_X12_13_61 : mm_fp RX12 13 61 .int false := ⟨RX12, TX12, 117, tyX12, rfl, tyX12_ok, nmX12, rfl, rfl, fun h => by cases h⟩
theorem mp_X12_13_62 : mm_fp RX12 13 62 (.array .int) true := ⟨RX12, TX12, 117, tyX12, rfl, tyX12_ok, nmX12, rfl, rfl, fun h => by rfl⟩
theorem mp_X12_13_63 : mm_fp RX12 13 63 (.array .int) true := ⟨RX12, TX12, 117, tyX12, rfl, tyX12_ok, nmX12, rfl, rfl, fun h => by rfl⟩
theorem mp_X12_13_64 : mm_fp RX12 13 64 (.array .int) true := ⟨RX12, TX12, 117, tyX12, rfl, tyX12_ok, nmX12, rfl, rfl, fun h => by rfl⟩
theorem mp_X12_13_65 : mm_fp RX12 13 65 (.array .int) true := ⟨RX12, TX12, 117, tyX12, rfl, tyX12_ok, nmX12, rfl, rfl, fun h => by rfl⟩
theorem mp_X12_13_66 : mm_fp RX12 13 66 (.array .int) true := ⟨RX12, TX12, 117, tyX12, rfl, tyX12_ok, nmX12, rfl, rfl, fun h => by rfl⟩
theorem mp_X12_13_67 : mm_fp RX12 13 67 .long false := ⟨RX12, TX12, 117, tyX12, rfl, tyX12_ok, nmX12, rfl, rfl, fun h => by cases h⟩
theorem mp_X12_13_68 : mm_fp RX12 13 68 .long false := ⟨RX12, TX12, 117, tyX12, rfl, tyX12_ok, nmX12, rfl, rfl, fun h => by cases h⟩
theorem mp_X12_13_69 : mm_fp RX12 13 69 .long false := ⟨RX12, TX12, 117, tyX12, rfl, tyX12_ok, nmX12, rfl, rfl, fun h => by cases h⟩
theorem mp_X12_13_7 : mm_fp RX12 13 7 (.array .int) true := ⟨RX12, TX12, 117, tyX12, rfl, tyX12_ok, nmX12, rfl, rfl, fun h => by rfl⟩
theorem mp_X12_13_70 : mm_fp RX12 13 70 .long false := ⟨RX12, TX12, 117, tyX12, rfl, tyX12_ok, nmX12, rfl, rfl, fun h => by cases h⟩
theorem mp_X12_13_71 : mm_fp RX12 13 71 .int false := ⟨RX12, TX12, 117, tyX12, rfl, tyX12_ok, nmX12, rfl, rfl, fun h => by cases h⟩
theorem mp_X12_13_72 : mm_fp RX12 13 72 .int false := ⟨RX12, TX12, 117, tyX12, rfl, tyX12_ok, nmX12, rfl, rfl, fun h => by cases h⟩
theorem mp_X12_13_73 : mm_fp RX12 13 73 .int false := ⟨RX12, TX12, 117, tyX12, rfl, tyX12_ok, nmX12, rfl, rfl, fun h => by cases h⟩
theorem mp_X12_13_74 : mm_fp RX12 13 74 .int false := ⟨RX12, TX12, 117, tyX12, rfl, tyX12_ok, nmX12, rfl, rfl, fun h => by cases h⟩
theorem mp_X12_13_75 : mm_fp RX12 13 75 (.array .int) true := ⟨RX12, TX12, 117, tyX12, rfl, tyX12_ok, nmX12, rfl, rfl, fun h => by rfl⟩
theorem mp_X12_13_76 : mm_fp RX12 13 76 .int false := ⟨RX12, TX12, 117, tyX12, rfl, tyX12_ok, nmX12, rfl, rfl, fun h => by cases h⟩
theorem mp_X12_13_77 : mm_fp RX12 13 77 .int false := ⟨RX12, TX12, 117, tyX12, rfl, tyX12_ok, nmX12, rfl, rfl, fun h => by cases h⟩
theorem mp_X12_13_78 : mm_fp RX12 13 78 (.array .int) true := ⟨RX12, TX12, 117, tyX12, rfl, tyX12_ok, nmX12, rfl, rfl, fun h => by rfl⟩
theorem mp_X12_13_79 : mm_fp RX12 13 79 (.array .int) true := ⟨RX12, TX12, 117, tyX12, rfl, tyX12_ok, nmX12, rfl, rfl, fun h => by rfl⟩
theorem mp_X12_13_8 : mm_fp RX12 13 8 (.array .int) true := ⟨RX12, TX12, 117, tyX12, rfl, tyX12_ok, nmX12, rfl, rfl, fun h => by rfl⟩
theorem mp_X12_13_80 : mm_fp RX12 13 80 (.array .int) true := ⟨RX12, TX12, 117, tyX12, rfl, tyX12_ok, nmX12, rfl, rfl, fun h => by rfl⟩
theorem mp_X12_13_81 : mm_fp RX12 13 81 (.array .int) true := ⟨RX12, TX12, 117, tyX12, rfl, tyX12_ok, nmX12, rfl, rfl, fun h => by rfl⟩
theorem mp_X12_13_82 : mm_fp RX12 13 82 (.array .int) true := ⟨RX12, TX12, 117, tyX12, rfl, tyX12_ok, nmX12, rfl, rfl, fun h => by rfl⟩
theorem mp_X12_13_83 : mm_fp RX12 13 83 (.array .int) true := ⟨RX12, TX12, 117, tyX12, rfl, tyX12_ok, nmX12, rfl, rfl, fun h => by rfl⟩
theorem mp_X12_13_84 : mm_fp RX12 13 84 (.array .int) true := ⟨RX12, TX12, 117, tyX12, rfl, tyX12_ok, nmX12, rfl, rfl, fun h => by rfl⟩
theorem mp_X12_13_85 : mm_fp RX12 13 85 (.array .int) true := ⟨RX12, TX12, 117, tyX12, rfl, tyX12_ok, nmX12, rfl, rfl, fun h => by rfl⟩
theorem mp_X12_13_86 : mm_fp RX12 13 86 (.array .int) true := ⟨RX12, TX12, 117, tyX12, rfl, tyX12_ok, nmX12, rfl, rfl, fun h => by rfl⟩
theorem mp_X12_13_87 : mm_fp RX12 13 87 (.array .boolean) true := ⟨RX12, TX12, 117, tyX12, rfl, tyX12_ok, nmX12, rfl, rfl, fun h => by rfl⟩
theorem mp_X12_13_88 : mm_fp RX12 13 88 .boolean false := ⟨RX12, TX12, 117, tyX12, rfl, tyX12_ok, nmX12, rfl, rfl, fun h => by cases h⟩
theorem mp_X12_13_89 : mm_fp RX12 13 89 .int false := ⟨RX12, TX12, 117, tyX12, rfl, tyX12_ok, nmX12, rfl, rfl, fun h => by cases h⟩
theorem mp_X12_13_9 : mm_fp RX12 13 9 (.array .boolean) true := ⟨RX12, TX12, 117, tyX12, rfl, tyX12_ok, nmX12, rfl, rfl, fun h => by rfl⟩
theorem mp_X12_13_90 : mm_fp RX12 13 90 .int false := ⟨RX12, TX12, 117, tyX12, rfl, tyX12_ok, nmX12, rfl, rfl, fun h => by cases h⟩
theorem mp_X12_13_91 : mm_fp RX12 13 91 .long false := ⟨RX12, TX12, 117, tyX12, rfl, tyX12_ok, nmX12, rfl, rfl, fun h => by cases h⟩
theorem mp_X12_13_92 : mm_fp RX12 13 92 (.array .int) true := ⟨RX12, TX12, 117, tyX12, rfl, tyX12_ok, nmX12, rfl, rfl, fun h => by rfl⟩
theorem mp_X12_13_93 : mm_fp RX12 13 93 (.array .int) true := ⟨RX12, TX12, 117, tyX12, rfl, tyX12_ok, nmX12, rfl, rfl, fun h => by rfl⟩
theorem mp_X12_13_94 : mm_fp RX12 13 94 (.array .int) true := ⟨RX12, TX12, 117, tyX12, rfl, tyX12_ok, nmX12, rfl, rfl, fun h => by rfl⟩
theorem mp_X12_13_95 : mm_fp RX12 13 95 (.array .int) true := ⟨RX12, TX12, 117, tyX12, rfl, tyX12_ok, nmX12, rfl, rfl, fun h => by rfl⟩
theorem mp_X12_13_96 : mm_fp RX12 13 96 (.array .int) true := ⟨RX12, TX12, 117, tyX12, rfl, tyX12_ok, nmX12, rfl, rfl, fun h => by rfl⟩
theorem mp_X12_13_97 : mm_fp RX12 13 97 (.array .boolean) true := ⟨RX12, TX12, 117, tyX12, rfl, tyX12_ok, nmX12, rfl, rfl, fun h => by rfl⟩
theorem mp_X12_13_98 : mm_fp RX12 13 98 (.array .boolean) true := ⟨RX12, TX12, 117, tyX12, rfl, tyX12_ok, nmX12, rfl, rfl, fun h => by rfl⟩
theorem mp_X12_13_99 : mm_fp RX12 13 99 (.array .long) true := ⟨RX12, TX12, 117, tyX12, rfl, tyX12_ok, nmX12, rfl, rfl, fun h => by rfl⟩
theorem mp_Jxc12de_0_0 : mm_fp RJxc12de 0 0 .int false := ⟨RJx4a65c, TJx4a65c, 3, tyJx4a65c, rfl, tyJx4a65c_ok, nmJx4a65c, rfl, rfl, fun h => by cases h⟩
theorem mp_Jx4a65c_0_0 : mm_fp RJx4a65c 0 0 .int false := ⟨RJx4a65c, TJx4a65c, 3, tyJx4a65c, rfl, tyJx4a65c_ok, nmJx4a65c, rfl, rfl, fun h => by cases h⟩
theorem mp_Jx4a65c_0_1 : mm_fp RJx4a65c 0 1 (.array (.object "java/lang/Object")) false := ⟨RJx4a65c, TJx4a65c, 3, tyJx4a65c, rfl, tyJx4a65c_ok, nmJx4a65c, rfl, rfl, fun h => by cases h⟩
theorem mp_Jx4a65c_0_2 : mm_fp RJx4a65c 0 2 .int false := ⟨RJx4a65c, TJx4a65c, 3, tyJx4a65c, rfl, tyJx4a65c_ok, nmJx4a65c, rfl, rfl, fun h => by cases h⟩
theorem mg_J7_86 : mm_gcw RJ7 86 := ⟨(mm_in3 1 (by decide +kernel) (by decide +kernel)), (mm_in9 232 (by decide +kernel) (by decide +kernel)), (mm_in3 2 (by decide +kernel) (by decide +kernel)), (mm_in3 18 (by decide +kernel) (by decide +kernel))⟩
theorem mi_Jx4a65c_init_da8c8 : Cond.instanceMethod yJx4a65c_init_da8c8 ∈ mm_tb ∧ yJx4a65c_init_da8c8.name = "<init>" := ⟨(mm_in1 38 (by decide +kernel) (by decide +kernel)), rfl⟩
theorem mi_Jxa1e45_init_da8c8 : Cond.instanceMethod yJxa1e45_init_da8c8 ∈ mm_tb ∧ yJxa1e45_init_da8c8.name = "<init>" := ⟨(mm_in1 44 (by decide +kernel) (by decide +kernel)), rfl⟩
theorem mi_Jxc12de_init_da8c8 : Cond.instanceMethod yJxc12de_init_da8c8 ∈ mm_tb ∧ yJxc12de_init_da8c8.name = "<init>" := ⟨(mm_in1 41 (by decide +kernel) (by decide +kernel)), rfl⟩
theorem mi_X0_init : Cond.instanceMethod yX0_init ∈ mm_tb ∧ yX0_init.name = "<init>" := ⟨(mm_in4 220 (by decide +kernel) (by decide +kernel)), rfl⟩
theorem mi_X10_init : Cond.instanceMethod yX10_init ∈ mm_tb ∧ yX10_init.name = "<init>" := ⟨(mm_in1 171 (by decide +kernel) (by decide +kernel)), rfl⟩
theorem mi_X1_init : Cond.instanceMethod yX1_init ∈ mm_tb ∧ yX1_init.name = "<init>" := ⟨(mm_in2 76 (by decide +kernel) (by decide +kernel)), rfl⟩
theorem mi_X2_init : Cond.instanceMethod yX2_init ∈ mm_tb ∧ yX2_init.name = "<init>" := ⟨(mm_in1 116 (by decide +kernel) (by decide +kernel)), rfl⟩
theorem mi_X3_init : Cond.instanceMethod yX3_init ∈ mm_tb ∧ yX3_init.name = "<init>" := ⟨(mm_in2 48 (by decide +kernel) (by decide +kernel)), rfl⟩
theorem mi_X4_init : Cond.instanceMethod yX4_init ∈ mm_tb ∧ yX4_init.name = "<init>" := ⟨(mm_in4 76 (by decide +kernel) (by decide +kernel)), rfl⟩
theorem mi_X5_init : Cond.instanceMethod yX5_init ∈ mm_tb ∧ yX5_init.name = "<init>" := ⟨(mm_in1 64 (by decide +kernel) (by decide +kernel)), rfl⟩
theorem mi_X6_init : Cond.instanceMethod yX6_init ∈ mm_tb ∧ yX6_init.name = "<init>" := ⟨(mm_in3 127 (by decide +kernel) (by decide +kernel)), rfl⟩
theorem mi_X7_init : Cond.instanceMethod yX7_init ∈ mm_tb ∧ yX7_init.name = "<init>" := ⟨(mm_in2 182 (by decide +kernel) (by decide +kernel)), rfl⟩
theorem mi_X8_init : Cond.instanceMethod yX8_init ∈ mm_tb ∧ yX8_init.name = "<init>" := ⟨(mm_in1 145 (by decide +kernel) (by decide +kernel)), rfl⟩
theorem mi_X9_init : Cond.instanceMethod yX9_init ∈ mm_tb ∧ yX9_init.name = "<init>" := ⟨(mm_in1 232 (by decide +kernel) (by decide +kernel)), rfl⟩
theorem mv_J0_charAt_5068e : Cond.instanceMethod yJ0_charAt_5068e ∈ mm_tb ∧ Cond.selects "java/lang/String" yJ0_charAt_5068e yJ0_charAt_5068e ∈ mm_tb := ⟨(mm_in3 224 (by decide +kernel) (by decide +kernel)), (mm_in3 225 (by decide +kernel) (by decide +kernel))⟩
theorem mv_J0_coder_7d493 : Cond.instanceMethod yJ0_coder_7d493 ∈ mm_tb ∧ Cond.selects "java/lang/String" yJ0_coder_7d493 yJ0_coder_7d493 ∈ mm_tb := ⟨(mm_in8 114 (by decide +kernel) (by decide +kernel)), (mm_in8 115 (by decide +kernel) (by decide +kernel))⟩
theorem mv_J0_isLatin1_aae02 : Cond.instanceMethod yJ0_isLatin1_aae02 ∈ mm_tb ∧ Cond.selects "java/lang/String" yJ0_isLatin1_aae02 yJ0_isLatin1_aae02 ∈ mm_tb := ⟨(mm_in3 228 (by decide +kernel) (by decide +kernel)), (mm_in3 229 (by decide +kernel) (by decide +kernel))⟩
theorem mv_J0_length_8abf5 : Cond.instanceMethod yJ0_length_8abf5 ∈ mm_tb ∧ Cond.selects "java/lang/String" yJ0_length_8abf5 yJ0_length_8abf5 ∈ mm_tb := ⟨(mm_in8 110 (by decide +kernel) (by decide +kernel)), (mm_in8 111 (by decide +kernel) (by decide +kernel))⟩
theorem mv_Jx4a65c_add_72be8 : Cond.instanceMethod yJx4a65c_add_72be8 ∈ mm_tb ∧ Cond.selects RJx4a65c yJx4a65c_add_72be8 yJx4a65c_add_72be8 ∈ mm_tb := ⟨(mm_in2 218 (by decide +kernel) (by decide +kernel)), (mm_inP 0 (by decide +kernel) (by decide +kernel))⟩
theorem mv_Jx4a65c_add_9ea2d : Cond.instanceMethod yJx4a65c_add_9ea2d ∈ mm_tb ∧ Cond.selects RJx4a65c yJx4a65c_add_9ea2d yJx4a65c_add_9ea2d ∈ mm_tb := ⟨(mm_in2 213 (by decide +kernel) (by decide +kernel)), (mm_in2 214 (by decide +kernel) (by decide +kernel))⟩
theorem mv_Jx4a65c_elementData_915e3 : Cond.instanceMethod yJx4a65c_elementData_915e3 ∈ mm_tb ∧ Cond.selects RJx4a65c yJx4a65c_elementData_915e3 yJx4a65c_elementData_915e3 ∈ mm_tb := ⟨(mm_in3 52 (by decide +kernel) (by decide +kernel)), (mm_in3 53 (by decide +kernel) (by decide +kernel))⟩
theorem mv_Jx4a65c_get_915e3 : Cond.instanceMethod yJx4a65c_get_915e3 ∈ mm_tb ∧ Cond.selects RJx4a65c yJx4a65c_get_915e3 yJx4a65c_get_915e3 ∈ mm_tb := ⟨(mm_in3 42 (by decide +kernel) (by decide +kernel)), (mm_in3 43 (by decide +kernel) (by decide +kernel))⟩
theorem mv_Jx4a65c_grow_92f84 : Cond.instanceMethod yJx4a65c_grow_92f84 ∈ mm_tb ∧ Cond.selects RJx4a65c yJx4a65c_grow_92f84 yJx4a65c_grow_92f84 ∈ mm_tb := ⟨(mm_in2 226 (by decide +kernel) (by decide +kernel)), (mm_inP 2 (by decide +kernel) (by decide +kernel))⟩
theorem mv_Jx4a65c_grow_d5877 : Cond.instanceMethod yJx4a65c_grow_d5877 ∈ mm_tb ∧ Cond.selects RJx4a65c yJx4a65c_grow_d5877 yJx4a65c_grow_d5877 ∈ mm_tb := ⟨(mm_in2 222 (by decide +kernel) (by decide +kernel)), (mm_inP 1 (by decide +kernel) (by decide +kernel))⟩
theorem mv_Jx4a65c_size_8abf5 : Cond.instanceMethod yJx4a65c_size_8abf5 ∈ mm_tb ∧ Cond.selects RJx4a65c yJx4a65c_size_8abf5 yJx4a65c_size_8abf5 ∈ mm_tb := ⟨(mm_in2 172 (by decide +kernel) (by decide +kernel)), (mm_in2 173 (by decide +kernel) (by decide +kernel))⟩
theorem mv_X0_addSurety : Cond.instanceMethod yX0_addSurety ∈ mm_tb ∧ Cond.selects RX0 yX0_addSurety yX0_addSurety ∈ mm_tb := ⟨(mm_in5 56 (by decide +kernel) (by decide +kernel)), (mm_in5 57 (by decide +kernel) (by decide +kernel))⟩
theorem mv_X0_allClaims : Cond.instanceMethod yX0_allClaims ∈ mm_tb ∧ Cond.selects RX0 yX0_allClaims yX0_allClaims ∈ mm_tb := ⟨(mm_in3 164 (by decide +kernel) (by decide +kernel)), (mm_in3 165 (by decide +kernel) (by decide +kernel))⟩
theorem mv_X0_hasSurety : Cond.instanceMethod yX0_hasSurety ∈ mm_tb ∧ Cond.selects RX0 yX0_hasSurety yX0_hasSurety ∈ mm_tb := ⟨(mm_in5 52 (by decide +kernel) (by decide +kernel)), (mm_in5 53 (by decide +kernel) (by decide +kernel))⟩
theorem mv_X0_passTo : Cond.instanceMethod yX0_passTo ∈ mm_tb ∧ Cond.selects RX0 yX0_passTo yX0_passTo ∈ mm_tb := ⟨(mm_in3 117 (by decide +kernel) (by decide +kernel)), (mm_in3 118 (by decide +kernel) (by decide +kernel))⟩
theorem mv_X10_addClosing : Cond.instanceMethod yX10_addClosing ∈ mm_tb ∧ Cond.selects RX10 yX10_addClosing yX10_addClosing ∈ mm_tb := ⟨(mm_in4 195 (by decide +kernel) (by decide +kernel)), (mm_in4 196 (by decide +kernel) (by decide +kernel))⟩
theorem mv_X10_addNews : Cond.instanceMethod yX10_addNews ∈ mm_tb ∧ Cond.selects RX10 yX10_addNews yX10_addNews ∈ mm_tb := ⟨(mm_in5 205 (by decide +kernel) (by decide +kernel)), (mm_in5 206 (by decide +kernel) (by decide +kernel))⟩
theorem mv_X10_addShip : Cond.instanceMethod yX10_addShip ∈ mm_tb ∧ Cond.selects RX10 yX10_addShip yX10_addShip ∈ mm_tb := ⟨(mm_in5 197 (by decide +kernel) (by decide +kernel)), (mm_in5 198 (by decide +kernel) (by decide +kernel))⟩
theorem mv_X10_closedBy : Cond.instanceMethod yX10_closedBy ∈ mm_tb ∧ Cond.selects RX10 yX10_closedBy yX10_closedBy ∈ mm_tb := ⟨(mm_in4 148 (by decide +kernel) (by decide +kernel)), (mm_in4 149 (by decide +kernel) (by decide +kernel))⟩
theorem mv_X10_closureTold : Cond.instanceMethod yX10_closureTold ∈ mm_tb ∧ Cond.selects RX10 yX10_closureTold yX10_closureTold ∈ mm_tb := ⟨(mm_in6 45 (by decide +kernel) (by decide +kernel)), (mm_in6 46 (by decide +kernel) (by decide +kernel))⟩
theorem mv_X10_comingOf : Cond.instanceMethod yX10_comingOf ∈ mm_tb ∧ Cond.selects RX10 yX10_comingOf yX10_comingOf ∈ mm_tb := ⟨(mm_in5 234 (by decide +kernel) (by decide +kernel)), (mm_in5 235 (by decide +kernel) (by decide +kernel))⟩
theorem mv_X10_covers : Cond.instanceMethod yX10_covers ∈ mm_tb ∧ Cond.selects RX10 yX10_covers yX10_covers ∈ mm_tb := ⟨(mm_in4 153 (by decide +kernel) (by decide +kernel)), (mm_inP 35 (by decide +kernel) (by decide +kernel))⟩
theorem mv_X10_highPrice : Cond.instanceMethod yX10_highPrice ∈ mm_tb ∧ Cond.selects RX10 yX10_highPrice yX10_highPrice ∈ mm_tb := ⟨(mm_in5 213 (by decide +kernel) (by decide +kernel)), (mm_in5 214 (by decide +kernel) (by decide +kernel))⟩
theorem mv_X10_latestNews : Cond.instanceMethod yX10_latestNews ∈ mm_tb ∧ Cond.selects RX10 yX10_latestNews yX10_latestNews ∈ mm_tb := ⟨(mm_in4 161 (by decide +kernel) (by decide +kernel)), (mm_inP 36 (by decide +kernel) (by decide +kernel))⟩
theorem mv_X10_lowPrice : Cond.instanceMethod yX10_lowPrice ∈ mm_tb ∧ Cond.selects RX10 yX10_lowPrice yX10_lowPrice ∈ mm_tb := ⟨(mm_in4 156 (by decide +kernel) (by decide +kernel)), (mm_in4 157 (by decide +kernel) (by decide +kernel))⟩
theorem mv_X10_nextOpenShip : Cond.instanceMethod yX10_nextOpenShip ∈ mm_tb ∧ Cond.selects RX10 yX10_nextOpenShip yX10_nextOpenShip ∈ mm_tb := ⟨(mm_in5 230 (by decide +kernel) (by decide +kernel)), (mm_in5 231 (by decide +kernel) (by decide +kernel))⟩
theorem mv_X10_readClosing : Cond.instanceMethod yX10_readClosing ∈ mm_tb ∧ Cond.selects RX10 yX10_readClosing yX10_readClosing ∈ mm_tb := ⟨(mm_in4 203 (by decide +kernel) (by decide +kernel)), (mm_in4 204 (by decide +kernel) (by decide +kernel))⟩
theorem mv_X11_allCoins : Cond.instanceMethod yX11_allCoins ∈ mm_tb ∧ Cond.selects RX11 yX11_allCoins yX11_allCoins ∈ mm_tb := ⟨(mm_in6 151 (by decide +kernel) (by decide +kernel)), (mm_inP 58 (by decide +kernel) (by decide +kernel))⟩
theorem mv_X11_bargainAt : Cond.instanceMethod yX11_bargainAt ∈ mm_tb ∧ Cond.selects RX11 yX11_bargainAt yX11_bargainAt ∈ mm_tb := ⟨(mm_in5 45 (by decide +kernel) (by decide +kernel)), (mm_inP 40 (by decide +kernel) (by decide +kernel))⟩
theorem mv_X11_callSurety : Cond.instanceMethod yX11_callSurety ∈ mm_tb ∧ Cond.selects RX11 yX11_callSurety yX11_callSurety ∈ mm_tb := ⟨(mm_in5 73 (by decide +kernel) (by decide +kernel)), (mm_inP 41 (by decide +kernel) (by decide +kernel))⟩
theorem mv_X11_elderOn : Cond.instanceMethod yX11_elderOn ∈ mm_tb ∧ Cond.selects RX11 yX11_elderOn yX11_elderOn ∈ mm_tb := ⟨(mm_in4 145 (by decide +kernel) (by decide +kernel)), (mm_inP 34 (by decide +kernel) (by decide +kernel))⟩
theorem mv_X11_give : Cond.instanceMethod yX11_give ∈ mm_tb ∧ Cond.selects RX11 yX11_give yX11_give ∈ mm_tb := ⟨(mm_in3 80 (by decide +kernel) (by decide +kernel)), (mm_inP 7 (by decide +kernel) (by decide +kernel))⟩
theorem mv_X11_heirOf : Cond.instanceMethod yX11_heirOf ∈ mm_tb ∧ Cond.selects RX11 yX11_heirOf yX11_heirOf ∈ mm_tb := ⟨(mm_in3 97 (by decide +kernel) (by decide +kernel)), (mm_inP 10 (by decide +kernel) (by decide +kernel))⟩
theorem mv_X11_judge : Cond.instanceMethod yX11_judge ∈ mm_tb ∧ Cond.selects RX11 yX11_judge yX11_judge ∈ mm_tb := ⟨(mm_in4 141 (by decide +kernel) (by decide +kernel)), (mm_inP 33 (by decide +kernel) (by decide +kernel))⟩
theorem mv_X11_leastMan : Cond.instanceMethod yX11_leastMan ∈ mm_tb ∧ Cond.selects RX11 yX11_leastMan yX11_leastMan ∈ mm_tb := ⟨(mm_in3 101 (by decide +kernel) (by decide +kernel)), (mm_inP 11 (by decide +kernel) (by decide +kernel))⟩
theorem mv_X11_leaveDues : Cond.instanceMethod yX11_leaveDues ∈ mm_tb ∧ Cond.selects RX11 yX11_leaveDues yX11_leaveDues ∈ mm_tb := ⟨(mm_in3 114 (by decide +kernel) (by decide +kernel)), (mm_inP 13 (by decide +kernel) (by decide +kernel))⟩
theorem mv_X11_leaveLots : Cond.instanceMethod yX11_leaveLots ∈ mm_tb ∧ Cond.selects RX11 yX11_leaveLots yX11_leaveLots ∈ mm_tb := ⟨(mm_in3 109 (by decide +kernel) (by decide +kernel)), (mm_inP 12 (by decide +kernel) (by decide +kernel))⟩
theorem mv_X11_manThere : Cond.instanceMethod yX11_manThere ∈ mm_tb ∧ Cond.selects RX11 yX11_manThere yX11_manThere ∈ mm_tb := ⟨(mm_in3 39 (by decide +kernel) (by decide +kernel)), (mm_inP 3 (by decide +kernel) (by decide +kernel))⟩
theorem mv_X11_nextDebt : Cond.instanceMethod yX11_nextDebt ∈ mm_tb ∧ Cond.selects RX11 yX11_nextDebt yX11_nextDebt ∈ mm_tb := ⟨(mm_in3 65 (by decide +kernel) (by decide +kernel)), (mm_inP 5 (by decide +kernel) (by decide +kernel))⟩
theorem mv_X11_owedBy : Cond.instanceMethod yX11_owedBy ∈ mm_tb ∧ Cond.selects RX11 yX11_owedBy yX11_owedBy ∈ mm_tb := ⟨(mm_in3 161 (by decide +kernel) (by decide +kernel)), (mm_inP 14 (by decide +kernel) (by decide +kernel))⟩
theorem mv_X11_payBargainsOf : Cond.instanceMethod yX11_payBargainsOf ∈ mm_tb ∧ Cond.selects RX11 yX11_payBargainsOf yX11_payBargainsOf ∈ mm_tb := ⟨(mm_in3 61 (by decide +kernel) (by decide +kernel)), (mm_inP 4 (by decide +kernel) (by decide +kernel))⟩
theorem mv_X11_payClaim : Cond.instanceMethod yX11_payClaim ∈ mm_tb ∧ Cond.selects RX11 yX11_payClaim yX11_payClaim ∈ mm_tb := ⟨(mm_in3 93 (by decide +kernel) (by decide +kernel)), (mm_inP 9 (by decide +kernel) (by decide +kernel))⟩
theorem mv_X11_payClaimsOf : Cond.instanceMethod yX11_payClaimsOf ∈ mm_tb ∧ Cond.selects RX11 yX11_payClaimsOf yX11_payClaimsOf ∈ mm_tb := ⟨(mm_in3 89 (by decide +kernel) (by decide +kernel)), (mm_inP 8 (by decide +kernel) (by decide +kernel))⟩
theorem mv_X11_payFine : Cond.instanceMethod yX11_payFine ∈ mm_tb ∧ Cond.selects RX11 yX11_payFine yX11_payFine ∈ mm_tb := ⟨(mm_in5 37 (by decide +kernel) (by decide +kernel)), (mm_inP 39 (by decide +kernel) (by decide +kernel))⟩
theorem mv_X11_payOwed : Cond.instanceMethod yX11_payOwed ∈ mm_tb ∧ Cond.selects RX11 yX11_payOwed yX11_payOwed ∈ mm_tb := ⟨(mm_in3 70 (by decide +kernel) (by decide +kernel)), (mm_inP 6 (by decide +kernel) (by decide +kernel))⟩
theorem mv_X11_refusal : Cond.instanceMethod yX11_refusal ∈ mm_tb ∧ Cond.selects RX11 yX11_refusal yX11_refusal ∈ mm_tb := ⟨(mm_in4 137 (by decide +kernel) (by decide +kernel)), (mm_inP 32 (by decide +kernel) (by decide +kernel))⟩
theorem mv_X11_splitLot : Cond.instanceMethod yX11_splitLot ∈ mm_tb ∧ Cond.selects RX11 yX11_splitLot yX11_splitLot ∈ mm_tb := ⟨(mm_in4 216 (by decide +kernel) (by decide +kernel)), (mm_inP 38 (by decide +kernel) (by decide +kernel))⟩
theorem mv_X11_tellPlannerPrices : Cond.instanceMethod yX11_tellPlannerPrices ∈ mm_tb ∧ Cond.selects RX11 yX11_tellPlannerPrices yX11_tellPlannerPrices ∈ mm_tb := ⟨(mm_in6 4 (by decide +kernel) (by decide +kernel)), (mm_inP 47 (by decide +kernel) (by decide +kernel))⟩
theorem mv_X12_ands : Cond.instanceMethod yX12_ands ∈ mm_tb ∧ Cond.selects RX12 yX12_ands yX12_ands ∈ mm_tb := ⟨(mm_in8 205 (by decide +kernel) (by decide +kernel)), (mm_inP 83 (by decide +kernel) (by decide +kernel))⟩
theorem mv_X12_asked : Cond.instanceMethod yX12_asked ∈ mm_tb ∧ Cond.selects RX12 yX12_asked yX12_asked ∈ mm_tb := ⟨(mm_in9 8 (by decide +kernel) (by decide +kernel)), (mm_inP 86 (by decide +kernel) (by decide +kernel))⟩
theorem mv_X12_bars : Cond.instanceMethod yX12_bars ∈ mm_tb ∧ Cond.selects RX12 yX12_bars yX12_bars ∈ mm_tb := ⟨(mm_in9 122 (by decide +kernel) (by decide +kernel)), (mm_inP 97 (by decide +kernel) (by decide +kernel))⟩
theorem mv_X12_blanks : Cond.instanceMethod yX12_blanks ∈ mm_tb ∧ Cond.selects RX12 yX12_blanks yX12_blanks ∈ mm_tb := ⟨(mm_in8 98 (by decide +kernel) (by decide +kernel)), (mm_inP 66 (by decide +kernel) (by decide +kernel))⟩
theorem mv_X12_claims : Cond.instanceMethod yX12_claims ∈ mm_tb ∧ Cond.selects RX12 yX12_claims yX12_claims ∈ mm_tb := ⟨(mm_in9 86 (by decide +kernel) (by decide +kernel)), (mm_inP 94 (by decide +kernel) (by decide +kernel))⟩
theorem mv_X12_clause : Cond.instanceMethod yX12_clause ∈ mm_tb ∧ Cond.selects RX12 yX12_clause yX12_clause ∈ mm_tb := ⟨(mm_in8 90 (by decide +kernel) (by decide +kernel)), (mm_inP 64 (by decide +kernel) (by decide +kernel))⟩
theorem mv_X12_comes : Cond.instanceMethod yX12_comes ∈ mm_tb ∧ Cond.selects RX12 yX12_comes yX12_comes ∈ mm_tb := ⟨(mm_in8 62 (by decide +kernel) (by decide +kernel)), (mm_inP 61 (by decide +kernel) (by decide +kernel))⟩
theorem mv_X12_compares : Cond.instanceMethod yX12_compares ∈ mm_tb ∧ Cond.selects RX12 yX12_compares yX12_compares ∈ mm_tb := ⟨(mm_in8 195 (by decide +kernel) (by decide +kernel)), (mm_inP 81 (by decide +kernel) (by decide +kernel))⟩
theorem mv_X12_counts : Cond.instanceMethod yX12_counts ∈ mm_tb ∧ Cond.selects RX12 yX12_counts yX12_counts ∈ mm_tb := ⟨(mm_in8 155 (by decide +kernel) (by decide +kernel)), (mm_inP 76 (by decide +kernel) (by decide +kernel))⟩
theorem mv_X12_deeper : Cond.instanceMethod yX12_deeper ∈ mm_tb ∧ Cond.selects RX12 yX12_deeper yX12_deeper ∈ mm_tb := ⟨(mm_in8 143 (by decide +kernel) (by decide +kernel)), (mm_inP 73 (by decide +kernel) (by decide +kernel))⟩
theorem mv_X12_elder : Cond.instanceMethod yX12_elder ∈ mm_tb ∧ Cond.selects RX12 yX12_elder yX12_elder ∈ mm_tb := ⟨(mm_in9 15 (by decide +kernel) (by decide +kernel)), (mm_in9 16 (by decide +kernel) (by decide +kernel))⟩
theorem mv_X12_emits : Cond.instanceMethod yX12_emits ∈ mm_tb ∧ Cond.selects RX12 yX12_emits yX12_emits ∈ mm_tb := ⟨(mm_in8 159 (by decide +kernel) (by decide +kernel)), (mm_inP 77 (by decide +kernel) (by decide +kernel))⟩
theorem mv_X12_fails : Cond.instanceMethod yX12_fails ∈ mm_tb ∧ Cond.selects RX12 yX12_fails yX12_fails ∈ mm_tb := ⟨(mm_in8 122 (by decide +kernel) (by decide +kernel)), (mm_inP 69 (by decide +kernel) (by decide +kernel))⟩
theorem mv_X12_gathers : Cond.instanceMethod yX12_gathers ∈ mm_tb ∧ Cond.selects RX12 yX12_gathers yX12_gathers ∈ mm_tb := ⟨(mm_in9 152 (by decide +kernel) (by decide +kernel)), (mm_inP 98 (by decide +kernel) (by decide +kernel))⟩
theorem mv_X12_goes : Cond.instanceMethod yX12_goes ∈ mm_tb ∧ Cond.selects RX12 yX12_goes yX12_goes ∈ mm_tb := ⟨(mm_in9 74 (by decide +kernel) (by decide +kernel)), (mm_inP 93 (by decide +kernel) (by decide +kernel))⟩
theorem mv_X12_hasFact : Cond.instanceMethod yX12_hasFact ∈ mm_tb ∧ Cond.selects RX12 yX12_hasFact yX12_hasFact ∈ mm_tb := ⟨(mm_in8 199 (by decide +kernel) (by decide +kernel)), (mm_inP 82 (by decide +kernel) (by decide +kernel))⟩
theorem mv_X12_hasValue : Cond.instanceMethod yX12_hasValue ∈ mm_tb ∧ Cond.selects RX12 yX12_hasValue yX12_hasValue ∈ mm_tb := ⟨(mm_in8 180 (by decide +kernel) (by decide +kernel)), (mm_inP 78 (by decide +kernel) (by decide +kernel))⟩
theorem mv_X12_holds : Cond.instanceMethod yX12_holds ∈ mm_tb ∧ Cond.selects RX12 yX12_holds yX12_holds ∈ mm_tb := ⟨(mm_in9 118 (by decide +kernel) (by decide +kernel)), (mm_inP 96 (by decide +kernel) (by decide +kernel))⟩
theorem mv_X12_inForce : Cond.instanceMethod yX12_inForce ∈ mm_tb ∧ Cond.selects RX12 yX12_inForce yX12_inForce ∈ mm_tb := ⟨(mm_in8 224 (by decide +kernel) (by decide +kernel)), (mm_inP 84 (by decide +kernel) (by decide +kernel))⟩
theorem mv_X12_is : Cond.instanceMethod yX12_is ∈ mm_tb ∧ Cond.selects RX12 yX12_is yX12_is ∈ mm_tb := ⟨(mm_in8 107 (by decide +kernel) (by decide +kernel)), (mm_inP 68 (by decide +kernel) (by decide +kernel))⟩
theorem mv_X12_isBargain : Cond.instanceMethod yX12_isBargain ∈ mm_tb ∧ Cond.selects RX12 yX12_isBargain yX12_isBargain ∈ mm_tb := ⟨(mm_in9 54 (by decide +kernel) (by decide +kernel)), (mm_inP 91 (by decide +kernel) (by decide +kernel))⟩
theorem mv_X12_isLot : Cond.instanceMethod yX12_isLot ∈ mm_tb ∧ Cond.selects RX12 yX12_isLot yX12_isLot ∈ mm_tb := ⟨(mm_in8 70 (by decide +kernel) (by decide +kernel)), (mm_inP 62 (by decide +kernel) (by decide +kernel))⟩
theorem mv_X12_isMan : Cond.instanceMethod yX12_isMan ∈ mm_tb ∧ Cond.selects RX12 yX12_isMan yX12_isMan ∈ mm_tb := ⟨(mm_in8 54 (by decide +kernel) (by decide +kernel)), (mm_inP 60 (by decide +kernel) (by decide +kernel))⟩
theorem mv_X12_isShutTo : Cond.instanceMethod yX12_isShutTo ∈ mm_tb ∧ Cond.selects RX12 yX12_isShutTo yX12_isShutTo ∈ mm_tb := ⟨(mm_in9 27 (by decide +kernel) (by decide +kernel)), (mm_inP 89 (by decide +kernel) (by decide +kernel))⟩
theorem mv_X12_isThere : Cond.instanceMethod yX12_isThere ∈ mm_tb ∧ Cond.selects RX12 yX12_isThere yX12_isThere ∈ mm_tb := ⟨(mm_in8 50 (by decide +kernel) (by decide +kernel)), (mm_inP 59 (by decide +kernel) (by decide +kernel))⟩
theorem mv_X12_isTrue : Cond.instanceMethod yX12_isTrue ∈ mm_tb ∧ Cond.selects RX12 yX12_isTrue yX12_isTrue ∈ mm_tb := ⟨(mm_in9 35 (by decide +kernel) (by decide +kernel)), (mm_inP 90 (by decide +kernel) (by decide +kernel))⟩
theorem mv_X12_number : Cond.instanceMethod yX12_number ∈ mm_tb ∧ Cond.selects RX12 yX12_number yX12_number ∈ mm_tb := ⟨(mm_in8 133 (by decide +kernel) (by decide +kernel)), (mm_inP 71 (by decide +kernel) (by decide +kernel))⟩
theorem mv_X12_opens : Cond.instanceMethod yX12_opens ∈ mm_tb ∧ Cond.selects RX12 yX12_opens yX12_opens ∈ mm_tb := ⟨(mm_in8 147 (by decide +kernel) (by decide +kernel)), (mm_inP 74 (by decide +kernel) (by decide +kernel))⟩
theorem mv_X12_owes : Cond.instanceMethod yX12_owes ∈ mm_tb ∧ Cond.selects RX12 yX12_owes yX12_owes ∈ mm_tb := ⟨(mm_in9 23 (by decide +kernel) (by decide +kernel)), (mm_inP 88 (by decide +kernel) (by decide +kernel))⟩
theorem mv_X12_pairs : Cond.instanceMethod yX12_pairs ∈ mm_tb ∧ Cond.selects RX12 yX12_pairs yX12_pairs ∈ mm_tb := ⟨(mm_in9 200 (by decide +kernel) (by decide +kernel)), (mm_inP 100 (by decide +kernel) (by decide +kernel))⟩
theorem mv_X12_pays : Cond.instanceMethod yX12_pays ∈ mm_tb ∧ Cond.selects RX12 yX12_pays yX12_pays ∈ mm_tb := ⟨(mm_in9 70 (by decide +kernel) (by decide +kernel)), (mm_inP 92 (by decide +kernel) (by decide +kernel))⟩
theorem mv_X12_price : Cond.instanceMethod yX12_price ∈ mm_tb ∧ Cond.selects RX12 yX12_price yX12_price ∈ mm_tb := ⟨(mm_in9 30 (by decide +kernel) (by decide +kernel)), (mm_in9 31 (by decide +kernel) (by decide +kernel))⟩
theorem mv_X12_put : Cond.instanceMethod yX12_put ∈ mm_tb ∧ Cond.selects RX12 yX12_put yX12_put ∈ mm_tb := ⟨(mm_in8 78 (by decide +kernel) (by decide +kernel)), (mm_inP 63 (by decide +kernel) (by decide +kernel))⟩
theorem mv_X12_shuts : Cond.instanceMethod yX12_shuts ∈ mm_tb ∧ Cond.selects RX12 yX12_shuts yX12_shuts ∈ mm_tb := ⟨(mm_in9 0 (by decide +kernel) (by decide +kernel)), (mm_inP 85 (by decide +kernel) (by decide +kernel))⟩
theorem mv_X12_sign : Cond.instanceMethod yX12_sign ∈ mm_tb ∧ Cond.selects RX12 yX12_sign yX12_sign ∈ mm_tb := ⟨(mm_in8 126 (by decide +kernel) (by decide +kernel)), (mm_inP 70 (by decide +kernel) (by decide +kernel))⟩
theorem mv_X12_spans : Cond.instanceMethod yX12_spans ∈ mm_tb ∧ Cond.selects RX12 yX12_spans yX12_spans ∈ mm_tb := ⟨(mm_in9 114 (by decide +kernel) (by decide +kernel)), (mm_inP 95 (by decide +kernel) (by decide +kernel))⟩
theorem mv_X12_sums : Cond.instanceMethod yX12_sums ∈ mm_tb ∧ Cond.selects RX12 yX12_sums yX12_sums ∈ mm_tb := ⟨(mm_in8 184 (by decide +kernel) (by decide +kernel)), (mm_inP 79 (by decide +kernel) (by decide +kernel))⟩
theorem mv_X12_top : Cond.instanceMethod yX12_top ∈ mm_tb ∧ Cond.selects RX12 yX12_top yX12_top ∈ mm_tb := ⟨(mm_in8 188 (by decide +kernel) (by decide +kernel)), (mm_inP 80 (by decide +kernel) (by decide +kernel))⟩
theorem mv_X12_value : Cond.instanceMethod yX12_value ∈ mm_tb ∧ Cond.selects RX12 yX12_value yX12_value ∈ mm_tb := ⟨(mm_in8 151 (by decide +kernel) (by decide +kernel)), (mm_inP 75 (by decide +kernel) (by decide +kernel))⟩
theorem mv_X12_verb : Cond.instanceMethod yX12_verb ∈ mm_tb ∧ Cond.selects RX12 yX12_verb yX12_verb ∈ mm_tb := ⟨(mm_in8 94 (by decide +kernel) (by decide +kernel)), (mm_inP 65 (by decide +kernel) (by decide +kernel))⟩
theorem mv_X12_wantsFact : Cond.instanceMethod yX12_wantsFact ∈ mm_tb ∧ Cond.selects RX12 yX12_wantsFact yX12_wantsFact ∈ mm_tb := ⟨(mm_in8 138 (by decide +kernel) (by decide +kernel)), (mm_inP 72 (by decide +kernel) (by decide +kernel))⟩
theorem mv_X12_weighs : Cond.instanceMethod yX12_weighs ∈ mm_tb ∧ Cond.selects RX12 yX12_weighs yX12_weighs ∈ mm_tb := ⟨(mm_in9 12 (by decide +kernel) (by decide +kernel)), (mm_inP 87 (by decide +kernel) (by decide +kernel))⟩
theorem mv_X12_wordEnd : Cond.instanceMethod yX12_wordEnd ∈ mm_tb ∧ Cond.selects RX12 yX12_wordEnd yX12_wordEnd ∈ mm_tb := ⟨(mm_in8 102 (by decide +kernel) (by decide +kernel)), (mm_inP 67 (by decide +kernel) (by decide +kernel))⟩
theorem mv_X12_worth : Cond.instanceMethod yX12_worth ∈ mm_tb ∧ Cond.selects RX12 yX12_worth yX12_worth ∈ mm_tb := ⟨(mm_in9 180 (by decide +kernel) (by decide +kernel)), (mm_inP 99 (by decide +kernel) (by decide +kernel))⟩
theorem mv_X1_add : Cond.instanceMethod yX1_add ∈ mm_tb ∧ Cond.selects RX1 yX1_add yX1_add ∈ mm_tb := ⟨(mm_in6 93 (by decide +kernel) (by decide +kernel)), (mm_in6 94 (by decide +kernel) (by decide +kernel))⟩
theorem mv_X1_bestWorth : Cond.instanceMethod yX1_bestWorth ∈ mm_tb ∧ Cond.selects RX1 yX1_bestWorth yX1_bestWorth ∈ mm_tb := ⟨(mm_in6 130 (by decide +kernel) (by decide +kernel)), (mm_inP 55 (by decide +kernel) (by decide +kernel))⟩
theorem mv_X1_coinsBetween : Cond.instanceMethod yX1_coinsBetween ∈ mm_tb ∧ Cond.selects RX1 yX1_coinsBetween yX1_coinsBetween ∈ mm_tb := ⟨(mm_in6 118 (by decide +kernel) (by decide +kernel)), (mm_inP 53 (by decide +kernel) (by decide +kernel))⟩
theorem mv_X1_daysBetween : Cond.instanceMethod yX1_daysBetween ∈ mm_tb ∧ Cond.selects RX1 yX1_daysBetween yX1_daysBetween ∈ mm_tb := ⟨(mm_in6 125 (by decide +kernel) (by decide +kernel)), (mm_inP 54 (by decide +kernel) (by decide +kernel))⟩
theorem mv_X1_empty : Cond.instanceMethod yX1_empty ∈ mm_tb ∧ Cond.selects RX1 yX1_empty yX1_empty ∈ mm_tb := ⟨(mm_in6 101 (by decide +kernel) (by decide +kernel)), (mm_in6 102 (by decide +kernel) (by decide +kernel))⟩
theorem mv_X1_findPairs : Cond.instanceMethod yX1_findPairs ∈ mm_tb ∧ Cond.selects RX1 yX1_findPairs yX1_findPairs ∈ mm_tb := ⟨(mm_in6 109 (by decide +kernel) (by decide +kernel)), (mm_in6 110 (by decide +kernel) (by decide +kernel))⟩
theorem mv_X1_firstPartner : Cond.instanceMethod yX1_firstPartner ∈ mm_tb ∧ Cond.selects RX1 yX1_firstPartner yX1_firstPartner ∈ mm_tb := ⟨(mm_in6 139 (by decide +kernel) (by decide +kernel)), (mm_inP 57 (by decide +kernel) (by decide +kernel))⟩
theorem mv_X1_keepFirstBest : Cond.instanceMethod yX1_keepFirstBest ∈ mm_tb ∧ Cond.selects RX1 yX1_keepFirstBest yX1_keepFirstBest ∈ mm_tb := ⟨(mm_in6 135 (by decide +kernel) (by decide +kernel)), (mm_inP 56 (by decide +kernel) (by decide +kernel))⟩
theorem mv_X1_weighPairs : Cond.instanceMethod yX1_weighPairs ∈ mm_tb ∧ Cond.selects RX1 yX1_weighPairs yX1_weighPairs ∈ mm_tb := ⟨(mm_in6 114 (by decide +kernel) (by decide +kernel)), (mm_inP 52 (by decide +kernel) (by decide +kernel))⟩
theorem mv_X2_decide : Cond.instanceMethod yX2_decide ∈ mm_tb ∧ Cond.selects RX2 yX2_decide yX2_decide ∈ mm_tb := ⟨(mm_in4 164 (by decide +kernel) (by decide +kernel)), (mm_in4 165 (by decide +kernel) (by decide +kernel))⟩
theorem mv_X2_inForce : Cond.instanceMethod yX2_inForce ∈ mm_tb ∧ Cond.selects RX2 yX2_inForce yX2_inForce ∈ mm_tb := ⟨(mm_in4 128 (by decide +kernel) (by decide +kernel)), (mm_in4 129 (by decide +kernel) (by decide +kernel))⟩
theorem mv_X2_lawAt : Cond.instanceMethod yX2_lawAt ∈ mm_tb ∧ Cond.selects RX2 yX2_lawAt yX2_lawAt ∈ mm_tb := ⟨(mm_in4 110 (by decide +kernel) (by decide +kernel)), (mm_in4 111 (by decide +kernel) (by decide +kernel))⟩
theorem mv_X3_findHolding : Cond.instanceMethod yX3_findHolding ∈ mm_tb ∧ Cond.selects RX3 yX3_findHolding yX3_findHolding ∈ mm_tb := ⟨(mm_in6 66 (by decide +kernel) (by decide +kernel)), (mm_in6 67 (by decide +kernel) (by decide +kernel))⟩
theorem mv_X3_isStable : Cond.instanceMethod yX3_isStable ∈ mm_tb ∧ Cond.selects RX3 yX3_isStable yX3_isStable ∈ mm_tb := ⟨(mm_in6 72 (by decide +kernel) (by decide +kernel)), (mm_inP 50 (by decide +kernel) (by decide +kernel))⟩
theorem mv_X3_profit : Cond.instanceMethod yX3_profit ∈ mm_tb ∧ Cond.selects RX3 yX3_profit yX3_profit ∈ mm_tb := ⟨(mm_in6 82 (by decide +kernel) (by decide +kernel)), (mm_inP 51 (by decide +kernel) (by decide +kernel))⟩
theorem mv_X3_setHand : Cond.instanceMethod yX3_setHand ∈ mm_tb ∧ Cond.selects RX3 yX3_setHand yX3_setHand ∈ mm_tb := ⟨(mm_in6 57 (by decide +kernel) (by decide +kernel)), (mm_in6 58 (by decide +kernel) (by decide +kernel))⟩
theorem mv_X4_firstTrue : Cond.instanceMethod yX4_firstTrue ∈ mm_tb ∧ Cond.selects RX4 yX4_firstTrue yX4_firstTrue ∈ mm_tb := ⟨(mm_in4 170 (by decide +kernel) (by decide +kernel)), (mm_in4 171 (by decide +kernel) (by decide +kernel))⟩
theorem mv_X4_isTrue : Cond.instanceMethod yX4_isTrue ∈ mm_tb ∧ Cond.selects RX4 yX4_isTrue yX4_isTrue ∈ mm_tb := ⟨(mm_in4 175 (by decide +kernel) (by decide +kernel)), (mm_inP 37 (by decide +kernel) (by decide +kernel))⟩
theorem mv_X5_cutNumber : Cond.instanceMethod yX5_cutNumber ∈ mm_tb ∧ Cond.selects RX5 yX5_cutNumber yX5_cutNumber ∈ mm_tb := ⟨(mm_in3 201 (by decide +kernel) (by decide +kernel)), (mm_inP 16 (by decide +kernel) (by decide +kernel))⟩
theorem mv_X5_cutSign : Cond.instanceMethod yX5_cutSign ∈ mm_tb ∧ Cond.selects RX5 yX5_cutSign yX5_cutSign ∈ mm_tb := ⟨(mm_in4 23 (by decide +kernel) (by decide +kernel)), (mm_inP 21 (by decide +kernel) (by decide +kernel))⟩
theorem mv_X5_cutTokens : Cond.instanceMethod yX5_cutTokens ∈ mm_tb ∧ Cond.selects RX5 yX5_cutTokens yX5_cutTokens ∈ mm_tb := ⟨(mm_in3 194 (by decide +kernel) (by decide +kernel)), (mm_inP 15 (by decide +kernel) (by decide +kernel))⟩
theorem mv_X5_cutWord : Cond.instanceMethod yX5_cutWord ∈ mm_tb ∧ Cond.selects RX5 yX5_cutWord yX5_cutWord ∈ mm_tb := ⟨(mm_in3 212 (by decide +kernel) (by decide +kernel)), (mm_inP 18 (by decide +kernel) (by decide +kernel))⟩
theorem mv_X5_emit : Cond.instanceMethod yX5_emit ∈ mm_tb ∧ Cond.selects RX5 yX5_emit yX5_emit ∈ mm_tb := ⟨(mm_in4 58 (by decide +kernel) (by decide +kernel)), (mm_inP 29 (by decide +kernel) (by decide +kernel))⟩
theorem mv_X5_fail : Cond.instanceMethod yX5_fail ∈ mm_tb ∧ Cond.selects RX5 yX5_fail yX5_fail ∈ mm_tb := ⟨(mm_in4 34 (by decide +kernel) (by decide +kernel)), (mm_inP 23 (by decide +kernel) (by decide +kernel))⟩
theorem mv_X5_goOn : Cond.instanceMethod yX5_goOn ∈ mm_tb ∧ Cond.selects RX5 yX5_goOn yX5_goOn ∈ mm_tb := ⟨(mm_in4 38 (by decide +kernel) (by decide +kernel)), (mm_inP 24 (by decide +kernel) (by decide +kernel))⟩
theorem mv_X5_hasRoomFor : Cond.instanceMethod yX5_hasRoomFor ∈ mm_tb ∧ Cond.selects RX5 yX5_hasRoomFor yX5_hasRoomFor ∈ mm_tb := ⟨(mm_in3 172 (by decide +kernel) (by decide +kernel)), (mm_in3 173 (by decide +kernel) (by decide +kernel))⟩
theorem mv_X5_isWord : Cond.instanceMethod yX5_isWord ∈ mm_tb ∧ Cond.selects RX5 yX5_isWord yX5_isWord ∈ mm_tb := ⟨(mm_in3 220 (by decide +kernel) (by decide +kernel)), (mm_inP 20 (by decide +kernel) (by decide +kernel))⟩
theorem mv_X5_lawOf : Cond.instanceMethod yX5_lawOf ∈ mm_tb ∧ Cond.selects RX5 yX5_lawOf yX5_lawOf ∈ mm_tb := ⟨(mm_in4 69 (by decide +kernel) (by decide +kernel)), (mm_in4 70 (by decide +kernel) (by decide +kernel))⟩
theorem mv_X5_pass : Cond.instanceMethod yX5_pass ∈ mm_tb ∧ Cond.selects RX5 yX5_pass yX5_pass ∈ mm_tb := ⟨(mm_in4 46 (by decide +kernel) (by decide +kernel)), (mm_inP 26 (by decide +kernel) (by decide +kernel))⟩
theorem mv_X5_putToken : Cond.instanceMethod yX5_putToken ∈ mm_tb ∧ Cond.selects RX5 yX5_putToken yX5_putToken ∈ mm_tb := ⟨(mm_in3 205 (by decide +kernel) (by decide +kernel)), (mm_inP 17 (by decide +kernel) (by decide +kernel))⟩
theorem mv_X5_readClause : Cond.instanceMethod yX5_readClause ∈ mm_tb ∧ Cond.selects RX5 yX5_readClause yX5_readClause ∈ mm_tb := ⟨(mm_in4 30 (by decide +kernel) (by decide +kernel)), (mm_inP 22 (by decide +kernel) (by decide +kernel))⟩
theorem mv_X5_readFact : Cond.instanceMethod yX5_readFact ∈ mm_tb ∧ Cond.selects RX5 yX5_readFact yX5_readFact ∈ mm_tb := ⟨(mm_in4 54 (by decide +kernel) (by decide +kernel)), (mm_inP 28 (by decide +kernel) (by decide +kernel))⟩
theorem mv_X5_readFine : Cond.instanceMethod yX5_readFine ∈ mm_tb ∧ Cond.selects RX5 yX5_readFine yX5_readFine ∈ mm_tb := ⟨(mm_in4 42 (by decide +kernel) (by decide +kernel)), (mm_inP 25 (by decide +kernel) (by decide +kernel))⟩
theorem mv_X5_readSum : Cond.instanceMethod yX5_readSum ∈ mm_tb ∧ Cond.selects RX5 yX5_readSum yX5_readSum ∈ mm_tb := ⟨(mm_in4 62 (by decide +kernel) (by decide +kernel)), (mm_inP 30 (by decide +kernel) (by decide +kernel))⟩
theorem mv_X5_readTape : Cond.instanceMethod yX5_readTape ∈ mm_tb ∧ Cond.selects RX5 yX5_readTape yX5_readTape ∈ mm_tb := ⟨(mm_in3 189 (by decide +kernel) (by decide +kernel)), (mm_in3 190 (by decide +kernel) (by decide +kernel))⟩
theorem mv_X5_readTest : Cond.instanceMethod yX5_readTest ∈ mm_tb ∧ Cond.selects RX5 yX5_readTest yX5_readTest ∈ mm_tb := ⟨(mm_in4 50 (by decide +kernel) (by decide +kernel)), (mm_inP 27 (by decide +kernel) (by decide +kernel))⟩
theorem mv_X5_readValue : Cond.instanceMethod yX5_readValue ∈ mm_tb ∧ Cond.selects RX5 yX5_readValue yX5_readValue ∈ mm_tb := ⟨(mm_in4 66 (by decide +kernel) (by decide +kernel)), (mm_inP 31 (by decide +kernel) (by decide +kernel))⟩
theorem mv_X5_wordToken : Cond.instanceMethod yX5_wordToken ∈ mm_tb ∧ Cond.selects RX5 yX5_wordToken yX5_wordToken ∈ mm_tb := ⟨(mm_in3 216 (by decide +kernel) (by decide +kernel)), (mm_inP 19 (by decide +kernel) (by decide +kernel))⟩
theorem mv_X5_write : Cond.instanceMethod yX5_write ∈ mm_tb ∧ Cond.selects RX5 yX5_write yX5_write ∈ mm_tb := ⟨(mm_in3 176 (by decide +kernel) (by decide +kernel)), (mm_in3 177 (by decide +kernel) (by decide +kernel))⟩
theorem mv_X7_receive : Cond.instanceMethod yX7_receive ∈ mm_tb ∧ Cond.selects RX7 yX7_receive yX7_receive ∈ mm_tb := ⟨(mm_in3 83 (by decide +kernel) (by decide +kernel)), (mm_in3 84 (by decide +kernel) (by decide +kernel))⟩
theorem mv_X7_spend : Cond.instanceMethod yX7_spend ∈ mm_tb ∧ Cond.selects RX7 yX7_spend yX7_spend ∈ mm_tb := ⟨(mm_in3 74 (by decide +kernel) (by decide +kernel)), (mm_in3 75 (by decide +kernel) (by decide +kernel))⟩
theorem mv_X7_wasThere : Cond.instanceMethod yX7_wasThere ∈ mm_tb ∧ Cond.selects RX7 yX7_wasThere yX7_wasThere ∈ mm_tb := ⟨(mm_in3 104 (by decide +kernel) (by decide +kernel)), (mm_in3 105 (by decide +kernel) (by decide +kernel))⟩
theorem mv_X8_add : Cond.instanceMethod yX8_add ∈ mm_tb ∧ Cond.selects RX8 yX8_add yX8_add ∈ mm_tb := ⟨(mm_in5 91 (by decide +kernel) (by decide +kernel)), (mm_in5 92 (by decide +kernel) (by decide +kernel))⟩
theorem mv_X8_greaterQuarreller : Cond.instanceMethod yX8_greaterQuarreller ∈ mm_tb ∧ Cond.selects RX8 yX8_greaterQuarreller yX8_greaterQuarreller ∈ mm_tb := ⟨(mm_in5 151 (by decide +kernel) (by decide +kernel)), (mm_in5 152 (by decide +kernel) (by decide +kernel))⟩
theorem mv_X8_greatestLower : Cond.instanceMethod yX8_greatestLower ∈ mm_tb ∧ Cond.selects RX8 yX8_greatestLower yX8_greatestLower ∈ mm_tb := ⟨(mm_in5 107 (by decide +kernel) (by decide +kernel)), (mm_in5 108 (by decide +kernel) (by decide +kernel))⟩
theorem mv_X8_isKnown : Cond.instanceMethod yX8_isKnown ∈ mm_tb ∧ Cond.selects RX8 yX8_isKnown yX8_isKnown ∈ mm_tb := ⟨(mm_in5 112 (by decide +kernel) (by decide +kernel)), (mm_inP 42 (by decide +kernel) (by decide +kernel))⟩
theorem mv_X8_isWeighing : Cond.instanceMethod yX8_isWeighing ∈ mm_tb ∧ Cond.selects RX8 yX8_isWeighing yX8_isWeighing ∈ mm_tb := ⟨(mm_in5 124 (by decide +kernel) (by decide +kernel)), (mm_inP 44 (by decide +kernel) (by decide +kernel))⟩
theorem mv_X8_leastOf : Cond.instanceMethod yX8_leastOf ∈ mm_tb ∧ Cond.selects RX8 yX8_leastOf yX8_leastOf ∈ mm_tb := ⟨(mm_in5 167 (by decide +kernel) (by decide +kernel)), (mm_in5 168 (by decide +kernel) (by decide +kernel))⟩
theorem mv_X8_leastUpper : Cond.instanceMethod yX8_leastUpper ∈ mm_tb ∧ Cond.selects RX8 yX8_leastUpper yX8_leastUpper ∈ mm_tb := ⟨(mm_in5 133 (by decide +kernel) (by decide +kernel)), (mm_in5 134 (by decide +kernel) (by decide +kernel))⟩
theorem mv_X8_lesserQuarreller : Cond.instanceMethod yX8_lesserQuarreller ∈ mm_tb ∧ Cond.selects RX8 yX8_lesserQuarreller yX8_lesserQuarreller ∈ mm_tb := ⟨(mm_in5 159 (by decide +kernel) (by decide +kernel)), (mm_in5 160 (by decide +kernel) (by decide +kernel))⟩
theorem mv_X8_liesAbove : Cond.instanceMethod yX8_liesAbove ∈ mm_tb ∧ Cond.selects RX8 yX8_liesAbove yX8_liesAbove ∈ mm_tb := ⟨(mm_in5 156 (by decide +kernel) (by decide +kernel)), (mm_inP 46 (by decide +kernel) (by decide +kernel))⟩
theorem mv_X8_lowerAbove : Cond.instanceMethod yX8_lowerAbove ∈ mm_tb ∧ Cond.selects RX8 yX8_lowerAbove yX8_lowerAbove ∈ mm_tb := ⟨(mm_in5 119 (by decide +kernel) (by decide +kernel)), (mm_in5 120 (by decide +kernel) (by decide +kernel))⟩
theorem mv_X8_lowerBelow : Cond.instanceMethod yX8_lowerBelow ∈ mm_tb ∧ Cond.selects RX8 yX8_lowerBelow yX8_lowerBelow ∈ mm_tb := ⟨(mm_in5 127 (by decide +kernel) (by decide +kernel)), (mm_in5 128 (by decide +kernel) (by decide +kernel))⟩
theorem mv_X8_lowerExceeds : Cond.instanceMethod yX8_lowerExceeds ∈ mm_tb ∧ Cond.selects RX8 yX8_lowerExceeds yX8_lowerExceeds ∈ mm_tb := ⟨(mm_in5 116 (by decide +kernel) (by decide +kernel)), (mm_inP 43 (by decide +kernel) (by decide +kernel))⟩
theorem mv_X8_mostOf : Cond.instanceMethod yX8_mostOf ∈ mm_tb ∧ Cond.selects RX8 yX8_mostOf yX8_mostOf ∈ mm_tb := ⟨(mm_in5 179 (by decide +kernel) (by decide +kernel)), (mm_in5 180 (by decide +kernel) (by decide +kernel))⟩
theorem mv_X8_upperAbove : Cond.instanceMethod yX8_upperAbove ∈ mm_tb ∧ Cond.selects RX8 yX8_upperAbove yX8_upperAbove ∈ mm_tb := ⟨(mm_in5 141 (by decide +kernel) (by decide +kernel)), (mm_in5 142 (by decide +kernel) (by decide +kernel))⟩
theorem mv_X8_upperBelow : Cond.instanceMethod yX8_upperBelow ∈ mm_tb ∧ Cond.selects RX8 yX8_upperBelow yX8_upperBelow ∈ mm_tb := ⟨(mm_in5 145 (by decide +kernel) (by decide +kernel)), (mm_in5 146 (by decide +kernel) (by decide +kernel))⟩
theorem mv_X8_upperExceeds : Cond.instanceMethod yX8_upperExceeds ∈ mm_tb ∧ Cond.selects RX8 yX8_upperExceeds yX8_upperExceeds ∈ mm_tb := ⟨(mm_in5 138 (by decide +kernel) (by decide +kernel)), (mm_inP 45 (by decide +kernel) (by decide +kernel))⟩
theorem mv_X8_withdraw : Cond.instanceMethod yX8_withdraw ∈ mm_tb ∧ Cond.selects RX8 yX8_withdraw yX8_withdraw ∈ mm_tb := ⟨(mm_in5 99 (by decide +kernel) (by decide +kernel)), (mm_in5 100 (by decide +kernel) (by decide +kernel))⟩
theorem mv_X9_addLot : Cond.instanceMethod yX9_addLot ∈ mm_tb ∧ Cond.selects RX9 yX9_addLot yX9_addLot ∈ mm_tb := ⟨(mm_in5 226 (by decide +kernel) (by decide +kernel)), (mm_in5 227 (by decide +kernel) (by decide +kernel))⟩
theorem mv_X9_addShip : Cond.instanceMethod yX9_addShip ∈ mm_tb ∧ Cond.selects RX9 yX9_addShip yX9_addShip ∈ mm_tb := ⟨(mm_in5 239 (by decide +kernel) (by decide +kernel)), (mm_in6 0 (by decide +kernel) (by decide +kernel))⟩
theorem mv_X9_clearPlan : Cond.instanceMethod yX9_clearPlan ∈ mm_tb ∧ Cond.selects RX9 yX9_clearPlan yX9_clearPlan ∈ mm_tb := ⟨(mm_in5 222 (by decide +kernel) (by decide +kernel)), (mm_in5 223 (by decide +kernel) (by decide +kernel))⟩
theorem mv_X9_findBest : Cond.instanceMethod yX9_findBest ∈ mm_tb ∧ Cond.selects RX9 yX9_findBest yX9_findBest ∈ mm_tb := ⟨(mm_in6 11 (by decide +kernel) (by decide +kernel)), (mm_in6 12 (by decide +kernel) (by decide +kernel))⟩
