theorem mp_X12_13_30 : mm_fp RX12 13 30 (.array .int) true := ⟨RX12, TX12, 117, tyX12, rfl, tyX12_ok, nmX12, rfl, rfl, fun h => by rfl⟩
theorem mp_X12_13_31 : mm_fp RX12 13 31 (.array .int) true := ⟨RX12, TX12, 117, tyX12, rfl, tyX12_ok, nmX12, rfl, rfl, fun h => by rfl⟩
theorem mp_X12_13_32 : mm_fp RX12 13 32 (.array .int) true := ⟨RX12, TX12, 117, tyX12, rfl, tyX12_ok, nmX12, rfl, rfl, fun h => by rfl⟩
theorem mp_X12_13_33 : mm_fp RX12 13 33 .int false := ⟨RX12, TX12, 117, tyX12, rfl, tyX12_ok, nmX12, rfl, rfl, fun h => by cases h⟩
theorem mp_X12_13_34 : mm_fp RX12 13 34 .int false := ⟨RX12, TX12, 117, tyX12, rfl, tyX12_ok, nmX12, rfl, rfl, fun h => by cases h⟩
theorem mp_X12_13_35 : mm_fp RX12 13 35 (.array .int) true := ⟨RX12, TX12, 117, tyX12, rfl, tyX12_ok, nmX12, rfl, rfl, fun h => by rfl⟩
theorem mp_X12_13_36 : mm_fp RX12 13 36 (.array .long) true := ⟨RX12, TX12, 117, tyX12, rfl, tyX12_ok, nmX12, rfl, rfl, fun h => by rfl⟩
theorem mp_X12_13_37 : mm_fp RX12 13 37 (.array .long) true := ⟨RX12, TX12, 117, tyX12, rfl, tyX12_ok, nmX12, rfl, rfl, fun h => by rfl⟩
theorem mp_X12_13_38 : mm_fp RX12 13 38 .int false := ⟨RX12, TX12, 117, tyX12, rfl, tyX12_ok, nmX12, rfl, rfl, fun h => by cases h⟩
theorem mp_X12_13_39 : mm_fp RX12 13 39 (.array .int) true := ⟨RX12, TX12, 117, tyX12, rfl, tyX12_ok, nmX12, rfl, rfl, fun h => by rfl⟩
theorem mp_X12_13_4 : mm_fp RX12 13 4 (.array .int) true := ⟨RX12, TX12, 117, tyX12, rfl, tyX12_ok, nmX12, rfl, rfl, fun h => by rfl⟩
theorem mp_X12_13_40 : mm_fp RX12 13 40 (.array .int) true := ⟨RX12, TX12, 117, tyX12, rfl, tyX12_ok, nmX12, rfl, rfl, fun h => by rfl⟩
theorem mp_X12_13_41 : mm_fp RX12 13 41 (.array .int) true := ⟨RX12, TX12, 117, tyX12, rfl, tyX12_ok, nmX12, rfl, rfl, fun h => by rfl⟩
theorem mp_X12_13_42 : mm_fp RX12 13 42 (.array .int) true := ⟨RX12, TX12, 117, tyX12, rfl, tyX12_ok, nmX12, rfl, rfl, fun h => by rfl⟩
theorem mp_X12_13_43 : mm_fp RX12 13 43 .int false := ⟨RX12, TX12, 117, tyX12, rfl, tyX12_ok, nmX12, rfl, rfl, fun h => by cases h⟩
theorem mp_X12_13_44 : mm_fp RX12 13 44 (.array .int) true := ⟨RX12, TX12, 117, tyX12, rfl, tyX12_ok, nmX12, rfl, rfl, fun h => by rfl⟩
theorem mp_X12_13_45 : mm_fp RX12 13 45 (.array .int) true := ⟨RX12, TX12, 117, tyX12, rfl, tyX12_ok, nmX12, rfl, rfl, fun h => by rfl⟩
theorem mp_X12_13_46 : mm_fp RX12 13 46 (.array .int) true := ⟨RX12, TX12, 117, tyX12, rfl, tyX12_ok, nmX12, rfl, rfl, fun h => by rfl⟩
theorem mp_X12_13_47 : mm_fp RX12 13 47 (.array .int) true := ⟨RX12, TX12, 117, tyX12, rfl, tyX12_ok, nmX12, rfl, rfl, fun h => by rfl⟩
theorem mp_X12_13_48 : mm_fp RX12 13 48 (.array .int) true := ⟨RX12, TX12, 117, tyX12, rfl, tyX12_ok, nmX12, rfl, rfl, fun h => by rfl⟩
theorem mp_X12_13_49 : mm_fp RX12 13 49 (.array .int) true := ⟨RX12, TX12, 117, tyX12, rfl, tyX12_ok, nmX12, rfl, rfl, fun h => by rfl⟩
theorem mp_X12_13_5 : mm_fp RX12 13 5 (.array .int) true := ⟨RX12, TX12, 117, tyX12, rfl, tyX12_ok, nmX12, rfl, rfl, fun h => by rfl⟩
theorem mp_X12_13_50 : mm_fp RX12 13 50 (.array .int) true := ⟨RX12, TX12, 117, tyX12, rfl, tyX12_ok, nmX12, rfl, rfl, fun h => by rfl⟩
theorem mp_X12_13_51 : mm_fp RX12 13 51 (.array .int) true := ⟨RX12, TX12, 117, tyX12, rfl, tyX12_ok, nmX12, rfl, rfl, fun h => by rfl⟩
theorem mp_X12_13_52 : mm_fp RX12 13 52 (.array .int) true := ⟨RX12, TX12, 117, tyX12, rfl, tyX12_ok, nmX12, rfl, rfl, fun h => by rfl⟩
theorem mp_X12_13_53 : mm_fp RX12 13 53 (.array .int) true := ⟨RX12, TX12, 117, tyX12, rfl, tyX12_ok, nmX12, rfl, rfl, fun h => by rfl⟩
theorem mp_X12_13_54 : mm_fp RX12 13 54 (.array .int) true := ⟨RX12, TX12, 117, tyX12, rfl, tyX12_ok, nmX12, rfl, rfl, fun h => by rfl⟩
theorem mp_X12_13_55 : mm_fp RX12 13 55 (.array .int) true := ⟨RX12, TX12, 117, tyX12, rfl, tyX12_ok, nmX12, rfl, rfl, fun h => by rfl⟩
theorem mp_X12_13_56 : mm_fp RX12 13 56 (.array .int) true := ⟨RX12, TX12, 117, tyX12, rfl, tyX12_ok, nmX12, rfl, rfl, fun h => by rfl⟩
theorem mp_X12_13_57 : mm_fp RX12 13 57 (.array .int) true := ⟨RX12, TX12, 117, tyX12, rfl, tyX12_ok, nmX12, rfl, rfl, fun h => by rfl⟩
theorem mp_X12_13_58 : mm_fp RX12 13 58 (.array .int) true := ⟨RX12, TX12, 117, tyX12, rfl, tyX12_ok, nmX12, rfl, rfl, fun h => by rfl⟩
theorem mp_X12_13_59 : mm_fp RX12 13 59 .int false := ⟨RX12, TX12, 117, tyX12, rfl, tyX12_ok, nmX12, rfl, rfl, fun h => by cases h⟩
theorem mp_X12_13_6 : mm_fp RX12 13 6 (.array .int) true := ⟨RX12, TX12, 117, tyX12, rfl, tyX12_ok, nmX12, rfl, rfl, fun h => by rfl⟩
theorem mp_X12_13_60 : mm_fp RX12 13 60 .int false := ⟨RX12, TX12, 117, tyX12, rfl, tyX12_ok, nmX12, rfl, rfl, fun h => by cases h⟩
theorem mp_X12_13_61 : mm_fp RX12 13 61 .int false := ⟨RX12, TX12, 117, tyX12, rfl, tyX12_ok, nmX12, rfl, rfl, fun h => by cases h⟩
theorem mp_X12_13_62 : mm_fp RX12 13 62 (.array .int) true := ⟨RX12, TX12, 117, tyX12, rfl, tyX12_ok, nmX12, rfl, rfl, fun h => by rfl⟩
theorem mp_X12_13_63 : mm_fp RX12 13 63 (.array .int) true := ⟨RX12, TX12, 117, tyX12, rfl, tyX12_ok, nmX12, rfl, rfl, fun h => by rfl⟩
theorem mp_X12_13_64 : mm_fp RX12 13 64 (.array .int) true := ⟨RX12, TX12, 117, tyX12, rfl, tyX12_ok, nmX12, rfl, rfl, fun h => by rfl⟩
theorem mp_X12_13_65 : mm_fp RX12 13 65 (.array .int) true := ⟨RX12, TX12, 117, tyX12, rfl, tyX12_ok, nmX12, rfl, rfl, fun h => by rfl⟩
theorem mp_X12_13_66 : mm_fp RX12 13 66 (.array .int) true := ⟨RX12, TX12, 117, tyX12, rfl, tyX12_ok, nmX12, rfl, rfl, fun h => by rfl⟩
theorem mp_X12_13_67 : mm_fp RX12 13 67 .long false := ⟨RX12, TX12, 117, tyX12, rfl, tyX12_ok, nmX12, rfl, rfl, fun h => by cases h⟩
theorem mp_X12_13_68 : mm_fp RX12 13 68 .long false := ⟨RX12, TX12, 117, tyX12, rfl, tyX12_ok, nmX12, rfl, rfl, fun h => by cases h⟩
theorem mp_X12_13_69 : mm_fp RX12 13 69 .long false := ⟨RX12, TX12, 117, tyX12, rfl, tyX12_ok, nmX12, rfl, rfl, fun h => by cases h⟩
theorem mp_X12_13_7 : mm_fp RX12 13 7 (.array .int) true := ⟨RX12, TX12, 117, tyX12, rfl, tyX12_ok, nmX12, rfl, rfl, fun h => by rfl⟩
theorem mp_X12_13_70 : mm_fp RX12 13 70 .long false := ⟨RX12, TX12, 117, tyX12, rfl, tyX12_ok, nmX12, rfl, rfl, fun h => by cases h⟩
theorem mp_X12_13_71 : mm_fp RX12 13 71 .int false := ⟨RX12, TX12, 117, tyX12, rfl, tyX12_ok, nmX12, rfl, rfl, fun h => by cases h⟩
theorem mp_X12_13_72 : mm_fp RX12 13 72 .int false := ⟨RX12, TX12, 117, tyX12, rfl, tyX12_ok, nmX12, rfl, rfl, fun h => by cases h⟩
theorem mp_X12_13_73 : mm_fp RX12 13 73 .int false := ⟨RX12, TX12, 117, tyX12, rfl, tyX12_ok, nmX12, rfl, rfl, fun h => by cases h⟩
theorem mp_X12_13_74 : mm_fp RX12 13 74 .int false := ⟨RX12, TX12, 117, tyX12, rfl, tyX12_ok, nmX12, rfl, rfl, fun h => by cases h⟩
theorem mp_X12_13_75 : mm_fp RX12 13 75 (.array .int) true := ⟨RX12, TX12, 117, tyX12, rfl, tyX12_ok, nmX12, rfl, rfl, fun h => by rfl⟩
theorem mp_X12_13_76 : mm_fp RX12 13 76 .int false := ⟨RX12, TX12, 117, tyX12, rfl, tyX12_ok, nmX12, rfl, rfl, fun h => by cases h⟩
theorem mp_X12_13_77 : mm_fp RX12 13 77 .int false := ⟨RX12, TX12, 117, tyX12, rfl, tyX12_ok, nmX12, rfl, rfl, fun h => by cases h⟩
theorem mp_X12_13_78 : mm_fp RX12 13 78 (.array .int) true := ⟨RX12, TX12, 117, tyX12, rfl, tyX12_ok, nmX12, rfl, rfl, fun h => by rfl⟩
theorem mp_X12_13_79 : mm_fp RX12 13 79 (.array .int) true := ⟨RX12, TX12, 117, tyX12, rfl, tyX12_ok, nmX12, rfl, rfl, fun h => by rfl⟩
theorem mp_X12_13_8 : mm_fp RX12 13 8 (.array .int) true := ⟨RX12, TX12, 117, tyX12, rfl, tyX12_ok, nmX12, rfl, rfl, fun h => by rfl⟩
theorem mp_X12_13_80 : mm_fp RX12 13 80 (.array .int) true := ⟨RX12, TX12, 117, tyX12, rfl, tyX12_ok, nmX12, rfl, rfl, fun h => by rfl⟩
theorem mp_X12_13_81 : mm_fp RX12 13 81 (.array .int) true := ⟨RX12, TX12, 117, tyX12, rfl, tyX12_ok, nmX12, rfl, rfl, fun h => by rfl⟩
theorem mp_X12_13_82 : mm_fp RX12 13 82 (.array .int) true := ⟨RX12, TX12, 117, tyX12, rfl, tyX12_ok, nmX12, rfl, rfl, fun h => by rfl⟩
theorem mp_X12_13_83 : mm_fp RX12 13 83 (.array .int) true := ⟨RX12, TX12, 117, tyX12, rfl, tyX12_ok, nmX12, rfl, rfl, fun h => by rfl⟩
theorem mp_X12_13_84 : mm_fp RX12 13 84 (.array .int) true := ⟨RX12, TX12, 117, tyX12, rfl, tyX12_ok, nmX12, rfl, rfl, fun h => by rfl⟩
theorem mp_X12_13_85 : mm_fp RX12 13 85 (.array .int) true := ⟨RX12, TX12, 117, tyX12, rfl, tyX12_ok, nmX12, rfl, rfl, fun h => by rfl⟩
theorem mp_X12_13_86 : mm_fp RX12 13 86 (.array .int) true := ⟨RX12, TX12, 117, tyX12, rfl, tyX12_ok, nmX12, rfl, rfl, fun h => by rfl⟩
theorem mp_X12_13_87 : mm_fp RX12 13 87 (.array .boolean) true := ⟨RX12, TX12, 117, tyX12, rfl, tyX12_ok, nmX12, rfl, rfl, fun h => by rfl⟩
theorem mp_X12_13_88 : mm_fp RX12 13 88 .boolean false := ⟨RX12, TX12, 117, tyX12, rfl, tyX12_ok, nmX12, rfl, rfl, fun h => by cases h⟩
theorem mp_X12_13_89 : mm_fp RX12 13 89 .int false := ⟨RX12, TX12, 117, tyX12, rfl, tyX12_ok, nmX12, rfl, rfl, fun h => by cases h⟩
theorem mp_X12_13_9 : mm_fp RX12 13 9 (.array .boolean) true := ⟨RX12, TX12, 117, tyX12, rfl, tyX12_ok, nmX12, rfl, rfl, fun h => by rfl⟩
theorem mp_X12_13_90 : mm_fp RX12 13 90 .int false := ⟨RX12, TX12, 117, tyX12, rfl, tyX12_ok, nmX12, rfl, rfl, fun h => by cases h⟩
theorem mp_X12_13_91 : mm_fp RX12 13 91 .long false := ⟨RX12, TX12, 117, tyX12, rfl, tyX12_ok, nmX12, rfl, rfl, fun h => by cases h⟩
theorem mp_X12_13_92 : mm_fp RX12 13 92 (.array .int) true := ⟨RX12, TX12, 117, tyX12, rfl, tyX12_ok, nmX12, rfl, rfl, fun h => by rfl⟩
theorem mp_X12_13_93 : mm_fp RX12 13 93 (.array .int) true := ⟨RX12, TX12, 117, tyX12, rfl, tyX12_ok, nmX12, rfl, rfl, fun h => by rfl⟩
theorem mp_X12_13_94 : mm_fp RX12 13 94 (.array .int) true := ⟨RX12, TX12, 117, tyX12, rfl, tyX12_ok, nmX12, rfl, rfl, fun h => by rfl⟩
theorem mp_X12_13_95 : mm_fp RX12 13 95 (.array .int) true := ⟨RX12, TX12, 117, tyX12, rfl, tyX12_ok, nmX12, rfl, rfl, fun h => by rfl⟩
theorem mp_X12_13_96 : mm_fp RX12 13 96 (.array .int) true := ⟨RX12, TX12, 117, tyX12, rfl, tyX12_ok, nmX12, rfl, rfl, fun h => by rfl⟩
theorem mp_X12_13_97 : mm_fp RX12 13 97 (.array .boolean) true := ⟨RX12, TX12, 117, tyX12, rfl, tyX12_ok, nmX12, rfl, rfl, fun h => by rfl⟩
theorem mp_X12_13_98 : mm_fp RX12 13 98 (.array .boolean) true := ⟨RX12, TX12, 117, tyX12, rfl, tyX12_ok, nmX12, rfl, rfl, fun h => by rfl⟩
theorem mp_X12_13_99 : mm_fp RX12 13 99 (.array .long) true := ⟨RX12, TX12, 117, tyX12, rfl, tyX12_ok, nmX12, rfl, rfl, fun h => by rfl⟩
theorem mp_Jxc12de_0_0 : mm_fp RJxc12de 0 0 .int false := ⟨RJx4a65c, TJx4a65c, 3, tyJx4a65c, rfl, tyJx4a65c_ok, nmJx4a65c, rfl, rfl, fun h => by cases h⟩
theorem mp_Jx4a65c_0_0 : mm_fp RJx4a65c 0 0 .int false := ⟨RJx4a65c, TJx4a65c, 3, tyJx4a65c, rfl, tyJx4a65c_ok, nmJx4a65c, rfl, rfl, fun h => by cases h⟩
theorem mp_Jx4a65c_0_1 : mm_fp RJx4a65c 0 1 (.array (.object "java/lang/Object")) false := ⟨RJx4a65c, TJx4a65c, 3, tyJx4a65c, rfl, tyJx4a65c_ok, nmJx4a65c, rfl, rfl, fun h => by cases h⟩
theorem mp_Jx4a65c_0_2 : mm_fp RJx4a65c 0 2 .int false := ⟨RJx4a65c, TJx4a65c, 3, tyJx4a65c, rfl, tyJx4a65c_ok, nmJx4a65c, rfl, rfl, fun h => by cases h⟩
theorem mg_J7_86 : mm_gcw RJ7 86 := ⟨(mm_in 582 (by decide +kernel) (by decide +kernel)), (mm_in 2253 (by decide +kernel) (by decide +kernel)), (mm_in 583 (by decide +kernel) (by decide +kernel)), (mm_in 599 (by decide +kernel) (by decide +kernel))⟩
theorem mi_Jx4a65c_init_da8c8 : Cond.instanceMethod yJx4a65c_init_da8c8 ∈ mm_tb ∧ yJx4a65c_init_da8c8.name = "<init>" := ⟨(mm_in 139 (by decide +kernel) (by decide +kernel)), rfl⟩
theorem mi_Jxa1e45_init_da8c8 : Cond.instanceMethod yJxa1e45_init_da8c8 ∈ mm_tb ∧ yJxa1e45_init_da8c8.name = "<init>" := ⟨(mm_in 145 (by decide +kernel) (by decide +kernel)), rfl⟩
theorem mi_Jxc12de_init_da8c8 : Cond.instanceMethod yJxc12de_init_da8c8 ∈ mm_tb ∧ yJxc12de_init_da8c8.name = "<init>" := ⟨(mm_in 142 (by decide +kernel) (by decide +kernel)), rfl⟩
theorem mi_X0_init : Cond.instanceMethod yX0_init ∈ mm_tb ∧ yX0_init.name = "<init>" := ⟨(mm_in 1041 (by decide +kernel) (by decide +kernel)), rfl⟩
theorem mi_X10_init : Cond.instanceMethod yX10_init ∈ mm_tb ∧ yX10_init.name = "<init>" := ⟨(mm_in 272 (by decide +kernel) (by decide +kernel)), rfl⟩
theorem mi_X1_init : Cond.instanceMethod yX1_init ∈ mm_tb ∧ yX1_init.name = "<init>" := ⟨(mm_in 417 (by decide +kernel) (by decide +kernel)), rfl⟩
theorem mi_X2_init : Cond.instanceMethod yX2_init ∈ mm_tb ∧ yX2_init.name = "<init>" := ⟨(mm_in 217 (by decide +kernel) (by decide +kernel)), rfl⟩
theorem mi_X3_init : Cond.instanceMethod yX3_init ∈ mm_tb ∧ yX3_init.name = "<init>" := ⟨(mm_in 389 (by decide +kernel) (by decide +kernel)), rfl⟩
theorem mi_X4_init : Cond.instanceMethod yX4_init ∈ mm_tb ∧ yX4_init.name = "<init>" := ⟨(mm_in 897 (by decide +kernel) (by decide +kernel)), rfl⟩
theorem mi_X5_init : Cond.instanceMethod yX5_init ∈ mm_tb ∧ yX5_init.name = "<init>" := ⟨(mm_in 165 (by decide +kernel) (by decide +kernel)), rfl⟩
theorem mi_X6_init : Cond.instanceMethod yX6_init ∈ mm_tb ∧ yX6_init.name = "<init>" := ⟨(mm_in 708 (by decide +kernel) (by decide +kernel)), rfl⟩
theorem mi_X7_init : Cond.instanceMethod yX7_init ∈ mm_tb ∧ yX7_init.name = "<init>" := ⟨(mm_in 523 (by decide +kernel) (by decide +kernel)), rfl⟩
theorem mi_X8_init : Cond.instanceMethod yX8_init ∈ mm_tb ∧ yX8_init.name = "<init>" := ⟨(mm_in 246 (by decide +kernel) (by decide +kernel)), rfl⟩
theorem mi_X9_init : Cond.instanceMethod yX9_init ∈ mm_tb ∧ yX9_init.name = "<init>" := ⟨(mm_in 333 (by decide +kernel) (by decide +kernel)), rfl⟩
theorem mv_J0_charAt_5068e : Cond.instanceMethod yJ0_charAt_5068e ∈ mm_tb ∧ Cond.selects "java/lang/String" yJ0_charAt_5068e yJ0_charAt_5068e ∈ mm_tb := ⟨(mm_in 805 (by decide +kernel) (by decide +kernel)), (mm_in 806 (by decide +kernel) (by decide +kernel))⟩
theorem mv_J0_coder_7d493 : Cond.instanceMethod yJ0_coder_7d493 ∈ mm_tb ∧ Cond.selects "java/lang/String" yJ0_coder_7d493 yJ0_coder_7d493 ∈ mm_tb := ⟨(mm_in 1895 (by decide +kernel) (by decide +kernel)), (mm_in 1896 (by decide +kernel) (by decide +kernel))⟩
theorem mv_J0_isLatin1_aae02 : Cond.instanceMethod yJ0_isLatin1_aae02 ∈ mm_tb ∧ Cond.selects "java/lang/String" yJ0_isLatin1_aae02 yJ0_isLatin1_aae02 ∈ mm_tb := ⟨(mm_in 809 (by decide +kernel) (by decide +kernel)), (mm_in 810 (by decide +kernel) (by decide +kernel))⟩
theorem mv_J0_length_8abf5 : Cond.instanceMethod yJ0_length_8abf5 ∈ mm_tb ∧ Cond.selects "java/lang/String" yJ0_length_8abf5 yJ0_length_8abf5 ∈ mm_tb := ⟨(mm_in 1891 (by decide +kernel) (by decide +kernel)), (mm_in 1892 (by decide +kernel) (by decide +kernel))⟩
theorem mv_Jx4a65c_add_72be8 : Cond.instanceMethod yJx4a65c_add_72be8 ∈ mm_tb ∧ Cond.selects RJx4a65c yJx4a65c_add_72be8 yJx4a65c_add_72be8 ∈ mm_tb := ⟨(mm_in 559 (by decide +kernel) (by decide +kernel)), (mm_in 0 (by decide +kernel) (by decide +kernel))⟩
theorem mv_Jx4a65c_add_9ea2d : Cond.instanceMethod yJx4a65c_add_9ea2d ∈ mm_tb ∧ Cond.selects RJx4a65c yJx4a65c_add_9ea2d yJx4a65c_add_9ea2d ∈ mm_tb := ⟨(mm_in 554 (by decide +kernel) (by decide +kernel)), (mm_in 555 (by decide +kernel) (by decide +kernel))⟩
theorem mv_Jx4a65c_elementData_915e3 : Cond.instanceMethod yJx4a65c_elementData_915e3 ∈ mm_tb ∧ Cond.selects RJx4a65c yJx4a65c_elementData_915e3 yJx4a65c_elementData_915e3 ∈ mm_tb := ⟨(mm_in 633 (by decide +kernel) (by decide +kernel)), (mm_in 634 (by decide +kernel) (by decide +kernel))⟩
theorem mv_Jx4a65c_get_915e3 : Cond.instanceMethod yJx4a65c_get_915e3 ∈ mm_tb ∧ Cond.selects RJx4a65c yJx4a65c_get_915e3 yJx4a65c_get_915e3 ∈ mm_tb := ⟨(mm_in 623 (by decide +kernel) (by decide +kernel)), (mm_in 624 (by decide +kernel) (by decide +kernel))⟩
theorem mv_Jx4a65c_grow_92f84 : Cond.instanceMethod yJx4a65c_grow_92f84 ∈ mm_tb ∧ Cond.selects RJx4a65c yJx4a65c_grow_92f84 yJx4a65c_grow_92f84 ∈ mm_tb := ⟨(mm_in 567 (by decide +kernel) (by decide +kernel)), (mm_in 2 (by decide +kernel) (by decide +kernel))⟩
theorem mv_Jx4a65c_grow_d5877 : Cond.instanceMethod yJx4a65c_grow_d5877 ∈ mm_tb ∧ Cond.selects RJx4a65c yJx4a65c_grow_d5877 yJx4a65c_grow_d5877 ∈ mm_tb := ⟨(mm_in 563 (by decide +kernel) (by decide +kernel)), (mm_in 1 (by decide +kernel) (by decide +kernel))⟩
theorem mv_Jx4a65c_size_8abf5 : Cond.instanceMethod yJx4a65c_size_8abf5 ∈ mm_tb ∧ Cond.selects RJx4a65c yJx4a65c_size_8abf5 yJx4a65c_size_8abf5 ∈ mm_tb := ⟨(mm_in 513 (by decide +kernel) (by decide +kernel)), (mm_in 514 (by decide +kernel) (by decide +kernel))⟩
theorem mv_X0_addSurety : Cond.instanceMethod yX0_addSurety ∈ mm_tb ∧ Cond.selects RX0 yX0_addSurety yX0_addSurety ∈ mm_tb := ⟨(mm_in 1117 (by decide +kernel) (by decide +kernel)), (mm_in 1118 (by decide +kernel) (by decide +kernel))⟩
theorem mv_X0_allClaims : Cond.instanceMethod yX0_allClaims ∈ mm_tb ∧ Cond.selects RX0 yX0_allClaims yX0_allClaims ∈ mm_tb := ⟨(mm_in 745 (by decide +kernel) (by decide +kernel)), (mm_in 746 (by decide +kernel) (by decide +kernel))⟩
theorem mv_X0_hasSurety : Cond.instanceMethod yX0_hasSurety ∈ mm_tb ∧ Cond.selects RX0 yX0_hasSurety yX0_hasSurety ∈ mm_tb := ⟨(mm_in 1113 (by decide +kernel) (by decide +kernel)), (mm_in 1114 (by decide +kernel) (by decide +kernel))⟩
theorem mv_X0_passTo : Cond.instanceMethod yX0_passTo ∈ mm_tb ∧ Cond.selects RX0 yX0_passTo yX0_passTo ∈ mm_tb := ⟨(mm_in 698 (by decide +kernel) (by decide +kernel)), (mm_in 699 (by decide +kernel) (by decide +kernel))⟩
theorem mv_X10_addClosing : Cond.instanceMethod yX10_addClosing ∈ mm_tb ∧ Cond.selects RX10 yX10_addClosing yX10_addClosing ∈ mm_tb := ⟨(mm_in 1016 (by decide +kernel) (by decide +kernel)), (mm_in 1017 (by decide +kernel) (by decide +kernel))⟩
theorem mv_X10_addNews : Cond.instanceMethod yX10_addNews ∈ mm_tb ∧ Cond.selects RX10 yX10_addNews yX10_addNews ∈ mm_tb := ⟨(mm_in 1266 (by decide +kernel) (by decide +kernel)), (mm_in 1267 (by decide +kernel) (by decide +kernel))⟩
theorem mv_X10_addShip : Cond.instanceMethod yX10_addShip ∈ mm_tb ∧ Cond.selects RX10 yX10_addShip yX10_addShip ∈ mm_tb := ⟨(mm_in 1258 (by decide +kernel) (by decide +kernel)), (mm_in 1259 (by decide +kernel) (by decide +kernel))⟩
theorem mv_X10_closedBy : Cond.instanceMethod yX10_closedBy ∈ mm_tb ∧ Cond.selects RX10 yX10_closedBy yX10_closedBy ∈ mm_tb := ⟨(mm_in 969 (by decide +kernel) (by decide +kernel)), (mm_in 970 (by decide +kernel) (by decide +kernel))⟩
theorem mv_X10_closureTold : Cond.instanceMethod yX10_closureTold ∈ mm_tb ∧ Cond.selects RX10 yX10_closureTold yX10_closureTold ∈ mm_tb := ⟨(mm_in 1346 (by decide +kernel) (by decide +kernel)), (mm_in 1347 (by decide +kernel) (by decide +kernel))⟩
theorem mv_X10_comingOf : Cond.instanceMethod yX10_comingOf ∈ mm_tb ∧ Cond.selects RX10 yX10_comingOf yX10_comingOf ∈ mm_tb := ⟨(mm_in 1295 (by decide +kernel) (by decide +kernel)), (mm_in 1296 (by decide +kernel) (by decide +kernel))⟩
theorem mv_X10_covers : Cond.instanceMethod yX10_covers ∈ mm_tb ∧ Cond.selects RX10 yX10_covers yX10_covers ∈ mm_tb := ⟨(mm_in 974 (by decide +kernel) (by decide +kernel)), (mm_in 35 (by decide +kernel) (by decide +kernel))⟩
theorem mv_X10_highPrice : Cond.instanceMethod yX10_highPrice ∈ mm_tb ∧ Cond.selects RX10 yX10_highPrice yX10_highPrice ∈ mm_tb := ⟨(mm_in 1274 (by decide +kernel) (by decide +kernel)), (mm_in 1275 (by decide +kernel) (by decide +kernel))⟩
theorem mv_X10_latestNews : Cond.instanceMethod yX10_latestNews ∈ mm_tb ∧ Cond.selects RX10 yX10_latestNews yX10_latestNews ∈ mm_tb := ⟨(mm_in 982 (by decide +kernel) (by decide +kernel)), (mm_in 36 (by decide +kernel) (by decide +kernel))⟩
theorem mv_X10_lowPrice : Cond.instanceMethod yX10_lowPrice ∈ mm_tb ∧ Cond.selects RX10 yX10_lowPrice yX10_lowPrice ∈ mm_tb := ⟨(mm_in 977 (by decide +kernel) (by decide +kernel)), (mm_in 978 (by decide +kernel) (by decide +kernel))⟩
theorem mv_X10_nextOpenShip : Cond.instanceMethod yX10_nextOpenShip ∈ mm_tb ∧ Cond.selects RX10 yX10_nextOpenShip yX10_nextOpenShip ∈ mm_tb := ⟨(mm_in 1291 (by decide +kernel) (by decide +kernel)), (mm_in 1292 (by decide +kernel) (by decide +kernel))⟩
theorem mv_X10_readClosing : Cond.instanceMethod yX10_readClosing ∈ mm_tb ∧ Cond.selects RX10 yX10_readClosing yX10_readClosing ∈ mm_tb := ⟨(mm_in 1024 (by decide +kernel) (by decide +kernel)), (mm_in 1025 (by decide +kernel) (by decide +kernel))⟩
theorem mv_X11_allCoins : Cond.instanceMethod yX11_allCoins ∈ mm_tb ∧ Cond.selects RX11 yX11_allCoins yX11_allCoins ∈ mm_tb := ⟨(mm_in 1452 (by decide +kernel) (by decide +kernel)), (mm_in 58 (by decide +kernel) (by decide +kernel))⟩
theorem mv_X11_bargainAt : Cond.instanceMethod yX11_bargainAt ∈ mm_tb ∧ Cond.selects RX11 yX11_bargainAt yX11_bargainAt ∈ mm_tb := ⟨(mm_in 1106 (by decide +kernel) (by decide +kernel)), (mm_in 40 (by decide +kernel) (by decide +kernel))⟩
theorem mv_X11_callSurety : Cond.instanceMethod yX11_callSurety ∈ mm_tb ∧ Cond.selects RX11 yX11_callSurety yX11_callSurety ∈ mm_tb := ⟨(mm_in 1134 (by decide +kernel) (by decide +kernel)), (mm_in 41 (by decide +kernel) (by decide +kernel))⟩
theorem mv_X11_elderOn : Cond.instanceMethod yX11_elderOn ∈ mm_tb ∧ Cond.selects RX11 yX11_elderOn yX11_elderOn ∈ mm_tb := ⟨(mm_in 966 (by decide +kernel) (by decide +kernel)), (mm_in 34 (by decide +kernel) (by decide +kernel))⟩
theorem mv_X11_give : Cond.instanceMethod yX11_give ∈ mm_tb ∧ Cond.selects RX11 yX11_give yX11_give ∈ mm_tb := ⟨(mm_in 661 (by decide +kernel) (by decide +kernel)), (mm_in 7 (by decide +kernel) (by decide +kernel))⟩
theorem mv_X11_heirOf : Cond.instanceMethod yX11_heirOf ∈ mm_tb ∧ Cond.selects RX11 yX11_heirOf yX11_heirOf ∈ mm_tb := ⟨(mm_in 678 (by decide +kernel) (by decide +kernel)), (mm_in 10 (by decide +kernel) (by decide +kernel))⟩
theorem mv_X11_judge : Cond.instanceMethod yX11_judge ∈ mm_tb ∧ Cond.selects RX11 yX11_judge yX11_judge ∈ mm_tb := ⟨(mm_in 962 (by decide +kernel) (by decide +kernel)), (mm_in 33 (by decide +kernel) (by decide +kernel))⟩
theorem mv_X11_leastMan : Cond.instanceMethod yX11_leastMan ∈ mm_tb ∧ Cond.selects RX11 yX11_leastMan yX11_leastMan ∈ mm_tb := ⟨(mm_in 682 (by decide +kernel) (by decide +kernel)), (mm_in 11 (by decide +kernel) (by decide +kernel))⟩
theorem mv_X11_leaveDues : Cond.instanceMethod yX11_leaveDues ∈ mm_tb ∧ Cond.selects RX11 yX11_leaveDues yX11_leaveDues ∈ mm_tb := ⟨(mm_in 695 (by decide +kernel) (by decide +kernel)), (mm_in 13 (by decide +kernel) (by decide +kernel))⟩
theorem mv_X11_leaveLots : Cond.instanceMethod yX11_leaveLots ∈ mm_tb ∧ Cond.selects RX11 yX11_leaveLots yX11_leaveLots ∈ mm_tb := ⟨(mm_in 690 (by decide +kernel) (by decide +kernel)), (mm_in 12 (by decide +kernel) (by decide +kernel))⟩
theorem mv_X11_manThere : Cond.instanceMethod yX11_manThere ∈ mm_tb ∧ Cond.selects RX11 yX11_manThere yX11_manThere ∈ mm_tb := ⟨(mm_in 620 (by decide +kernel) (by decide +kernel)), (mm_in 3 (by decide +kernel) (by decide +kernel))⟩
theorem mv_X11_nextDebt : Cond.instanceMethod yX11_nextDebt ∈ mm_tb ∧ Cond.selects RX11 yX11_nextDebt yX11_nextDebt ∈ mm_tb := ⟨(mm_in 646 (by decide +kernel) (by decide +kernel)), (mm_in 5 (by decide +kernel) (by decide +kernel))⟩
theorem mv_X11_owedBy : Cond.instanceMethod yX11_owedBy ∈ mm_tb ∧ Cond.selects RX11 yX11_owedBy yX11_owedBy ∈ mm_tb := ⟨(mm_in 742 (by decide +kernel) (by decide +kernel)), (mm_in 14 (by decide +kernel) (by decide +kernel))⟩
theorem mv_X11_payBargainsOf : Cond.instanceMethod yX11_payBargainsOf ∈ mm_tb ∧ Cond.selects RX11 yX11_payBargainsOf yX11_payBargainsOf ∈ mm_tb := ⟨(mm_in 642 (by decide +kernel) (by decide +kernel)), (mm_in 4 (by decide +kernel) (by decide +kernel))⟩
theorem mv_X11_payClaim : Cond.instanceMethod yX11_payClaim ∈ mm_tb ∧ Cond.selects RX11 yX11_payClaim yX11_payClaim ∈ mm_tb := ⟨(mm_in 674 (by decide +kernel) (by decide +kernel)), (mm_in 9 (by decide +kernel) (by decide +kernel))⟩
theorem mv_X11_payClaimsOf : Cond.instanceMethod yX11_payClaimsOf ∈ mm_tb ∧ Cond.selects RX11 yX11_payClaimsOf yX11_payClaimsOf ∈ mm_tb := ⟨(mm_in 670 (by decide +kernel) (by decide +kernel)), (mm_in 8 (by decide +kernel) (by decide +kernel))⟩
theorem mv_X11_payFine : Cond.instanceMethod yX11_payFine ∈ mm_tb ∧ Cond.selects RX11 yX11_payFine yX11_payFine ∈ mm_tb := ⟨(mm_in 1098 (by decide +kernel) (by decide +kernel)), (mm_in 39 (by decide +kernel) (by decide +kernel))⟩
theorem mv_X11_payOwed : Cond.instanceMethod yX11_payOwed ∈ mm_tb ∧ Cond.selects RX11 yX11_payOwed yX11_payOwed ∈ mm_tb := ⟨(mm_in 651 (by decide +kernel) (by decide +kernel)), (mm_in 6 (by decide +kernel) (by decide +kernel))⟩
theorem mv_X11_refusal : Cond.instanceMethod yX11_refusal ∈ mm_tb ∧ Cond.selects RX11 yX11_refusal yX11_refusal ∈ mm_tb := ⟨(mm_in 958 (by decide +kernel) (by decide +kernel)), (mm_in 32 (by decide +kernel) (by decide +kernel))⟩
theorem mv_X11_splitLot : Cond.instanceMethod yX11_splitLot ∈ mm_tb ∧ Cond.selects RX11 yX11_splitLot yX11_splitLot ∈ mm_tb := ⟨(mm_in 1037 (by decide +kernel) (by decide +kernel)), (mm_in 38 (by decide +kernel) (by decide +kernel))⟩
theorem mv_X11_tellPlannerPrices : Cond.instanceMethod yX11_tellPlannerPrices ∈ mm_tb ∧ Cond.selects RX11 yX11_tellPlannerPrices yX11_tellPlannerPrices ∈ mm_tb := ⟨(mm_in 1305 (by decide +kernel) (by decide +kernel)), (mm_in 47 (by decide +kernel) (by decide +kernel))⟩
theorem mv_X12_ands : Cond.instanceMethod yX12_ands ∈ mm_tb ∧ Cond.selects RX12 yX12_ands yX12_ands ∈ mm_tb := ⟨(mm_in 1986 (by decide +kernel) (by decide +kernel)), (mm_in 83 (by decide +kernel) (by decide +kernel))⟩
theorem mv_X12_asked : Cond.instanceMethod yX12_asked ∈ mm_tb ∧ Cond.selects RX12 yX12_asked yX12_asked ∈ mm_tb := ⟨(mm_in 2029 (by decide +kernel) (by decide +kernel)), (mm_in 86 (by decide +kernel) (by decide +kernel))⟩
theorem mv_X12_bars : Cond.instanceMethod yX12_bars ∈ mm_tb ∧ Cond.selects RX12 yX12_bars yX12_bars ∈ mm_tb := ⟨(mm_in 2143 (by decide +kernel) (by decide +kernel)), (mm_in 97 (by decide +kernel) (by decide +kernel))⟩
theorem mv_X12_blanks : Cond.instanceMethod yX12_blanks ∈ mm_tb ∧ Cond.selects RX12 yX12_blanks yX12_blanks ∈ mm_tb := ⟨(mm_in 1879 (by decide +kernel) (by decide +kernel)), (mm_in 66 (by decide +kernel) (by decide +kernel))⟩
theorem mv_X12_claims : Cond.instanceMethod yX12_claims ∈ mm_tb ∧ Cond.selects RX12 yX12_claims yX12_claims ∈ mm_tb := ⟨(mm_in 2107 (by decide +kernel) (by decide +kernel)), (mm_in 94 (by decide +kernel) (by decide +kernel))⟩
theorem mv_X12_clause : Cond.instanceMethod yX12_clause ∈ mm_tb ∧ Cond.selects RX12 yX12_clause yX12_clause ∈ mm_tb := ⟨(mm_in 1871 (by decide +kernel) (by decide +kernel)), (mm_in 64 (by decide +kernel) (by decide +kernel))⟩
theorem mv_X12_comes : Cond.instanceMethod yX12_comes ∈ mm_tb ∧ Cond.selects RX12 yX12_comes yX12_comes ∈ mm_tb := ⟨(mm_in 1843 (by decide +kernel) (by decide +kernel)), (mm_in 61 (by decide +kernel) (by decide +kernel))⟩
theorem mv_X12_compares : Cond.instanceMethod yX12_compares ∈ mm_tb ∧ Cond.selects RX12 yX12_compares yX12_compares ∈ mm_tb := ⟨(mm_in 1976 (by decide +kernel) (by decide +kernel)), (mm_in 81 (by decide +kernel) (by decide +kernel))⟩
theorem mv_X12_counts : Cond.instanceMethod yX12_counts ∈ mm_tb ∧ Cond.selects RX12 yX12_counts yX12_counts ∈ mm_tb := ⟨(mm_in 1936 (by decide +kernel) (by decide +kernel)), (mm_in 76 (by decide +kernel) (by decide +kernel))⟩
theorem mv_X12_deeper : Cond.instanceMethod yX12_deeper ∈ mm_tb ∧ Cond.selects RX12 yX12_deeper yX12_deeper ∈ mm_tb := ⟨(mm_in 1924 (by decide +kernel) (by decide +kernel)), (mm_in 73 (by decide +kernel) (by decide +kernel))⟩
theorem mv_X12_elder : Cond.instanceMethod yX12_elder ∈ mm_tb ∧ Cond.selects RX12 yX12_elder yX12_elder ∈ mm_tb := ⟨(mm_in 2036 (by decide +kernel) (by decide +kernel)), (mm_in 2037 (by decide +kernel) (by decide +kernel))⟩
theorem mv_X12_emits : Cond.instanceMethod yX12_emits ∈ mm_tb ∧ Cond.selects RX12 yX12_emits yX12_emits ∈ mm_tb := ⟨(mm_in 1940 (by decide +kernel) (by decide +kernel)), (mm_in 77 (by decide +kernel) (by decide +kernel))⟩
theorem mv_X12_fails : Cond.instanceMethod yX12_fails ∈ mm_tb ∧ Cond.selects RX12 yX12_fails yX12_fails ∈ mm_tb := ⟨(mm_in 1903 (by decide +kernel) (by decide +kernel)), (mm_in 69 (by decide +kernel) (by decide +kernel))⟩
theorem mv_X12_gathers : Cond.instanceMethod yX12_gathers ∈ mm_tb ∧ Cond.selects RX12 yX12_gathers yX12_gathers ∈ mm_tb := ⟨(mm_in 2173 (by decide +kernel) (by decide +kernel)), (mm_in 98 (by decide +kernel) (by decide +kernel))⟩
theorem mv_X12_goes : Cond.instanceMethod yX12_goes ∈ mm_tb ∧ Cond.selects RX12 yX12_goes yX12_goes ∈ mm_tb := ⟨(mm_in 2095 (by decide +kernel) (by decide +kernel)), (mm_in 93 (by decide +kernel) (by decide +kernel))⟩
theorem mv_X12_hasFact : Cond.instanceMethod yX12_hasFact ∈ mm_tb ∧ Cond.selects RX12 yX12_hasFact yX12_hasFact ∈ mm_tb := ⟨(mm_in 1980 (by decide +kernel) (by decide +kernel)), (mm_in 82 (by decide +kernel) (by decide +kernel))⟩
theorem mv_X12_hasValue : Cond.instanceMethod yX12_hasValue ∈ mm_tb ∧ Cond.selects RX12 yX12_hasValue yX12_hasValue ∈ mm_tb := ⟨(mm_in 1961 (by decide +kernel) (by decide +kernel)), (mm_in 78 (by decide +kernel) (by decide +kernel))⟩
theorem mv_X12_holds : Cond.instanceMethod yX12_holds ∈ mm_tb ∧ Cond.selects RX12 yX12_holds yX12_holds ∈ mm_tb := ⟨(mm_in 2139 (by decide +kernel) (by decide +kernel)), (mm_in 96 (by decide +kernel) (by decide +kernel))⟩
theorem mv_X12_inForce : Cond.instanceMethod yX12_inForce ∈ mm_tb ∧ Cond.selects RX12 yX12_inForce yX12_inForce ∈ mm_tb := ⟨(mm_in 2005 (by decide +kernel) (by decide +kernel)), (mm_in 84 (by decide +kernel) (by decide +kernel))⟩
theorem mv_X12_is : Cond.instanceMethod yX12_is ∈ mm_tb ∧ Cond.selects RX12 yX12_is yX12_is ∈ mm_tb := ⟨(mm_in 1888 (by decide +kernel) (by decide +kernel)), (mm_in 68 (by decide +kernel) (by decide +kernel))⟩
theorem mv_X12_isBargain : Cond.instanceMethod yX12_isBargain ∈ mm_tb ∧ Cond.selects RX12 yX12_isBargain yX12_isBargain ∈ mm_tb := ⟨(mm_in 2075 (by decide +kernel) (by decide +kernel)), (mm_in 91 (by decide +kernel) (by decide +kernel))⟩
theorem mv_X12_isLot : Cond.instanceMethod yX12_isLot ∈ mm_tb ∧ Cond.selects RX12 yX12_isLot yX12_isLot ∈ mm_tb := ⟨(mm_in 1851 (by decide +kernel) (by decide +kernel)), (mm_in 62 (by decide +kernel) (by decide +kernel))⟩
theorem mv_X12_isMan : Cond.instanceMethod yX12_isMan ∈ mm_tb ∧ Cond.selects RX12 yX12_isMan yX12_isMan ∈ mm_tb := ⟨(mm_in 1835 (by decide +kernel) (by decide +kernel)), (mm_in 60 (by decide +kernel) (by decide +kernel))⟩
theorem mv_X12_isShutTo : Cond.instanceMethod yX12_isShutTo ∈ mm_tb ∧ Cond.selects RX12 yX12_isShutTo yX12_isShutTo ∈ mm_tb := ⟨(mm_in 2048 (by decide +kernel) (by decide +kernel)), (mm_in 89 (by decide +kernel) (by decide +kernel))⟩
theorem mv_X12_isThere : Cond.instanceMethod yX12_isThere ∈ mm_tb ∧ Cond.selects RX12 yX12_isThere yX12_isThere ∈ mm_tb := ⟨(mm_in 1831 (by decide +kernel) (by decide +kernel)), (mm_in 59 (by decide +kernel) (by decide +kernel))⟩
theorem mv_X12_isTrue : Cond.instanceMethod yX12_isTrue ∈ mm_tb ∧ Cond.selects RX12 yX12_isTrue yX12_isTrue ∈ mm_tb := ⟨(mm_in 2056 (by decide +kernel) (by decide +kernel)), (mm_in 90 (by decide +kernel) (by decide +kernel))⟩
theorem mv_X12_number : Cond.instanceMethod yX12_number ∈ mm_tb ∧ Cond.selects RX12 yX12_number yX12_number ∈ mm_tb := ⟨(mm_in 1914 (by decide +kernel) (by decide +kernel)), (mm_in 71 (by decide +kernel) (by decide +kernel))⟩
theorem mv_X12_opens : Cond.instanceMethod yX12_opens ∈ mm_tb ∧ Cond.selects RX12 yX12_opens yX12_opens ∈ mm_tb := ⟨(mm_in 1928 (by decide +kernel) (by decide +kernel)), (mm_in 74 (by decide +kernel) (by decide +kernel))⟩
theorem mv_X12_owes : Cond.instanceMethod yX12_owes ∈ mm_tb ∧ Cond.selects RX12 yX12_owes yX12_owes ∈ mm_tb := ⟨(mm_in 2044 (by decide +kernel) (by decide +kernel)), (mm_in 88 (by decide +kernel) (by decide +kernel))⟩
theorem mv_X12_pairs : Cond.instanceMethod yX12_pairs ∈ mm_tb ∧ Cond.selects RX12 yX12_pairs yX12_pairs ∈ mm_tb := ⟨(mm_in 2221 (by decide +kernel) (by decide +kernel)), (mm_in 100 (by decide +kernel) (by decide +kernel))⟩
theorem mv_X12_pays : Cond.instanceMethod yX12_pays ∈ mm_tb ∧ Cond.selects RX12 yX12_pays yX12_pays ∈ mm_tb := ⟨(mm_in 2091 (by decide +kernel) (by decide +kernel)), (mm_in 92 (by decide +kernel) (by decide +kernel))⟩
theorem mv_X12_price : Cond.instanceMethod yX12_price ∈ mm_tb ∧ Cond.selects RX12 yX12_price yX12_price ∈ mm_tb := ⟨(mm_in 2051 (by decide +kernel) (by decide +kernel)), (mm_in 2052 (by decide +kernel) (by decide +kernel))⟩
theorem mv_X12_put : Cond.instanceMethod yX12_put ∈ mm_tb ∧ Cond.selects RX12 yX12_put yX12_put ∈ mm_tb := ⟨(mm_in 1859 (by decide +kernel) (by decide +kernel)), (mm_in 63 (by decide +kernel) (by decide +kernel))⟩
theorem mv_X12_shuts : Cond.instanceMethod yX12_shuts ∈ mm_tb ∧ Cond.selects RX12 yX12_shuts yX12_shuts ∈ mm_tb := ⟨(mm_in 2021 (by decide +kernel) (by decide +kernel)), (mm_in 85 (by decide +kernel) (by decide +kernel))⟩
theorem mv_X12_sign : Cond.instanceMethod yX12_sign ∈ mm_tb ∧ Cond.selects RX12 yX12_sign yX12_sign ∈ mm_tb := ⟨(mm_in 1907 (by decide +kernel) (by decide +kernel)), (mm_in 70 (by decide +kernel) (by decide +kernel))⟩
theorem mv_X12_spans : Cond.instanceMethod yX12_spans ∈ mm_tb ∧ Cond.selects RX12 yX12_spans yX12_spans ∈ mm_tb := ⟨(mm_in 2135 (by decide +kernel) (by decide +kernel)), (mm_in 95 (by decide +kernel) (by decide +kernel))⟩
theorem mv_X12_sums : Cond.instanceMethod yX12_sums ∈ mm_tb ∧ Cond.selects RX12 yX12_sums yX12_sums ∈ mm_tb := ⟨(mm_in 1965 (by decide +kernel) (by decide +kernel)), (mm_in 79 (by decide +kernel) (by decide +kernel))⟩
theorem mv_X12_top : Cond.instanceMethod yX12_top ∈ mm_tb ∧ Cond.selects RX12 yX12_top yX12_top ∈ mm_tb := ⟨(mm_in 1969 (by decide +kernel) (by decide +kernel)), (mm_in 80 (by decide +kernel) (by decide +kernel))⟩
theorem mv_X12_value : Cond.instanceMethod yX12_value ∈ mm_tb ∧ Cond.selects RX12 yX12_value yX12_value ∈ mm_tb := ⟨(mm_in 1932 (by decide +kernel) (by decide +kernel)), (mm_in 75 (by decide +kernel) (by decide +kernel))⟩
theorem mv_X12_verb : Cond.instanceMethod yX12_verb ∈ mm_tb ∧ Cond.selects RX12 yX12_verb yX12_verb ∈ mm_tb := ⟨(mm_in 1875 (by decide +kernel) (by decide +kernel)), (mm_in 65 (by decide +kernel) (by decide +kernel))⟩
theorem mv_X12_wantsFact : Cond.instanceMethod yX12_wantsFact ∈ mm_tb ∧ Cond.selects RX12 yX12_wantsFact yX12_wantsFact ∈ mm_tb := ⟨(mm_in 1919 (by decide +kernel) (by decide +kernel)), (mm_in 72 (by decide +kernel) (by decide +kernel))⟩
theorem mv_X12_weighs : Cond.instanceMethod yX12_weighs ∈ mm_tb ∧ Cond.selects RX12 yX12_weighs yX12_weighs ∈ mm_tb := ⟨(mm_in 2033 (by decide +kernel) (by decide +kernel)), (mm_in 87 (by decide +kernel) (by decide +kernel))⟩
theorem mv_X12_wordEnd : Cond.instanceMethod yX12_wordEnd ∈ mm_tb ∧ Cond.selects RX12 yX12_wordEnd yX12_wordEnd ∈ mm_tb := ⟨(mm_in 1883 (by decide +kernel) (by decide +kernel)), (mm_in 67 (by decide +kernel) (by decide +kernel))⟩
theorem mv_X12_worth : Cond.instanceMethod yX12_worth ∈ mm_tb ∧ Cond.selects RX12 yX12_worth yX12_worth ∈ mm_tb := ⟨(mm_in 2201 (by decide +kernel) (by decide +kernel)), (mm_in 99 (by decide +kernel) (by decide +kernel))⟩
theorem mv_X1_add : Cond.instanceMethod yX1_add ∈ mm_tb ∧ Cond.selects RX1 yX1_add yX1_add ∈ mm_tb := ⟨(mm_in 1394 (by decide +kernel) (by decide +kernel)), (mm_in 1395 (by decide +kernel) (by decide +kernel))⟩
theorem mv_X1_bestWorth : Cond.instanceMethod yX1_bestWorth ∈ mm_tb ∧ Cond.selects RX1 yX1_bestWorth yX1_bestWorth ∈ mm_tb := ⟨(mm_in 1431 (by decide +kernel) (by decide +kernel)), (mm_in 55 (by decide +kernel) (by decide +kernel))⟩
theorem mv_X1_coinsBetween : Cond.instanceMethod yX1_coinsBetween ∈ mm_tb ∧ Cond.selects RX1 yX1_coinsBetween yX1_coinsBetween ∈ mm_tb := ⟨(mm_in 1419 (by decide +kernel) (by decide +kernel)), (mm_in 53 (by decide +kernel) (by decide +kernel))⟩
theorem mv_X1_daysBetween : Cond.instanceMethod yX1_daysBetween ∈ mm_tb ∧ Cond.selects RX1 yX1_daysBetween yX1_daysBetween ∈ mm_tb := ⟨(mm_in 1426 (by decide +kernel) (by decide +kernel)), (mm_in 54 (by decide +kernel) (by decide +kernel))⟩
theorem mv_X1_empty : Cond.instanceMethod yX1_empty ∈ mm_tb ∧ Cond.selects RX1 yX1_empty yX1_empty ∈ mm_tb := ⟨(mm_in 1402 (by decide +kernel) (by decide +kernel)), (mm_in 1403 (by decide +kernel) (by decide +kernel))⟩
theorem mv_X1_findPairs : Cond.instanceMethod yX1_findPairs ∈ mm_tb ∧ Cond.selects RX1 yX1_findPairs yX1_findPairs ∈ mm_tb := ⟨(mm_in 1410 (by decide +kernel) (by decide +kernel)), (mm_in 1411 (by decide +kernel) (by decide +kernel))⟩
theorem mv_X1_firstPartner : Cond.instanceMethod yX1_firstPartner ∈ mm_tb ∧ Cond.selects RX1 yX1_firstPartner yX1_firstPartner ∈ mm_tb := ⟨(mm_in 1440 (by decide +kernel) (by decide +kernel)), (mm_in 57 (by decide +kernel) (by decide +kernel))⟩
theorem mv_X1_keepFirstBest : Cond.instanceMethod yX1_keepFirstBest ∈ mm_tb ∧ Cond.selects RX1 yX1_keepFirstBest yX1_keepFirstBest ∈ mm_tb := ⟨(mm_in 1436 (by decide +kernel) (by decide +kernel)), (mm_in 56 (by decide +kernel) (by decide +kernel))⟩
theorem mv_X1_weighPairs : Cond.instanceMethod yX1_weighPairs ∈ mm_tb ∧ Cond.selects RX1 yX1_weighPairs yX1_weighPairs ∈ mm_tb := ⟨(mm_in 1415 (by decide +kernel) (by decide +kernel)), (mm_in 52 (by decide +kernel) (by decide +kernel))⟩
theorem mv_X2_decide : Cond.instanceMethod yX2_decide ∈ mm_tb ∧ Cond.selects RX2 yX2_decide yX2_decide ∈ mm_tb := ⟨(mm_in 985 (by decide +kernel) (by decide +kernel)), (mm_in 986 (by decide +kernel) (by decide +kernel))⟩
theorem mv_X2_inForce : Cond.instanceMethod yX2_inForce ∈ mm_tb ∧ Cond.selects RX2 yX2_inForce yX2_inForce ∈ mm_tb := ⟨(mm_in 949 (by decide +kernel) (by decide +kernel)), (mm_in 950 (by decide +kernel) (by decide +kernel))⟩
theorem mv_X2_lawAt : Cond.instanceMethod yX2_lawAt ∈ mm_tb ∧ Cond.selects RX2 yX2_lawAt yX2_lawAt ∈ mm_tb := ⟨(mm_in 931 (by decide +kernel) (by decide +kernel)), (mm_in 932 (by decide +kernel) (by decide +kernel))⟩
theorem mv_X3_findHolding : Cond.instanceMethod yX3_findHolding ∈ mm_tb ∧ Cond.selects RX3 yX3_findHolding yX3_findHolding ∈ mm_tb := ⟨(mm_in 1367 (by decide +kernel) (by decide +kernel)), (mm_in 1368 (by decide +kernel) (by decide +kernel))⟩
theorem mv_X3_isStable : Cond.instanceMethod yX3_isStable ∈ mm_tb ∧ Cond.selects RX3 yX3_isStable yX3_isStable ∈ mm_tb := ⟨(mm_in 1373 (by decide +kernel) (by decide +kernel)), (mm_in 50 (by decide +kernel) (by decide +kernel))⟩
theorem mv_X3_profit : Cond.instanceMethod yX3_profit ∈ mm_tb ∧ Cond.selects RX3 yX3_profit yX3_profit ∈ mm_tb := ⟨(mm_in 1383 (by decide +kernel) (by decide +kernel)), (mm_in 51 (by decide +kernel) (by decide +kernel))⟩
theorem mv_X3_setHand : Cond.instanceMethod yX3_setHand ∈ mm_tb ∧ Cond.selects RX3 yX3_setHand yX3_setHand ∈ mm_tb := ⟨(mm_in 1358 (by decide +kernel) (by decide +kernel)), (mm_in 1359 (by decide +kernel) (by decide +kernel))⟩
theorem mv_X4_firstTrue : Cond.instanceMethod yX4_firstTrue ∈ mm_tb ∧ Cond.selects RX4 yX4_firstTrue yX4_firstTrue ∈ mm_tb := ⟨(mm_in 991 (by decide +kernel) (by decide +kernel)), (mm_in 992 (by decide +kernel) (by decide +kernel))⟩
theorem mv_X4_isTrue : Cond.instanceMethod yX4_isTrue ∈ mm_tb ∧ Cond.selects RX4 yX4_isTrue yX4_isTrue ∈ mm_tb := ⟨(mm_in 996 (by decide +kernel) (by decide +kernel)), (mm_in 37 (by decide +kernel) (by decide +kernel))⟩
theorem mv_X5_cutNumber : Cond.instanceMethod yX5_cutNumber ∈ mm_tb ∧ Cond.selects RX5 yX5_cutNumber yX5_cutNumber ∈ mm_tb := ⟨(mm_in 782 (by decide +kernel) (by decide +kernel)), (mm_in 16 (by decide +kernel) (by decide +kernel))⟩
theorem mv_X5_cutSign : Cond.instanceMethod yX5_cutSign ∈ mm_tb ∧ Cond.selects RX5 yX5_cutSign yX5_cutSign ∈ mm_tb := ⟨(mm_in 844 (by decide +kernel) (by decide +kernel)), (mm_in 21 (by decide +kernel) (by decide +kernel))⟩
theorem mv_X5_cutTokens : Cond.instanceMethod yX5_cutTokens ∈ mm_tb ∧ Cond.selects RX5 yX5_cutTokens yX5_cutTokens ∈ mm_tb := ⟨(mm_in 775 (by decide +kernel) (by decide +kernel)), (mm_in 15 (by decide +kernel) (by decide +kernel))⟩
theorem mv_X5_cutWord : Cond.instanceMethod yX5_cutWord ∈ mm_tb ∧ Cond.selects RX5 yX5_cutWord yX5_cutWord ∈ mm_tb := ⟨(mm_in 793 (by decide +kernel) (by decide +kernel)), (mm_in 18 (by decide +kernel) (by decide +kernel))⟩
theorem mv_X5_emit : Cond.instanceMethod yX5_emit ∈ mm_tb ∧ Cond.selects RX5 yX5_emit yX5_emit ∈ mm_tb := ⟨(mm_in 879 (by decide +kernel) (by decide +kernel)), (mm_in 29 (by decide +kernel) (by decide +kernel))⟩
theorem mv_X5_fail : Cond.instanceMethod yX5_fail ∈ mm_tb ∧ Cond.selects RX5 yX5_fail yX5_fail ∈ mm_tb := ⟨(mm_in 855 (by decide +kernel) (by decide +kernel)), (mm_in 23 (by decide +kernel) (by decide +kernel))⟩
theorem mv_X5_goOn : Cond.instanceMethod yX5_goOn ∈ mm_tb ∧ Cond.selects RX5 yX5_goOn yX5_goOn ∈ mm_tb := ⟨(mm_in 859 (by decide +kernel) (by decide +kernel)), (mm_in 24 (by decide +kernel) (by decide +kernel))⟩
theorem mv_X5_hasRoomFor : Cond.instanceMethod yX5_hasRoomFor ∈ mm_tb ∧ Cond.selects RX5 yX5_hasRoomFor yX5_hasRoomFor ∈ mm_tb := ⟨(mm_in 753 (by decide +kernel) (by decide +kernel)), (mm_in 754 (by decide +kernel) (by decide +kernel))⟩
theorem mv_X5_isWord : Cond.instanceMethod yX5_isWord ∈ mm_tb ∧ Cond.selects RX5 yX5_isWord yX5_isWord ∈ mm_tb := ⟨(mm_in 801 (by decide +kernel) (by decide +kernel)), (mm_in 20 (by decide +kernel) (by decide +kernel))⟩
theorem mv_X5_lawOf : Cond.instanceMethod yX5_lawOf ∈ mm_tb ∧ Cond.selects RX5 yX5_lawOf yX5_lawOf ∈ mm_tb := ⟨(mm_in 890 (by decide +kernel) (by decide +kernel)), (mm_in 891 (by decide +kernel) (by decide +kernel))⟩
theorem mv_X5_pass : Cond.instanceMethod yX5_pass ∈ mm_tb ∧ Cond.selects RX5 yX5_pass yX5_pass ∈ mm_tb := ⟨(mm_in 867 (by decide +kernel) (by decide +kernel)), (mm_in 26 (by decide +kernel) (by decide +kernel))⟩
theorem mv_X5_putToken : Cond.instanceMethod yX5_putToken ∈ mm_tb ∧ Cond.selects RX5 yX5_putToken yX5_putToken ∈ mm_tb := ⟨(mm_in 786 (by decide +kernel) (by decide +kernel)), (mm_in 17 (by decide +kernel) (by decide +kernel))⟩
theorem mv_X5_readClause : Cond.instanceMethod yX5_readClause ∈ mm_tb ∧ Cond.selects RX5 yX5_readClause yX5_readClause ∈ mm_tb := ⟨(mm_in 851 (by decide +kernel) (by decide +kernel)), (mm_in 22 (by decide +kernel) (by decide +kernel))⟩
theorem mv_X5_readFact : Cond.instanceMethod yX5_readFact ∈ mm_tb ∧ Cond.selects RX5 yX5_readFact yX5_readFact ∈ mm_tb := ⟨(mm_in 875 (by decide +kernel) (by decide +kernel)), (mm_in 28 (by decide +kernel) (by decide +kernel))⟩
theorem mv_X5_readFine : Cond.instanceMethod yX5_readFine ∈ mm_tb ∧ Cond.selects RX5 yX5_readFine yX5_readFine ∈ mm_tb := ⟨(mm_in 863 (by decide +kernel) (by decide +kernel)), (mm_in 25 (by decide +kernel) (by decide +kernel))⟩
theorem mv_X5_readSum : Cond.instanceMethod yX5_readSum ∈ mm_tb ∧ Cond.selects RX5 yX5_readSum yX5_readSum ∈ mm_tb := ⟨(mm_in 883 (by decide +kernel) (by decide +kernel)), (mm_in 30 (by decide +kernel) (by decide +kernel))⟩
theorem mv_X5_readTape : Cond.instanceMethod yX5_readTape ∈ mm_tb ∧ Cond.selects RX5 yX5_readTape yX5_readTape ∈ mm_tb := ⟨(mm_in 770 (by decide +kernel) (by decide +kernel)), (mm_in 771 (by decide +kernel) (by decide +kernel))⟩
theorem mv_X5_readTest : Cond.instanceMethod yX5_readTest ∈ mm_tb ∧ Cond.selects RX5 yX5_readTest yX5_readTest ∈ mm_tb := ⟨(mm_in 871 (by decide +kernel) (by decide +kernel)), (mm_in 27 (by decide +kernel) (by decide +kernel))⟩
theorem mv_X5_readValue : Cond.instanceMethod yX5_readValue ∈ mm_tb ∧ Cond.selects RX5 yX5_readValue yX5_readValue ∈ mm_tb := ⟨(mm_in 887 (by decide +kernel) (by decide +kernel)), (mm_in 31 (by decide +kernel) (by decide +kernel))⟩
theorem mv_X5_wordToken : Cond.instanceMethod yX5_wordToken ∈ mm_tb ∧ Cond.selects RX5 yX5_wordToken yX5_wordToken ∈ mm_tb := ⟨(mm_in 797 (by decide +kernel) (by decide +kernel)), (mm_in 19 (by decide +kernel) (by decide +kernel))⟩
theorem mv_X5_write : Cond.instanceMethod yX5_write ∈ mm_tb ∧ Cond.selects RX5 yX5_write yX5_write ∈ mm_tb := ⟨(mm_in 757 (by decide +kernel) (by decide +kernel)), (mm_in 758 (by decide +kernel) (by decide +kernel))⟩
theorem mv_X7_receive : Cond.instanceMethod yX7_receive ∈ mm_tb ∧ Cond.selects RX7 yX7_receive yX7_receive ∈ mm_tb := ⟨(mm_in 664 (by decide +kernel) (by decide +kernel)), (mm_in 665 (by decide +kernel) (by decide +kernel))⟩
theorem mv_X7_spend : Cond.instanceMethod yX7_spend ∈ mm_tb ∧ Cond.selects RX7 yX7_spend yX7_spend ∈ mm_tb := ⟨(mm_in 655 (by decide +kernel) (by decide +kernel)), (mm_in 656 (by decide +kernel) (by decide +kernel))⟩
theorem mv_X7_wasThere : Cond.instanceMethod yX7_wasThere ∈ mm_tb ∧ Cond.selects RX7 yX7_wasThere yX7_wasThere ∈ mm_tb := ⟨(mm_in 685 (by decide +kernel) (by decide +kernel)), (mm_in 686 (by decide +kernel) (by decide +kernel))⟩
theorem mv_X8_add : Cond.instanceMethod yX8_add ∈ mm_tb ∧ Cond.selects RX8 yX8_add yX8_add ∈ mm_tb := ⟨(mm_in 1152 (by decide +kernel) (by decide +kernel)), (mm_in 1153 (by decide +kernel) (by decide +kernel))⟩
theorem mv_X8_greaterQuarreller : Cond.instanceMethod yX8_greaterQuarreller ∈ mm_tb ∧ Cond.selects RX8 yX8_greaterQuarreller yX8_greaterQuarreller ∈ mm_tb := ⟨(mm_in 1212 (by decide +kernel) (by decide +kernel)), (mm_in 1213 (by decide +kernel) (by decide +kernel))⟩
theorem mv_X8_greatestLower : Cond.instanceMethod yX8_greatestLower ∈ mm_tb ∧ Cond.selects RX8 yX8_greatestLower yX8_greatestLower ∈ mm_tb := ⟨(mm_in 1168 (by decide +kernel) (by decide +kernel)), (mm_in 1169 (by decide +kernel) (by decide +kernel))⟩
theorem mv_X8_isKnown : Cond.instanceMethod yX8_isKnown ∈ mm_tb ∧ Cond.selects RX8 yX8_isKnown yX8_isKnown ∈ mm_tb := ⟨(mm_in 1173 (by decide +kernel) (by decide +kernel)), (mm_in 42 (by decide +kernel) (by decide +kernel))⟩
theorem mv_X8_isWeighing : Cond.instanceMethod yX8_isWeighing ∈ mm_tb ∧ Cond.selects RX8 yX8_isWeighing yX8_isWeighing ∈ mm_tb := ⟨(mm_in 1185 (by decide +kernel) (by decide +kernel)), (mm_in 44 (by decide +kernel) (by decide +kernel))⟩
theorem mv_X8_leastOf : Cond.instanceMethod yX8_leastOf ∈ mm_tb ∧ Cond.selects RX8 yX8_leastOf yX8_leastOf ∈ mm_tb := ⟨(mm_in 1228 (by decide +kernel) (by decide +kernel)), (mm_in 1229 (by decide +kernel) (by decide +kernel))⟩
theorem mv_X8_leastUpper : Cond.instanceMethod yX8_leastUpper ∈ mm_tb ∧ Cond.selects RX8 yX8_leastUpper yX8_leastUpper ∈ mm_tb := ⟨(mm_in 1194 (by decide +kernel) (by decide +kernel)), (mm_in 1195 (by decide +kernel) (by decide +kernel))⟩
theorem mv_X8_lesserQuarreller : Cond.instanceMethod yX8_lesserQuarreller ∈ mm_tb ∧ Cond.selects RX8 yX8_lesserQuarreller yX8_lesserQuarreller ∈ mm_tb := ⟨(mm_in 1220 (by decide +kernel) (by decide +kernel)), (mm_in 1221 (by decide +kernel) (by decide +kernel))⟩
theorem mv_X8_liesAbove : Cond.instanceMethod yX8_liesAbove ∈ mm_tb ∧ Cond.selects RX8 yX8_liesAbove yX8_liesAbove ∈ mm_tb := ⟨(mm_in 1217 (by decide +kernel) (by decide +kernel)), (mm_in 46 (by decide +kernel) (by decide +kernel))⟩
theorem mv_X8_lowerAbove : Cond.instanceMethod yX8_lowerAbove ∈ mm_tb ∧ Cond.selects RX8 yX8_lowerAbove yX8_lowerAbove ∈ mm_tb := ⟨(mm_in 1180 (by decide +kernel) (by decide +kernel)), (mm_in 1181 (by decide +kernel) (by decide +kernel))⟩
theorem mv_X8_lowerBelow : Cond.instanceMethod yX8_lowerBelow ∈ mm_tb ∧ Cond.selects RX8 yX8_lowerBelow yX8_lowerBelow ∈ mm_tb := ⟨(mm_in 1188 (by decide +kernel) (by decide +kernel)), (mm_in 1189 (by decide +kernel) (by decide +kernel))⟩
theorem mv_X8_lowerExceeds : Cond.instanceMethod yX8_lowerExceeds ∈ mm_tb ∧ Cond.selects RX8 yX8_lowerExceeds yX8_lowerExceeds ∈ mm_tb := ⟨(mm_in 1177 (by decide +kernel) (by decide +kernel)), (mm_in 43 (by decide +kernel) (by decide +kernel))⟩
theorem mv_X8_mostOf : Cond.instanceMethod yX8_mostOf ∈ mm_tb ∧ Cond.selects RX8 yX8_mostOf yX8_mostOf ∈ mm_tb := ⟨(mm_in 1240 (by decide +kernel) (by decide +kernel)), (mm_in 1241 (by decide +kernel) (by decide +kernel))⟩
theorem mv_X8_upperAbove : Cond.instanceMethod yX8_upperAbove ∈ mm_tb ∧ Cond.selects RX8 yX8_upperAbove yX8_upperAbove ∈ mm_tb := ⟨(mm_in 1202 (by decide +kernel) (by decide +kernel)), (mm_in 1203 (by decide +kernel) (by decide +kernel))⟩
theorem mv_X8_upperBelow : Cond.instanceMethod yX8_upperBelow ∈ mm_tb ∧ Cond.selects RX8 yX8_upperBelow yX8_upperBelow ∈ mm_tb := ⟨(mm_in 1206 (by decide +kernel) (by decide +kernel)), (mm_in 1207 (by decide +kernel) (by decide +kernel))⟩
theorem mv_X8_upperExceeds : Cond.instanceMethod yX8_upperExceeds ∈ mm_tb ∧ Cond.selects RX8 yX8_upperExceeds yX8_upperExceeds ∈ mm_tb := ⟨(mm_in 1199 (by decide +kernel) (by decide +kernel)), (mm_in 45 (by decide +kernel) (by decide +kernel))⟩
theorem mv_X8_withdraw : Cond.instanceMethod yX8_withdraw ∈ mm_tb ∧ Cond.selects RX8 yX8_withdraw yX8_withdraw ∈ mm_tb := ⟨(mm_in 1160 (by decide +kernel) (by decide +kernel)), (mm_in 1161 (by decide +kernel) (by decide +kernel))⟩
theorem mv_X9_addLot : Cond.instanceMethod yX9_addLot ∈ mm_tb ∧ Cond.selects RX9 yX9_addLot yX9_addLot ∈ mm_tb := ⟨(mm_in 1287 (by decide +kernel) (by decide +kernel)), (mm_in 1288 (by decide +kernel) (by decide +kernel))⟩
theorem mv_X9_addShip : Cond.instanceMethod yX9_addShip ∈ mm_tb ∧ Cond.selects RX9 yX9_addShip yX9_addShip ∈ mm_tb := ⟨(mm_in 1300 (by decide +kernel) (by decide +kernel)), (mm_in 1301 (by decide +kernel) (by decide +kernel))⟩
theorem mv_X9_clearPlan : Cond.instanceMethod yX9_clearPlan ∈ mm_tb ∧ Cond.selects RX9 yX9_clearPlan yX9_clearPlan ∈ mm_tb := ⟨(mm_in 1283 (by decide +kernel) (by decide +kernel)), (mm_in 1284 (by decide +kernel) (by decide +kernel))⟩
theorem mv_X9_findBest : Cond.instanceMethod yX9_findBest ∈ mm_tb ∧ Cond.selects RX9 yX9_findBest yX9_findBest ∈ mm_tb := ⟨(mm_in 1312 (by decide +kernel) (by decide +kernel)), (mm_in 1313 (by decide +kernel) (by decide +kernel))⟩
