theorem dX0_init_0 : decode cX0_init 0 = .ok (.aload_n 0, 1) := by decide +kernel
theorem dX0_init_1 : decode cX0_init 1 = .ok (.invokespecial 3, 3) := by decide +kernel
theorem dX0_init_4 : decode cX0_init 4 = .ok (.aload_n 0, 1) := by decide +kernel
theorem dX0_init_5 : decode cX0_init 5 = .ok (.iload_n 1, 1) := by decide +kernel
theorem dX0_init_6 : decode cX0_init 6 = .ok (.putfield 9, 3) := by decide +kernel
theorem dX0_init_9 : decode cX0_init 9 = .ok (.aload_n 0, 1) := by decide +kernel
theorem dX0_init_10 : decode cX0_init 10 = .ok (.iload_n 2, 1) := by decide +kernel
theorem dX0_init_11 : decode cX0_init 11 = .ok (.putfield 15, 3) := by decide +kernel
theorem dX0_init_14 : decode cX0_init 14 = .ok (.aload_n 0, 1) := by decide +kernel
theorem dX0_init_15 : decode cX0_init 15 = .ok (.iload_n 3, 1) := by decide +kernel
theorem dX0_init_16 : decode cX0_init 16 = .ok (.putfield 18, 3) := by decide +kernel
theorem dX0_init_19 : decode cX0_init 19 = .ok (.aload_n 0, 1) := by decide +kernel
theorem dX0_init_20 : decode cX0_init 20 = .ok (.iload 4, 2) := by decide +kernel
theorem dX0_init_22 : decode cX0_init 22 = .ok (.putfield 21, 3) := by decide +kernel
theorem dX0_init_25 : decode cX0_init 25 = .ok (.aload_n 0, 1) := by decide +kernel
theorem dX0_init_26 : decode cX0_init 26 = .ok (.iload 5, 2) := by decide +kernel
theorem dX0_init_28 : decode cX0_init 28 = .ok (.putfield 24, 3) := by decide +kernel
theorem dX0_init_31 : decode cX0_init 31 = .ok (.aload_n 0, 1) := by decide +kernel
theorem dX0_init_32 : decode cX0_init 32 = .ok (.iload 6, 2) := by decide +kernel
theorem dX0_init_34 : decode cX0_init 34 = .ok (.putfield 27, 3) := by decide +kernel
theorem dX0_init_37 : decode cX0_init 37 = .ok (.aload_n 0, 1) := by decide +kernel
theorem dX0_init_38 : decode cX0_init 38 = .ok (.iload 4, 2) := by decide +kernel
theorem dX0_init_40 : decode cX0_init 40 = .ok (.putfield 30, 3) := by decide +kernel
theorem dX0_init_43 : decode cX0_init 43 = .ok (.aload_n 0, 1) := by decide +kernel
theorem dX0_init_44 : decode cX0_init 44 = .ok (.iload_n 1, 1) := by decide +kernel
theorem dX0_init_45 : decode cX0_init 45 = .ok (.putfield 33, 3) := by decide +kernel
theorem dX0_init_48 : decode cX0_init 48 = .ok (.aload_n 0, 1) := by decide +kernel
theorem dX0_init_49 : decode cX0_init 49 = .ok (.iconst 3, 1) := by decide +kernel
theorem dX0_init_50 : decode cX0_init 50 = .ok (.newarray .int, 2) := by decide +kernel
theorem dX0_init_52 : decode cX0_init 52 = .ok (.putfield 36, 3) := by decide +kernel
theorem dX0_init_55 : decode cX0_init 55 = .ok (.aload_n 0, 1) := by decide +kernel
theorem dX0_init_56 : decode cX0_init 56 = .ok (.iconst 3, 1) := by decide +kernel
theorem dX0_init_57 : decode cX0_init 57 = .ok (.newarray .int, 2) := by decide +kernel
theorem dX0_init_59 : decode cX0_init 59 = .ok (.putfield 40, 3) := by decide +kernel
theorem dX0_init_62 : decode cX0_init 62 = .ok (.aload_n 0, 1) := by decide +kernel
theorem dX0_init_63 : decode cX0_init 63 = .ok (.iconst 3, 1) := by decide +kernel
theorem dX0_init_64 : decode cX0_init 64 = .ok (.newarray .int, 2) := by decide +kernel
theorem dX0_init_66 : decode cX0_init 66 = .ok (.putfield 43, 3) := by decide +kernel
theorem dX0_init_69 : decode cX0_init 69 = .ok (.return_, 1) := by decide +kernel
theorem dX0_hasSurety_0 : decode cX0_hasSurety 0 = .ok (.iconst 0, 1) := by decide +kernel
theorem dX0_hasSurety_1 : decode cX0_hasSurety 1 = .ok (.istore_n 2, 1) := by decide +kernel
theorem dX0_hasSurety_2 : decode cX0_hasSurety 2 = .ok (.iload_n 2, 1) := by decide +kernel
theorem dX0_hasSurety_3 : decode cX0_hasSurety 3 = .ok (.aload_n 0, 1) := by decide +kernel
theorem dX0_hasSurety_4 : decode cX0_hasSurety 4 = .ok (.getfield 46, 3) := by decide +kernel
theorem dX0_hasSurety_7 : decode cX0_hasSurety 7 = .ok (.if_icmp .ge 21, 3) := by decide +kernel
theorem dX0_hasSurety_10 : decode cX0_hasSurety 10 = .ok (.aload_n 0, 1) := by decide +kernel
theorem dX0_hasSurety_11 : decode cX0_hasSurety 11 = .ok (.getfield 36, 3) := by decide +kernel
theorem dX0_hasSurety_14 : decode cX0_hasSurety 14 = .ok (.iload_n 2, 1) := by decide +kernel
theorem dX0_hasSurety_15 : decode cX0_hasSurety 15 = .ok (.iaload, 1) := by decide +kernel
theorem dX0_hasSurety_16 : decode cX0_hasSurety 16 = .ok (.iload_n 1, 1) := by decide +kernel
theorem dX0_hasSurety_17 : decode cX0_hasSurety 17 = .ok (.if_icmp .ne 5, 3) := by decide +kernel
theorem dX0_hasSurety_20 : decode cX0_hasSurety 20 = .ok (.iconst 1, 1) := by decide +kernel
theorem dX0_hasSurety_21 : decode cX0_hasSurety 21 = .ok (.ireturn, 1) := by decide +kernel
theorem dX0_hasSurety_22 : decode cX0_hasSurety 22 = .ok (.iinc 2 1, 3) := by decide +kernel
theorem dX0_hasSurety_25 : decode cX0_hasSurety 25 = .ok (.goto (-23), 3) := by decide +kernel
theorem dX0_hasSurety_28 : decode cX0_hasSurety 28 = .ok (.iconst 0, 1) := by decide +kernel
theorem dX0_hasSurety_29 : decode cX0_hasSurety 29 = .ok (.ireturn, 1) := by decide +kernel
theorem dX0_addSurety_0 : decode cX0_addSurety 0 = .ok (.aload_n 0, 1) := by decide +kernel
theorem dX0_addSurety_1 : decode cX0_addSurety 1 = .ok (.getfield 46, 3) := by decide +kernel
theorem dX0_addSurety_4 : decode cX0_addSurety 4 = .ok (.iconst 3, 1) := by decide +kernel
theorem dX0_addSurety_5 : decode cX0_addSurety 5 = .ok (.if_icmp .ge 33, 3) := by decide +kernel
theorem dX0_addSurety_8 : decode cX0_addSurety 8 = .ok (.aload_n 0, 1) := by decide +kernel
theorem dX0_addSurety_9 : decode cX0_addSurety 9 = .ok (.getfield 36, 3) := by decide +kernel
theorem dX0_addSurety_12 : decode cX0_addSurety 12 = .ok (.aload_n 0, 1) := by decide +kernel
theorem dX0_addSurety_13 : decode cX0_addSurety 13 = .ok (.getfield 46, 3) := by decide +kernel
theorem dX0_addSurety_16 : decode cX0_addSurety 16 = .ok (.iload_n 1, 1) := by decide +kernel
theorem dX0_addSurety_17 : decode cX0_addSurety 17 = .ok (.iastore, 1) := by decide +kernel
theorem dX0_addSurety_18 : decode cX0_addSurety 18 = .ok (.aload_n 0, 1) := by decide +kernel
theorem dX0_addSurety_19 : decode cX0_addSurety 19 = .ok (.getfield 43, 3) := by decide +kernel
theorem dX0_addSurety_22 : decode cX0_addSurety 22 = .ok (.aload_n 0, 1) := by decide +kernel
theorem dX0_addSurety_23 : decode cX0_addSurety 23 = .ok (.getfield 46, 3) := by decide +kernel
theorem dX0_addSurety_26 : decode cX0_addSurety 26 = .ok (.iload_n 1, 1) := by decide +kernel
theorem dX0_addSurety_27 : decode cX0_addSurety 27 = .ok (.iastore, 1) := by decide +kernel
theorem dX0_addSurety_28 : decode cX0_addSurety 28 = .ok (.aload_n 0, 1) := by decide +kernel
theorem dX0_addSurety_29 : decode cX0_addSurety 29 = .ok (.dup, 1) := by decide +kernel
theorem dX0_addSurety_30 : decode cX0_addSurety 30 = .ok (.getfield 46, 3) := by decide +kernel
theorem dX0_addSurety_33 : decode cX0_addSurety 33 = .ok (.iconst 1, 1) := by decide +kernel
theorem dX0_addSurety_34 : decode cX0_addSurety 34 = .ok (.iadd, 1) := by decide +kernel
theorem dX0_addSurety_35 : decode cX0_addSurety 35 = .ok (.putfield 46, 3) := by decide +kernel
theorem dX0_addSurety_38 : decode cX0_addSurety 38 = .ok (.return_, 1) := by decide +kernel
theorem dX0_allClaims_0 : decode cX0_allClaims 0 = .ok (.iconst 0, 1) := by decide +kernel
theorem dX0_allClaims_1 : decode cX0_allClaims 1 = .ok (.istore_n 1, 1) := by decide +kernel
theorem dX0_allClaims_2 : decode cX0_allClaims 2 = .ok (.iconst 0, 1) := by decide +kernel
theorem dX0_allClaims_3 : decode cX0_allClaims 3 = .ok (.istore_n 2, 1) := by decide +kernel
theorem dX0_allClaims_4 : decode cX0_allClaims 4 = .ok (.iload_n 2, 1) := by decide +kernel
theorem dX0_allClaims_5 : decode cX0_allClaims 5 = .ok (.aload_n 0, 1) := by decide +kernel
theorem dX0_allClaims_6 : decode cX0_allClaims 6 = .ok (.getfield 46, 3) := by decide +kernel
theorem dX0_allClaims_9 : decode cX0_allClaims 9 = .ok (.if_icmp .ge 18, 3) := by decide +kernel
theorem dX0_allClaims_12 : decode cX0_allClaims 12 = .ok (.iload_n 1, 1) := by decide +kernel
theorem dX0_allClaims_13 : decode cX0_allClaims 13 = .ok (.aload_n 0, 1) := by decide +kernel
theorem dX0_allClaims_14 : decode cX0_allClaims 14 = .ok (.getfield 40, 3) := by decide +kernel
theorem dX0_allClaims_17 : decode cX0_allClaims 17 = .ok (.iload_n 2, 1) := by decide +kernel
theorem dX0_allClaims_18 : decode cX0_allClaims 18 = .ok (.iaload, 1) := by decide +kernel
theorem dX0_allClaims_19 : decode cX0_allClaims 19 = .ok (.iadd, 1) := by decide +kernel
theorem dX0_allClaims_20 : decode cX0_allClaims 20 = .ok (.istore_n 1, 1) := by decide +kernel
theorem dX0_allClaims_21 : decode cX0_allClaims 21 = .ok (.iinc 2 1, 3) := by decide +kernel
theorem dX0_allClaims_24 : decode cX0_allClaims 24 = .ok (.goto (-20), 3) := by decide +kernel
theorem dX0_allClaims_27 : decode cX0_allClaims 27 = .ok (.iload_n 1, 1) := by decide +kernel
theorem dX0_allClaims_28 : decode cX0_allClaims 28 = .ok (.ireturn, 1) := by decide +kernel
theorem dX0_passTo_0 : decode cX0_passTo 0 = .ok (.aload_n 0, 1) := by decide +kernel
theorem dX0_passTo_1 : decode cX0_passTo 1 = .ok (.getfield 33, 3) := by decide +kernel
theorem dX0_passTo_4 : decode cX0_passTo 4 = .ok (.iload_n 1, 1) := by decide +kernel
theorem dX0_passTo_5 : decode cX0_passTo 5 = .ok (.if_icmp .ne 8, 3) := by decide +kernel
theorem dX0_passTo_8 : decode cX0_passTo 8 = .ok (.aload_n 0, 1) := by decide +kernel
theorem dX0_passTo_9 : decode cX0_passTo 9 = .ok (.iload_n 2, 1) := by decide +kernel
theorem dX0_passTo_10 : decode cX0_passTo 10 = .ok (.putfield 33, 3) := by decide +kernel
theorem dX0_passTo_13 : decode cX0_passTo 13 = .ok (.iconst 0, 1) := by decide +kernel
theorem dX0_passTo_14 : decode cX0_passTo 14 = .ok (.istore_n 3, 1) := by decide +kernel
theorem dX0_passTo_15 : decode cX0_passTo 15 = .ok (.iload_n 3, 1) := by decide +kernel
theorem dX0_passTo_16 : decode cX0_passTo 16 = .ok (.aload_n 0, 1) := by decide +kernel
theorem dX0_passTo_17 : decode cX0_passTo 17 = .ok (.getfield 46, 3) := by decide +kernel
theorem dX0_passTo_20 : decode cX0_passTo 20 = .ok (.if_icmp .ge 26, 3) := by decide +kernel
theorem dX0_passTo_23 : decode cX0_passTo 23 = .ok (.aload_n 0, 1) := by decide +kernel
theorem dX0_passTo_24 : decode cX0_passTo 24 = .ok (.getfield 43, 3) := by decide +kernel
theorem dX0_passTo_27 : decode cX0_passTo 27 = .ok (.iload_n 3, 1) := by decide +kernel
theorem dX0_passTo_28 : decode cX0_passTo 28 = .ok (.iaload, 1) := by decide +kernel
theorem dX0_passTo_29 : decode cX0_passTo 29 = .ok (.iload_n 1, 1) := by decide +kernel
theorem dX0_passTo_30 : decode cX0_passTo 30 = .ok (.if_icmp .ne 10, 3) := by decide +kernel
theorem dX0_passTo_33 : decode cX0_passTo 33 = .ok (.aload_n 0, 1) := by decide +kernel
theorem dX0_passTo_34 : decode cX0_passTo 34 = .ok (.getfield 43, 3) := by decide +kernel
theorem dX0_passTo_37 : decode cX0_passTo 37 = .ok (.iload_n 3, 1) := by decide +kernel
theorem dX0_passTo_38 : decode cX0_passTo 38 = .ok (.iload_n 2, 1) := by decide +kernel
theorem dX0_passTo_39 : decode cX0_passTo 39 = .ok (.iastore, 1) := by decide +kernel
theorem dX0_passTo_40 : decode cX0_passTo 40 = .ok (.iinc 3 1, 3) := by decide +kernel
theorem dX0_passTo_43 : decode cX0_passTo 43 = .ok (.goto (-28), 3) := by decide +kernel
theorem dX0_passTo_46 : decode cX0_passTo 46 = .ok (.return_, 1) := by decide +kernel
theorem dX1_init_0 : decode cX1_init 0 = .ok (.aload_n 0, 1) := by decide +kernel
theorem dX1_init_1 : decode cX1_init 1 = .ok (.invokespecial 5, 3) := by decide +kernel
theorem dX1_init_4 : decode cX1_init 4 = .ok (.aload_n 0, 1) := by decide +kernel
theorem dX1_init_5 : decode cX1_init 5 = .ok (.iconst 2, 1) := by decide +kernel
theorem dX1_init_6 : decode cX1_init 6 = .ok (.newarray .int, 2) := by decide +kernel
theorem dX1_init_8 : decode cX1_init 8 = .ok (.putfield 11, 3) := by decide +kernel
theorem dX1_init_11 : decode cX1_init 11 = .ok (.aload_n 0, 1) := by decide +kernel
theorem dX1_init_12 : decode cX1_init 12 = .ok (.iconst 2, 1) := by decide +kernel
theorem dX1_init_13 : decode cX1_init 13 = .ok (.bipush 10, 2) := by decide +kernel
theorem dX1_init_15 : decode cX1_init 15 = .ok (.multianewarray 15 2, 4) := by decide +kernel
theorem dX1_init_19 : decode cX1_init 19 = .ok (.putfield 17, 3) := by decide +kernel
theorem dX1_init_22 : decode cX1_init 22 = .ok (.aload_n 0, 1) := by decide +kernel
theorem dX1_init_23 : decode cX1_init 23 = .ok (.iconst 2, 1) := by decide +kernel
theorem dX1_init_24 : decode cX1_init 24 = .ok (.bipush 10, 2) := by decide +kernel
theorem dX1_init_26 : decode cX1_init 26 = .ok (.multianewarray 15 2, 4) := by decide +kernel
theorem dX1_init_30 : decode cX1_init 30 = .ok (.putfield 20, 3) := by decide +kernel
theorem dX1_init_33 : decode cX1_init 33 = .ok (.aload_n 0, 1) := by decide +kernel
theorem dX1_init_34 : decode cX1_init 34 = .ok (.iconst 2, 1) := by decide +kernel
theorem dX1_init_35 : decode cX1_init 35 = .ok (.bipush 10, 2) := by decide +kernel
theorem dX1_init_37 : decode cX1_init 37 = .ok (.multianewarray 15 2, 4) := by decide +kernel
theorem dX1_init_41 : decode cX1_init 41 = .ok (.putfield 23, 3) := by decide +kernel
theorem dX1_init_44 : decode cX1_init 44 = .ok (.aload_n 0, 1) := by decide +kernel
theorem dX1_init_45 : decode cX1_init 45 = .ok (.bipush 10, 2) := by decide +kernel
theorem dX1_init_47 : decode cX1_init 47 = .ok (.newarray .int, 2) := by decide +kernel
theorem dX1_init_49 : decode cX1_init 49 = .ok (.putfield 26, 3) := by decide +kernel
theorem dX1_init_52 : decode cX1_init 52 = .ok (.aload_n 0, 1) := by decide +kernel
theorem dX1_init_53 : decode cX1_init 53 = .ok (.bipush 100, 2) := by decide +kernel
theorem dX1_init_55 : decode cX1_init 55 = .ok (.newarray .int, 2) := by decide +kernel
theorem dX1_init_57 : decode cX1_init 57 = .ok (.putfield 29, 3) := by decide +kernel
theorem dX1_init_60 : decode cX1_init 60 = .ok (.return_, 1) := by decide +kernel
theorem dX1_add_0 : decode cX1_add 0 = .ok (.iload_n 1, 1) := by decide +kernel
theorem dX1_add_1 : decode cX1_add 1 = .ok (.ifCond .lt 19, 3) := by decide +kernel
theorem dX1_add_4 : decode cX1_add 4 = .ok (.iload_n 1, 1) := by decide +kernel
theorem dX1_add_5 : decode cX1_add 5 = .ok (.iconst 1, 1) := by decide +kernel
theorem dX1_add_6 : decode cX1_add 6 = .ok (.if_icmp .gt 14, 3) := by decide +kernel
theorem dX1_add_9 : decode cX1_add 9 = .ok (.aload_n 0, 1) := by decide +kernel
theorem dX1_add_10 : decode cX1_add 10 = .ok (.getfield 11, 3) := by decide +kernel
theorem dX1_add_13 : decode cX1_add 13 = .ok (.iload_n 1, 1) := by decide +kernel
theorem dX1_add_14 : decode cX1_add 14 = .ok (.iaload, 1) := by decide +kernel
theorem dX1_add_15 : decode cX1_add 15 = .ok (.bipush 10, 2) := by decide +kernel
theorem dX1_add_17 : decode cX1_add 17 = .ok (.if_icmp .lt 5, 3) := by decide +kernel
theorem dX1_add_20 : decode cX1_add 20 = .ok (.iconst (-1), 1) := by decide +kernel
theorem dX1_add_21 : decode cX1_add 21 = .ok (.ireturn, 1) := by decide +kernel
theorem dX1_add_22 : decode cX1_add 22 = .ok (.aload_n 0, 1) := by decide +kernel
theorem dX1_add_23 : decode cX1_add 23 = .ok (.getfield 11, 3) := by decide +kernel
theorem dX1_add_26 : decode cX1_add 26 = .ok (.iload_n 1, 1) := by decide +kernel
theorem dX1_add_27 : decode cX1_add 27 = .ok (.iaload, 1) := by decide +kernel
theorem dX1_add_28 : decode cX1_add 28 = .ok (.istore 5, 2) := by decide +kernel
theorem dX1_add_30 : decode cX1_add 30 = .ok (.aload_n 0, 1) := by decide +kernel
theorem dX1_add_31 : decode cX1_add 31 = .ok (.getfield 17, 3) := by decide +kernel
theorem dX1_add_34 : decode cX1_add 34 = .ok (.iload_n 1, 1) := by decide +kernel
theorem dX1_add_35 : decode cX1_add 35 = .ok (.aaload, 1) := by decide +kernel
theorem dX1_add_36 : decode cX1_add 36 = .ok (.iload 5, 2) := by decide +kernel
theorem dX1_add_38 : decode cX1_add 38 = .ok (.iload_n 2, 1) := by decide +kernel
theorem dX1_add_39 : decode cX1_add 39 = .ok (.iastore, 1) := by decide +kernel
theorem dX1_add_40 : decode cX1_add 40 = .ok (.aload_n 0, 1) := by decide +kernel
theorem dX1_add_41 : decode cX1_add 41 = .ok (.getfield 20, 3) := by decide +kernel
theorem dX1_add_44 : decode cX1_add 44 = .ok (.iload_n 1, 1) := by decide +kernel
theorem dX1_add_45 : decode cX1_add 45 = .ok (.aaload, 1) := by decide +kernel
theorem dX1_add_46 : decode cX1_add 46 = .ok (.iload 5, 2) := by decide +kernel
theorem dX1_add_48 : decode cX1_add 48 = .ok (.iload_n 3, 1) := by decide +kernel
theorem dX1_add_49 : decode cX1_add 49 = .ok (.iastore, 1) := by decide +kernel
theorem dX1_add_50 : decode cX1_add 50 = .ok (.aload_n 0, 1) := by decide +kernel
theorem dX1_add_51 : decode cX1_add 51 = .ok (.getfield 23, 3) := by decide +kernel
theorem dX1_add_54 : decode cX1_add 54 = .ok (.iload_n 1, 1) := by decide +kernel
theorem dX1_add_55 : decode cX1_add 55 = .ok (.aaload, 1) := by decide +kernel
theorem dX1_add_56 : decode cX1_add 56 = .ok (.iload 5, 2) := by decide +kernel
theorem dX1_add_58 : decode cX1_add 58 = .ok (.iload 4, 2) := by decide +kernel
theorem dX1_add_60 : decode cX1_add 60 = .ok (.iastore, 1) := by decide +kernel
theorem dX1_add_61 : decode cX1_add 61 = .ok (.aload_n 0, 1) := by decide +kernel
theorem dX1_add_62 : decode cX1_add 62 = .ok (.getfield 11, 3) := by decide +kernel
theorem dX1_add_65 : decode cX1_add 65 = .ok (.iload_n 1, 1) := by decide +kernel
theorem dX1_add_66 : decode cX1_add 66 = .ok (.dup2, 1) := by decide +kernel
theorem dX1_add_67 : decode cX1_add 67 = .ok (.iaload, 1) := by decide +kernel
theorem dX1_add_68 : decode cX1_add 68 = .ok (.iconst 1, 1) := by decide +kernel
theorem dX1_add_69 : decode cX1_add 69 = .ok (.iadd, 1) := by decide +kernel
theorem dX1_add_70 : decode cX1_add 70 = .ok (.iastore, 1) := by decide +kernel
theorem dX1_add_71 : decode cX1_add 71 = .ok (.aload_n 0, 1) := by decide +kernel
theorem dX1_add_72 : decode cX1_add 72 = .ok (.iconst 0, 1) := by decide +kernel
theorem dX1_add_73 : decode cX1_add 73 = .ok (.putfield 32, 3) := by decide +kernel
theorem dX1_add_76 : decode cX1_add 76 = .ok (.iload 5, 2) := by decide +kernel
theorem dX1_add_78 : decode cX1_add 78 = .ok (.ireturn, 1) := by decide +kernel
theorem dX1_empty_0 : decode cX1_empty 0 = .ok (.aload_n 0, 1) := by decide +kernel
theorem dX1_empty_1 : decode cX1_empty 1 = .ok (.getfield 11, 3) := by decide +kernel
theorem dX1_empty_4 : decode cX1_empty 4 = .ok (.iconst 0, 1) := by decide +kernel
theorem dX1_empty_5 : decode cX1_empty 5 = .ok (.iaload, 1) := by decide +kernel
theorem dX1_empty_6 : decode cX1_empty 6 = .ok (.aload_n 0, 1) := by decide +kernel
theorem dX1_empty_7 : decode cX1_empty 7 = .ok (.getfield 11, 3) := by decide +kernel
theorem dX1_empty_10 : decode cX1_empty 10 = .ok (.iconst 1, 1) := by decide +kernel
theorem dX1_empty_11 : decode cX1_empty 11 = .ok (.iaload, 1) := by decide +kernel
theorem dX1_empty_12 : decode cX1_empty 12 = .ok (.iadd, 1) := by decide +kernel
theorem dX1_empty_13 : decode cX1_empty 13 = .ok (.istore_n 1, 1) := by decide +kernel
theorem dX1_empty_14 : decode cX1_empty 14 = .ok (.iload_n 1, 1) := by decide +kernel
theorem dX1_empty_15 : decode cX1_empty 15 = .ok (.ifCond .le 8, 3) := by decide +kernel
theorem dX1_empty_18 : decode cX1_empty 18 = .ok (.aload_n 0, 1) := by decide +kernel
theorem dX1_empty_19 : decode cX1_empty 19 = .ok (.iconst 0, 1) := by decide +kernel
theorem dX1_empty_20 : decode cX1_empty 20 = .ok (.putfield 32, 3) := by decide +kernel
theorem dX1_empty_23 : decode cX1_empty 23 = .ok (.aload_n 0, 1) := by decide +kernel
theorem dX1_empty_24 : decode cX1_empty 24 = .ok (.getfield 11, 3) := by decide +kernel
theorem dX1_empty_27 : decode cX1_empty 27 = .ok (.iconst 0, 1) := by decide +kernel
theorem dX1_empty_28 : decode cX1_empty 28 = .ok (.iconst 0, 1) := by decide +kernel
theorem dX1_empty_29 : decode cX1_empty 29 = .ok (.iastore, 1) := by decide +kernel
theorem dX1_empty_30 : decode cX1_empty 30 = .ok (.aload_n 0, 1) := by decide +kernel
theorem dX1_empty_31 : decode cX1_empty 31 = .ok (.getfield 11, 3) := by decide +kernel
theorem dX1_empty_34 : decode cX1_empty 34 = .ok (.iconst 1, 1) := by decide +kernel
theorem dX1_empty_35 : decode cX1_empty 35 = .ok (.iconst 0, 1) := by decide +kernel
theorem dX1_empty_36 : decode cX1_empty 36 = .ok (.iastore, 1) := by decide +kernel
theorem dX1_empty_37 : decode cX1_empty 37 = .ok (.iload_n 1, 1) := by decide +kernel
theorem dX1_empty_38 : decode cX1_empty 38 = .ok (.ireturn, 1) := by decide +kernel
theorem dX1_findPairs_0 : decode cX1_findPairs 0 = .ok (.aload_n 0, 1) := by decide +kernel
theorem dX1_findPairs_1 : decode cX1_findPairs 1 = .ok (.getfield 11, 3) := by decide +kernel
theorem dX1_findPairs_4 : decode cX1_findPairs 4 = .ok (.iconst 0, 1) := by decide +kernel
theorem dX1_findPairs_5 : decode cX1_findPairs 5 = .ok (.iaload, 1) := by decide +kernel
theorem dX1_findPairs_6 : decode cX1_findPairs 6 = .ok (.istore_n 3, 1) := by decide +kernel
theorem dX1_findPairs_7 : decode cX1_findPairs 7 = .ok (.iconst 1, 1) := by decide +kernel
theorem dX1_findPairs_8 : decode cX1_findPairs 8 = .ok (.aload_n 0, 1) := by decide +kernel
theorem dX1_findPairs_9 : decode cX1_findPairs 9 = .ok (.getfield 11, 3) := by decide +kernel
theorem dX1_findPairs_12 : decode cX1_findPairs 12 = .ok (.iconst 1, 1) := by decide +kernel
theorem dX1_findPairs_13 : decode cX1_findPairs 13 = .ok (.iaload, 1) := by decide +kernel
theorem dX1_findPairs_14 : decode cX1_findPairs 14 = .ok (.ishl, 1) := by decide +kernel
theorem dX1_findPairs_15 : decode cX1_findPairs 15 = .ok (.istore 4, 2) := by decide +kernel
theorem dX1_findPairs_17 : decode cX1_findPairs 17 = .ok (.aload_n 0, 1) := by decide +kernel
theorem dX1_findPairs_18 : decode cX1_findPairs 18 = .ok (.getfield 36, 3) := by decide +kernel
theorem dX1_findPairs_21 : decode cX1_findPairs 21 = .ok (.ifnonnull 12, 3) := by decide +kernel
theorem dX1_findPairs_24 : decode cX1_findPairs 24 = .ok (.aload_n 0, 1) := by decide +kernel
theorem dX1_findPairs_25 : decode cX1_findPairs 25 = .ok (.sipush 11264, 3) := by decide +kernel
theorem dX1_findPairs_28 : decode cX1_findPairs 28 = .ok (.newarray .int, 2) := by decide +kernel
theorem dX1_findPairs_30 : decode cX1_findPairs 30 = .ok (.putfield 36, 3) := by decide +kernel
theorem dX1_findPairs_33 : decode cX1_findPairs 33 = .ok (.aload_n 0, 1) := by decide +kernel
theorem dX1_findPairs_34 : decode cX1_findPairs 34 = .ok (.iload_n 1, 1) := by decide +kernel
theorem dX1_findPairs_35 : decode cX1_findPairs 35 = .ok (.iload_n 2, 1) := by decide +kernel
theorem dX1_findPairs_36 : decode cX1_findPairs 36 = .ok (.invokevirtual 39, 3) := by decide +kernel
theorem dX1_findPairs_39 : decode cX1_findPairs 39 = .ok (.iconst 0, 1) := by decide +kernel
theorem dX1_findPairs_40 : decode cX1_findPairs 40 = .ok (.istore 5, 2) := by decide +kernel
theorem dX1_findPairs_42 : decode cX1_findPairs 42 = .ok (.iload 5, 2) := by decide +kernel
theorem dX1_findPairs_44 : decode cX1_findPairs 44 = .ok (.iload 4, 2) := by decide +kernel
theorem dX1_findPairs_46 : decode cX1_findPairs 46 = .ok (.if_icmp .ge 22, 3) := by decide +kernel
theorem dX1_findPairs_49 : decode cX1_findPairs 49 = .ok (.aload_n 0, 1) := by decide +kernel
theorem dX1_findPairs_50 : decode cX1_findPairs 50 = .ok (.getfield 36, 3) := by decide +kernel
theorem dX1_findPairs_53 : decode cX1_findPairs 53 = .ok (.iload_n 3, 1) := by decide +kernel
theorem dX1_findPairs_54 : decode cX1_findPairs 54 = .ok (.iload 4, 2) := by decide +kernel
theorem dX1_findPairs_56 : decode cX1_findPairs 56 = .ok (.imul, 1) := by decide +kernel
theorem dX1_findPairs_57 : decode cX1_findPairs 57 = .ok (.iload 5, 2) := by decide +kernel
theorem dX1_findPairs_59 : decode cX1_findPairs 59 = .ok (.iadd, 1) := by decide +kernel
theorem dX1_findPairs_60 : decode cX1_findPairs 60 = .ok (.iconst 0, 1) := by decide +kernel
theorem dX1_findPairs_61 : decode cX1_findPairs 61 = .ok (.iastore, 1) := by decide +kernel
theorem dX1_findPairs_62 : decode cX1_findPairs 62 = .ok (.iinc 5 1, 3) := by decide +kernel
theorem dX1_findPairs_65 : decode cX1_findPairs 65 = .ok (.goto (-23), 3) := by decide +kernel
theorem dX1_findPairs_68 : decode cX1_findPairs 68 = .ok (.iload_n 3, 1) := by decide +kernel
theorem dX1_findPairs_69 : decode cX1_findPairs 69 = .ok (.iconst 1, 1) := by decide +kernel
theorem dX1_findPairs_70 : decode cX1_findPairs 70 = .ok (.isub, 1) := by decide +kernel
theorem dX1_findPairs_71 : decode cX1_findPairs 71 = .ok (.istore 5, 2) := by decide +kernel
theorem dX1_findPairs_73 : decode cX1_findPairs 73 = .ok (.iload 5, 2) := by decide +kernel
theorem dX1_findPairs_75 : decode cX1_findPairs 75 = .ok (.ifCond .lt 58, 3) := by decide +kernel
theorem dX1_findPairs_78 : decode cX1_findPairs 78 = .ok (.iconst 0, 1) := by decide +kernel
theorem dX1_findPairs_79 : decode cX1_findPairs 79 = .ok (.istore 6, 2) := by decide +kernel
theorem dX1_findPairs_81 : decode cX1_findPairs 81 = .ok (.iload 6, 2) := by decide +kernel
theorem dX1_findPairs_83 : decode cX1_findPairs 83 = .ok (.iload 4, 2) := by decide +kernel
theorem dX1_findPairs_85 : decode cX1_findPairs 85 = .ok (.if_icmp .ge 42, 3) := by decide +kernel
theorem dX1_findPairs_88 : decode cX1_findPairs 88 = .ok (.iload 6, 2) := by decide +kernel
theorem dX1_findPairs_90 : decode cX1_findPairs 90 = .ok (.invokestatic 43, 3) := by decide +kernel
theorem dX1_findPairs_93 : decode cX1_findPairs 93 = .ok (.iload 5, 2) := by decide +kernel
theorem dX1_findPairs_95 : decode cX1_findPairs 95 = .ok (.if_icmp .gt 26, 3) := by decide +kernel
theorem dX1_findPairs_98 : decode cX1_findPairs 98 = .ok (.aload_n 0, 1) := by decide +kernel
theorem dX1_findPairs_99 : decode cX1_findPairs 99 = .ok (.getfield 36, 3) := by decide +kernel
theorem dX1_findPairs_102 : decode cX1_findPairs 102 = .ok (.iload 5, 2) := by decide +kernel
theorem dX1_findPairs_104 : decode cX1_findPairs 104 = .ok (.iload 4, 2) := by decide +kernel
theorem dX1_findPairs_106 : decode cX1_findPairs 106 = .ok (.imul, 1) := by decide +kernel
theorem dX1_findPairs_107 : decode cX1_findPairs 107 = .ok (.iload 6, 2) := by decide +kernel
theorem dX1_findPairs_109 : decode cX1_findPairs 109 = .ok (.iadd, 1) := by decide +kernel
theorem dX1_findPairs_110 : decode cX1_findPairs 110 = .ok (.aload_n 0, 1) := by decide +kernel
theorem dX1_findPairs_111 : decode cX1_findPairs 111 = .ok (.iload 5, 2) := by decide +kernel
theorem dX1_findPairs_113 : decode cX1_findPairs 113 = .ok (.iload 6, 2) := by decide +kernel
theorem dX1_findPairs_115 : decode cX1_findPairs 115 = .ok (.iload 4, 2) := by decide +kernel
theorem dX1_findPairs_117 : decode cX1_findPairs 117 = .ok (.invokevirtual 49, 3) := by decide +kernel
theorem dX1_findPairs_120 : decode cX1_findPairs 120 = .ok (.iastore, 1) := by decide +kernel
theorem dX1_findPairs_121 : decode cX1_findPairs 121 = .ok (.iinc 6 1, 3) := by decide +kernel
theorem dX1_findPairs_124 : decode cX1_findPairs 124 = .ok (.goto (-43), 3) := by decide +kernel
theorem dX1_findPairs_127 : decode cX1_findPairs 127 = .ok (.iinc 5 (-1), 3) := by decide +kernel
theorem dX1_findPairs_130 : decode cX1_findPairs 130 = .ok (.goto (-57), 3) := by decide +kernel
theorem dX1_findPairs_133 : decode cX1_findPairs 133 = .ok (.aload_n 0, 1) := by decide +kernel
theorem dX1_findPairs_134 : decode cX1_findPairs 134 = .ok (.iload 4, 2) := by decide +kernel
theorem dX1_findPairs_136 : decode cX1_findPairs 136 = .ok (.invokevirtual 53, 3) := by decide +kernel
theorem dX1_findPairs_139 : decode cX1_findPairs 139 = .ok (.ireturn, 1) := by decide +kernel
theorem dX1_weighPairs_0 : decode cX1_weighPairs 0 = .ok (.iconst 0, 1) := by decide +kernel
theorem dX1_weighPairs_1 : decode cX1_weighPairs 1 = .ok (.istore_n 3, 1) := by decide +kernel
theorem dX1_weighPairs_2 : decode cX1_weighPairs 2 = .ok (.iload_n 3, 1) := by decide +kernel
theorem dX1_weighPairs_3 : decode cX1_weighPairs 3 = .ok (.aload_n 0, 1) := by decide +kernel
theorem dX1_weighPairs_4 : decode cX1_weighPairs 4 = .ok (.getfield 11, 3) := by decide +kernel
theorem dX1_weighPairs_7 : decode cX1_weighPairs 7 = .ok (.iconst 0, 1) := by decide +kernel
theorem dX1_weighPairs_8 : decode cX1_weighPairs 8 = .ok (.iaload, 1) := by decide +kernel
theorem dX1_weighPairs_9 : decode cX1_weighPairs 9 = .ok (.if_icmp .ge 120, 3) := by decide +kernel
theorem dX1_weighPairs_12 : decode cX1_weighPairs 12 = .ok (.iconst 0, 1) := by decide +kernel
theorem dX1_weighPairs_13 : decode cX1_weighPairs 13 = .ok (.istore 4, 2) := by decide +kernel
theorem dX1_weighPairs_15 : decode cX1_weighPairs 15 = .ok (.iload 4, 2) := by decide +kernel
theorem dX1_weighPairs_17 : decode cX1_weighPairs 17 = .ok (.aload_n 0, 1) := by decide +kernel
theorem dX1_weighPairs_18 : decode cX1_weighPairs 18 = .ok (.getfield 11, 3) := by decide +kernel
theorem dX1_weighPairs_21 : decode cX1_weighPairs 21 = .ok (.iconst 1, 1) := by decide +kernel
theorem dX1_weighPairs_22 : decode cX1_weighPairs 22 = .ok (.iaload, 1) := by decide +kernel
theorem dX1_weighPairs_23 : decode cX1_weighPairs 23 = .ok (.if_icmp .ge 100, 3) := by decide +kernel
theorem dX1_weighPairs_26 : decode cX1_weighPairs 26 = .ok (.aload_n 0, 1) := by decide +kernel
theorem dX1_weighPairs_27 : decode cX1_weighPairs 27 = .ok (.iload_n 3, 1) := by decide +kernel
theorem dX1_weighPairs_28 : decode cX1_weighPairs 28 = .ok (.iload 4, 2) := by decide +kernel
theorem dX1_weighPairs_30 : decode cX1_weighPairs 30 = .ok (.invokevirtual 56, 3) := by decide +kernel
theorem dX1_weighPairs_33 : decode cX1_weighPairs 33 = .ok (.istore 5, 2) := by decide +kernel
theorem dX1_weighPairs_35 : decode cX1_weighPairs 35 = .ok (.aload_n 0, 1) := by decide +kernel
theorem dX1_weighPairs_36 : decode cX1_weighPairs 36 = .ok (.iload_n 3, 1) := by decide +kernel
theorem dX1_weighPairs_37 : decode cX1_weighPairs 37 = .ok (.iload 4, 2) := by decide +kernel
theorem dX1_weighPairs_39 : decode cX1_weighPairs 39 = .ok (.invokevirtual 60, 3) := by decide +kernel
theorem dX1_weighPairs_42 : decode cX1_weighPairs 42 = .ok (.istore 6, 2) := by decide +kernel
theorem dX1_weighPairs_44 : decode cX1_weighPairs 44 = .ok (.aload_n 0, 1) := by decide +kernel
theorem dX1_weighPairs_45 : decode cX1_weighPairs 45 = .ok (.getfield 20, 3) := by decide +kernel
theorem dX1_weighPairs_48 : decode cX1_weighPairs 48 = .ok (.iconst 0, 1) := by decide +kernel
theorem dX1_weighPairs_49 : decode cX1_weighPairs 49 = .ok (.aaload, 1) := by decide +kernel
theorem dX1_weighPairs_50 : decode cX1_weighPairs 50 = .ok (.iload_n 3, 1) := by decide +kernel
theorem dX1_weighPairs_51 : decode cX1_weighPairs 51 = .ok (.iaload, 1) := by decide +kernel
theorem dX1_weighPairs_52 : decode cX1_weighPairs 52 = .ok (.aload_n 0, 1) := by decide +kernel
theorem dX1_weighPairs_53 : decode cX1_weighPairs 53 = .ok (.getfield 20, 3) := by decide +kernel
theorem dX1_weighPairs_56 : decode cX1_weighPairs 56 = .ok (.iconst 1, 1) := by decide +kernel
theorem dX1_weighPairs_57 : decode cX1_weighPairs 57 = .ok (.aaload, 1) := by decide +kernel
theorem dX1_weighPairs_58 : decode cX1_weighPairs 58 = .ok (.iload 4, 2) := by decide +kernel
theorem dX1_weighPairs_60 : decode cX1_weighPairs 60 = .ok (.iaload, 1) := by decide +kernel
theorem dX1_weighPairs_61 : decode cX1_weighPairs 61 = .ok (.if_icmp .ne 19, 3) := by decide +kernel
theorem dX1_weighPairs_64 : decode cX1_weighPairs 64 = .ok (.iload 5, 2) := by decide +kernel
theorem dX1_weighPairs_66 : decode cX1_weighPairs 66 = .ok (.iload_n 1, 1) := by decide +kernel
theorem dX1_weighPairs_67 : decode cX1_weighPairs 67 = .ok (.if_icmp .gt 13, 3) := by decide +kernel
theorem dX1_weighPairs_70 : decode cX1_weighPairs 70 = .ok (.iload 6, 2) := by decide +kernel
theorem dX1_weighPairs_72 : decode cX1_weighPairs 72 = .ok (.iload_n 2, 1) := by decide +kernel
theorem dX1_weighPairs_73 : decode cX1_weighPairs 73 = .ok (.if_icmp .gt 7, 3) := by decide +kernel
theorem dX1_weighPairs_76 : decode cX1_weighPairs 76 = .ok (.iconst 1, 1) := by decide +kernel
theorem dX1_weighPairs_77 : decode cX1_weighPairs 77 = .ok (.goto 4, 3) := by decide +kernel
theorem dX1_weighPairs_80 : decode cX1_weighPairs 80 = .ok (.iconst 0, 1) := by decide +kernel
theorem dX1_weighPairs_81 : decode cX1_weighPairs 81 = .ok (.istore 7, 2) := by decide +kernel
theorem dX1_weighPairs_83 : decode cX1_weighPairs 83 = .ok (.aload_n 0, 1) := by decide +kernel
theorem dX1_weighPairs_84 : decode cX1_weighPairs 84 = .ok (.getfield 29, 3) := by decide +kernel
theorem dX1_weighPairs_87 : decode cX1_weighPairs 87 = .ok (.iload_n 3, 1) := by decide +kernel
theorem dX1_weighPairs_88 : decode cX1_weighPairs 88 = .ok (.bipush 10, 2) := by decide +kernel
theorem dX1_weighPairs_90 : decode cX1_weighPairs 90 = .ok (.imul, 1) := by decide +kernel
theorem dX1_weighPairs_91 : decode cX1_weighPairs 91 = .ok (.iload 4, 2) := by decide +kernel
theorem dX1_weighPairs_93 : decode cX1_weighPairs 93 = .ok (.iadd, 1) := by decide +kernel
theorem dX1_weighPairs_94 : decode cX1_weighPairs 94 = .ok (.iload 7, 2) := by decide +kernel
theorem dX1_weighPairs_96 : decode cX1_weighPairs 96 = .ok (.ifCond .eq 19, 3) := by decide +kernel
theorem dX1_weighPairs_99 : decode cX1_weighPairs 99 = .ok (.sipush 10001, 3) := by decide +kernel
theorem dX1_weighPairs_102 : decode cX1_weighPairs 102 = .ok (.iload 5, 2) := by decide +kernel
theorem dX1_weighPairs_104 : decode cX1_weighPairs 104 = .ok (.isub, 1) := by decide +kernel
theorem dX1_weighPairs_105 : decode cX1_weighPairs 105 = .ok (.sipush 10001, 3) := by decide +kernel
theorem dX1_weighPairs_108 : decode cX1_weighPairs 108 = .ok (.imul, 1) := by decide +kernel
theorem dX1_weighPairs_109 : decode cX1_weighPairs 109 = .ok (.iload 6, 2) := by decide +kernel
theorem dX1_weighPairs_111 : decode cX1_weighPairs 111 = .ok (.isub, 1) := by decide +kernel
theorem dX1_weighPairs_112 : decode cX1_weighPairs 112 = .ok (.goto 4, 3) := by decide +kernel
theorem dX1_weighPairs_115 : decode cX1_weighPairs 115 = .ok (.iconst 0, 1) := by decide +kernel
theorem dX1_weighPairs_116 : decode cX1_weighPairs 116 = .ok (.iastore, 1) := by decide +kernel
theorem dX1_weighPairs_117 : decode cX1_weighPairs 117 = .ok (.iinc 4 1, 3) := by decide +kernel
theorem dX1_weighPairs_120 : decode cX1_weighPairs 120 = .ok (.goto (-105), 3) := by decide +kernel
theorem dX1_weighPairs_123 : decode cX1_weighPairs 123 = .ok (.iinc 3 1, 3) := by decide +kernel
theorem dX1_weighPairs_126 : decode cX1_weighPairs 126 = .ok (.goto (-124), 3) := by decide +kernel
theorem dX1_weighPairs_129 : decode cX1_weighPairs 129 = .ok (.return_, 1) := by decide +kernel
theorem dX1_coinsBetween_0 : decode cX1_coinsBetween 0 = .ok (.aload_n 0, 1) := by decide +kernel
theorem dX1_coinsBetween_1 : decode cX1_coinsBetween 1 = .ok (.getfield 23, 3) := by decide +kernel
theorem dX1_coinsBetween_4 : decode cX1_coinsBetween 4 = .ok (.iconst 0, 1) := by decide +kernel
theorem dX1_coinsBetween_5 : decode cX1_coinsBetween 5 = .ok (.aaload, 1) := by decide +kernel
theorem dX1_coinsBetween_6 : decode cX1_coinsBetween 6 = .ok (.iload_n 1, 1) := by decide +kernel
theorem dX1_coinsBetween_7 : decode cX1_coinsBetween 7 = .ok (.iaload, 1) := by decide +kernel
theorem dX1_coinsBetween_8 : decode cX1_coinsBetween 8 = .ok (.aload_n 0, 1) := by decide +kernel
theorem dX1_coinsBetween_9 : decode cX1_coinsBetween 9 = .ok (.getfield 23, 3) := by decide +kernel
theorem dX1_coinsBetween_12 : decode cX1_coinsBetween 12 = .ok (.iconst 1, 1) := by decide +kernel
theorem dX1_coinsBetween_13 : decode cX1_coinsBetween 13 = .ok (.aaload, 1) := by decide +kernel
theorem dX1_coinsBetween_14 : decode cX1_coinsBetween 14 = .ok (.iload_n 2, 1) := by decide +kernel
theorem dX1_coinsBetween_15 : decode cX1_coinsBetween 15 = .ok (.iaload, 1) := by decide +kernel
theorem dX1_coinsBetween_16 : decode cX1_coinsBetween 16 = .ok (.isub, 1) := by decide +kernel
theorem dX1_coinsBetween_17 : decode cX1_coinsBetween 17 = .ok (.invokestatic 63, 3) := by decide +kernel
theorem dX1_coinsBetween_20 : decode cX1_coinsBetween 20 = .ok (.ireturn, 1) := by decide +kernel
theorem dX1_daysBetween_0 : decode cX1_daysBetween 0 = .ok (.aload_n 0, 1) := by decide +kernel
theorem dX1_daysBetween_1 : decode cX1_daysBetween 1 = .ok (.getfield 17, 3) := by decide +kernel
theorem dX1_daysBetween_4 : decode cX1_daysBetween 4 = .ok (.iconst 0, 1) := by decide +kernel
theorem dX1_daysBetween_5 : decode cX1_daysBetween 5 = .ok (.aaload, 1) := by decide +kernel
theorem dX1_daysBetween_6 : decode cX1_daysBetween 6 = .ok (.iload_n 1, 1) := by decide +kernel
theorem dX1_daysBetween_7 : decode cX1_daysBetween 7 = .ok (.iaload, 1) := by decide +kernel
theorem dX1_daysBetween_8 : decode cX1_daysBetween 8 = .ok (.aload_n 0, 1) := by decide +kernel
theorem dX1_daysBetween_9 : decode cX1_daysBetween 9 = .ok (.getfield 17, 3) := by decide +kernel
theorem dX1_daysBetween_12 : decode cX1_daysBetween 12 = .ok (.iconst 1, 1) := by decide +kernel
theorem dX1_daysBetween_13 : decode cX1_daysBetween 13 = .ok (.aaload, 1) := by decide +kernel
theorem dX1_daysBetween_14 : decode cX1_daysBetween 14 = .ok (.iload_n 2, 1) := by decide +kernel
theorem dX1_daysBetween_15 : decode cX1_daysBetween 15 = .ok (.iaload, 1) := by decide +kernel
theorem dX1_daysBetween_16 : decode cX1_daysBetween 16 = .ok (.isub, 1) := by decide +kernel
theorem dX1_daysBetween_17 : decode cX1_daysBetween 17 = .ok (.invokestatic 63, 3) := by decide +kernel
theorem dX1_daysBetween_20 : decode cX1_daysBetween 20 = .ok (.ireturn, 1) := by decide +kernel
theorem dX1_bestWorth_0 : decode cX1_bestWorth 0 = .ok (.iload_n 1, 1) := by decide +kernel
theorem dX1_bestWorth_1 : decode cX1_bestWorth 1 = .ok (.iconst 1, 1) := by decide +kernel
theorem dX1_bestWorth_2 : decode cX1_bestWorth 2 = .ok (.iadd, 1) := by decide +kernel
theorem dX1_bestWorth_3 : decode cX1_bestWorth 3 = .ok (.iload_n 3, 1) := by decide +kernel
theorem dX1_bestWorth_4 : decode cX1_bestWorth 4 = .ok (.imul, 1) := by decide +kernel
theorem dX1_bestWorth_5 : decode cX1_bestWorth 5 = .ok (.istore 4, 2) := by decide +kernel
theorem dX1_bestWorth_7 : decode cX1_bestWorth 7 = .ok (.aload_n 0, 1) := by decide +kernel
theorem dX1_bestWorth_8 : decode cX1_bestWorth 8 = .ok (.getfield 36, 3) := by decide +kernel
theorem dX1_bestWorth_11 : decode cX1_bestWorth 11 = .ok (.iload 4, 2) := by decide +kernel
theorem dX1_bestWorth_13 : decode cX1_bestWorth 13 = .ok (.iload_n 2, 1) := by decide +kernel
theorem dX1_bestWorth_14 : decode cX1_bestWorth 14 = .ok (.iadd, 1) := by decide +kernel
theorem dX1_bestWorth_15 : decode cX1_bestWorth 15 = .ok (.iaload, 1) := by decide +kernel
theorem dX1_bestWorth_16 : decode cX1_bestWorth 16 = .ok (.istore 5, 2) := by decide +kernel
theorem dX1_bestWorth_18 : decode cX1_bestWorth 18 = .ok (.iconst 0, 1) := by decide +kernel
theorem dX1_bestWorth_19 : decode cX1_bestWorth 19 = .ok (.istore 6, 2) := by decide +kernel
theorem dX1_bestWorth_21 : decode cX1_bestWorth 21 = .ok (.iload 6, 2) := by decide +kernel
theorem dX1_bestWorth_23 : decode cX1_bestWorth 23 = .ok (.aload_n 0, 1) := by decide +kernel
theorem dX1_bestWorth_24 : decode cX1_bestWorth 24 = .ok (.getfield 11, 3) := by decide +kernel
theorem dX1_bestWorth_27 : decode cX1_bestWorth 27 = .ok (.iconst 1, 1) := by decide +kernel
theorem dX1_bestWorth_28 : decode cX1_bestWorth 28 = .ok (.iaload, 1) := by decide +kernel
theorem dX1_bestWorth_29 : decode cX1_bestWorth 29 = .ok (.if_icmp .ge 61, 3) := by decide +kernel
theorem dX1_bestWorth_32 : decode cX1_bestWorth 32 = .ok (.aload_n 0, 1) := by decide +kernel
theorem dX1_bestWorth_33 : decode cX1_bestWorth 33 = .ok (.getfield 29, 3) := by decide +kernel
theorem dX1_bestWorth_36 : decode cX1_bestWorth 36 = .ok (.iload_n 1, 1) := by decide +kernel
theorem dX1_bestWorth_37 : decode cX1_bestWorth 37 = .ok (.bipush 10, 2) := by decide +kernel
theorem dX1_bestWorth_39 : decode cX1_bestWorth 39 = .ok (.imul, 1) := by decide +kernel
theorem dX1_bestWorth_40 : decode cX1_bestWorth 40 = .ok (.iload 6, 2) := by decide +kernel
theorem dX1_bestWorth_42 : decode cX1_bestWorth 42 = .ok (.iadd, 1) := by decide +kernel
theorem dX1_bestWorth_43 : decode cX1_bestWorth 43 = .ok (.iaload, 1) := by decide +kernel
theorem dX1_bestWorth_44 : decode cX1_bestWorth 44 = .ok (.istore 7, 2) := by decide +kernel
theorem dX1_bestWorth_46 : decode cX1_bestWorth 46 = .ok (.iload 7, 2) := by decide +kernel
theorem dX1_bestWorth_48 : decode cX1_bestWorth 48 = .ok (.ifCond .le 36, 3) := by decide +kernel
theorem dX1_bestWorth_51 : decode cX1_bestWorth 51 = .ok (.iload_n 2, 1) := by decide +kernel
theorem dX1_bestWorth_52 : decode cX1_bestWorth 52 = .ok (.iload 6, 2) := by decide +kernel
theorem dX1_bestWorth_54 : decode cX1_bestWorth 54 = .ok (.ishr, 1) := by decide +kernel
theorem dX1_bestWorth_55 : decode cX1_bestWorth 55 = .ok (.iconst 1, 1) := by decide +kernel
theorem dX1_bestWorth_56 : decode cX1_bestWorth 56 = .ok (.iand, 1) := by decide +kernel
theorem dX1_bestWorth_57 : decode cX1_bestWorth 57 = .ok (.ifCond .ne 27, 3) := by decide +kernel
theorem dX1_bestWorth_60 : decode cX1_bestWorth 60 = .ok (.iload 5, 2) := by decide +kernel
theorem dX1_bestWorth_62 : decode cX1_bestWorth 62 = .ok (.iload 7, 2) := by decide +kernel
theorem dX1_bestWorth_64 : decode cX1_bestWorth 64 = .ok (.aload_n 0, 1) := by decide +kernel
theorem dX1_bestWorth_65 : decode cX1_bestWorth 65 = .ok (.getfield 36, 3) := by decide +kernel
theorem dX1_bestWorth_68 : decode cX1_bestWorth 68 = .ok (.iload 4, 2) := by decide +kernel
theorem dX1_bestWorth_70 : decode cX1_bestWorth 70 = .ok (.iload_n 2, 1) := by decide +kernel
theorem dX1_bestWorth_71 : decode cX1_bestWorth 71 = .ok (.iconst 1, 1) := by decide +kernel
theorem dX1_bestWorth_72 : decode cX1_bestWorth 72 = .ok (.iload 6, 2) := by decide +kernel
theorem dX1_bestWorth_74 : decode cX1_bestWorth 74 = .ok (.ishl, 1) := by decide +kernel
theorem dX1_bestWorth_75 : decode cX1_bestWorth 75 = .ok (.ior, 1) := by decide +kernel
theorem dX1_bestWorth_76 : decode cX1_bestWorth 76 = .ok (.iadd, 1) := by decide +kernel
theorem dX1_bestWorth_77 : decode cX1_bestWorth 77 = .ok (.iaload, 1) := by decide +kernel
theorem dX1_bestWorth_78 : decode cX1_bestWorth 78 = .ok (.iadd, 1) := by decide +kernel
theorem dX1_bestWorth_79 : decode cX1_bestWorth 79 = .ok (.invokestatic 68, 3) := by decide +kernel
theorem dX1_bestWorth_82 : decode cX1_bestWorth 82 = .ok (.istore 5, 2) := by decide +kernel
theorem dX1_bestWorth_84 : decode cX1_bestWorth 84 = .ok (.iinc 6 1, 3) := by decide +kernel
theorem dX1_bestWorth_87 : decode cX1_bestWorth 87 = .ok (.goto (-66), 3) := by decide +kernel
theorem dX1_bestWorth_90 : decode cX1_bestWorth 90 = .ok (.iload 5, 2) := by decide +kernel
theorem dX1_bestWorth_92 : decode cX1_bestWorth 92 = .ok (.ireturn, 1) := by decide +kernel
theorem dX1_keepFirstBest_0 : decode cX1_keepFirstBest 0 = .ok (.iconst 0, 1) := by decide +kernel
theorem dX1_keepFirstBest_1 : decode cX1_keepFirstBest 1 = .ok (.istore_n 2, 1) := by decide +kernel
theorem dX1_keepFirstBest_2 : decode cX1_keepFirstBest 2 = .ok (.aload_n 0, 1) := by decide +kernel
theorem dX1_keepFirstBest_3 : decode cX1_keepFirstBest 3 = .ok (.iconst 0, 1) := by decide +kernel
theorem dX1_keepFirstBest_4 : decode cX1_keepFirstBest 4 = .ok (.putfield 71, 3) := by decide +kernel
theorem dX1_keepFirstBest_7 : decode cX1_keepFirstBest 7 = .ok (.aload_n 0, 1) := by decide +kernel
theorem dX1_keepFirstBest_8 : decode cX1_keepFirstBest 8 = .ok (.iconst 0, 1) := by decide +kernel
theorem dX1_keepFirstBest_9 : decode cX1_keepFirstBest 9 = .ok (.putfield 75, 3) := by decide +kernel
theorem dX1_keepFirstBest_12 : decode cX1_keepFirstBest 12 = .ok (.iconst 0, 1) := by decide +kernel
theorem dX1_keepFirstBest_13 : decode cX1_keepFirstBest 13 = .ok (.istore_n 3, 1) := by decide +kernel
theorem dX1_keepFirstBest_14 : decode cX1_keepFirstBest 14 = .ok (.iload_n 3, 1) := by decide +kernel
theorem dX1_keepFirstBest_15 : decode cX1_keepFirstBest 15 = .ok (.aload_n 0, 1) := by decide +kernel
theorem dX1_keepFirstBest_16 : decode cX1_keepFirstBest 16 = .ok (.getfield 11, 3) := by decide +kernel
theorem dX1_keepFirstBest_19 : decode cX1_keepFirstBest 19 = .ok (.iconst 0, 1) := by decide +kernel
theorem dX1_keepFirstBest_20 : decode cX1_keepFirstBest 20 = .ok (.iaload, 1) := by decide +kernel
theorem dX1_keepFirstBest_21 : decode cX1_keepFirstBest 21 = .ok (.if_icmp .ge 71, 3) := by decide +kernel
theorem dX1_keepFirstBest_24 : decode cX1_keepFirstBest 24 = .ok (.aload_n 0, 1) := by decide +kernel
theorem dX1_keepFirstBest_25 : decode cX1_keepFirstBest 25 = .ok (.iload_n 3, 1) := by decide +kernel
theorem dX1_keepFirstBest_26 : decode cX1_keepFirstBest 26 = .ok (.iload_n 2, 1) := by decide +kernel
theorem dX1_keepFirstBest_27 : decode cX1_keepFirstBest 27 = .ok (.iload_n 1, 1) := by decide +kernel
theorem dX1_keepFirstBest_28 : decode cX1_keepFirstBest 28 = .ok (.invokevirtual 78, 3) := by decide +kernel
theorem dX1_keepFirstBest_31 : decode cX1_keepFirstBest 31 = .ok (.istore 4, 2) := by decide +kernel
theorem dX1_keepFirstBest_33 : decode cX1_keepFirstBest 33 = .ok (.aload_n 0, 1) := by decide +kernel
theorem dX1_keepFirstBest_34 : decode cX1_keepFirstBest 34 = .ok (.getfield 26, 3) := by decide +kernel
theorem dX1_keepFirstBest_37 : decode cX1_keepFirstBest 37 = .ok (.iload_n 3, 1) := by decide +kernel
theorem dX1_keepFirstBest_38 : decode cX1_keepFirstBest 38 = .ok (.iload 4, 2) := by decide +kernel
theorem dX1_keepFirstBest_40 : decode cX1_keepFirstBest 40 = .ok (.iastore, 1) := by decide +kernel
theorem dX1_keepFirstBest_41 : decode cX1_keepFirstBest 41 = .ok (.iload 4, 2) := by decide +kernel
theorem dX1_keepFirstBest_43 : decode cX1_keepFirstBest 43 = .ok (.iconst (-1), 1) := by decide +kernel
theorem dX1_keepFirstBest_44 : decode cX1_keepFirstBest 44 = .ok (.if_icmp .eq 42, 3) := by decide +kernel
theorem dX1_keepFirstBest_47 : decode cX1_keepFirstBest 47 = .ok (.iload_n 2, 1) := by decide +kernel
theorem dX1_keepFirstBest_48 : decode cX1_keepFirstBest 48 = .ok (.iconst 1, 1) := by decide +kernel
theorem dX1_keepFirstBest_49 : decode cX1_keepFirstBest 49 = .ok (.iload 4, 2) := by decide +kernel
theorem dX1_keepFirstBest_51 : decode cX1_keepFirstBest 51 = .ok (.ishl, 1) := by decide +kernel
theorem dX1_keepFirstBest_52 : decode cX1_keepFirstBest 52 = .ok (.ior, 1) := by decide +kernel
theorem dX1_keepFirstBest_53 : decode cX1_keepFirstBest 53 = .ok (.istore_n 2, 1) := by decide +kernel
theorem dX1_keepFirstBest_54 : decode cX1_keepFirstBest 54 = .ok (.aload_n 0, 1) := by decide +kernel
theorem dX1_keepFirstBest_55 : decode cX1_keepFirstBest 55 = .ok (.dup, 1) := by decide +kernel
theorem dX1_keepFirstBest_56 : decode cX1_keepFirstBest 56 = .ok (.getfield 71, 3) := by decide +kernel
theorem dX1_keepFirstBest_59 : decode cX1_keepFirstBest 59 = .ok (.aload_n 0, 1) := by decide +kernel
theorem dX1_keepFirstBest_60 : decode cX1_keepFirstBest 60 = .ok (.iload_n 3, 1) := by decide +kernel
theorem dX1_keepFirstBest_61 : decode cX1_keepFirstBest 61 = .ok (.iload 4, 2) := by decide +kernel
theorem dX1_keepFirstBest_63 : decode cX1_keepFirstBest 63 = .ok (.invokevirtual 56, 3) := by decide +kernel
theorem dX1_keepFirstBest_66 : decode cX1_keepFirstBest 66 = .ok (.iadd, 1) := by decide +kernel
theorem dX1_keepFirstBest_67 : decode cX1_keepFirstBest 67 = .ok (.putfield 71, 3) := by decide +kernel
theorem dX1_keepFirstBest_70 : decode cX1_keepFirstBest 70 = .ok (.aload_n 0, 1) := by decide +kernel
theorem dX1_keepFirstBest_71 : decode cX1_keepFirstBest 71 = .ok (.dup, 1) := by decide +kernel
theorem dX1_keepFirstBest_72 : decode cX1_keepFirstBest 72 = .ok (.getfield 75, 3) := by decide +kernel
theorem dX1_keepFirstBest_75 : decode cX1_keepFirstBest 75 = .ok (.aload_n 0, 1) := by decide +kernel
theorem dX1_keepFirstBest_76 : decode cX1_keepFirstBest 76 = .ok (.iload_n 3, 1) := by decide +kernel
theorem dX1_keepFirstBest_77 : decode cX1_keepFirstBest 77 = .ok (.iload 4, 2) := by decide +kernel
theorem dX1_keepFirstBest_79 : decode cX1_keepFirstBest 79 = .ok (.invokevirtual 60, 3) := by decide +kernel
theorem dX1_keepFirstBest_82 : decode cX1_keepFirstBest 82 = .ok (.iadd, 1) := by decide +kernel
theorem dX1_keepFirstBest_83 : decode cX1_keepFirstBest 83 = .ok (.putfield 75, 3) := by decide +kernel
theorem dX1_keepFirstBest_86 : decode cX1_keepFirstBest 86 = .ok (.iinc 3 1, 3) := by decide +kernel
theorem dX1_keepFirstBest_89 : decode cX1_keepFirstBest 89 = .ok (.goto (-75), 3) := by decide +kernel
theorem dX1_keepFirstBest_92 : decode cX1_keepFirstBest 92 = .ok (.aload_n 0, 1) := by decide +kernel
theorem dX1_keepFirstBest_93 : decode cX1_keepFirstBest 93 = .ok (.iconst 1, 1) := by decide +kernel
theorem dX1_keepFirstBest_94 : decode cX1_keepFirstBest 94 = .ok (.putfield 32, 3) := by decide +kernel
theorem dX1_keepFirstBest_97 : decode cX1_keepFirstBest 97 = .ok (.iload_n 2, 1) := by decide +kernel
theorem dX1_keepFirstBest_98 : decode cX1_keepFirstBest 98 = .ok (.invokestatic 43, 3) := by decide +kernel
theorem dX1_keepFirstBest_101 : decode cX1_keepFirstBest 101 = .ok (.ireturn, 1) := by decide +kernel
theorem dX1_firstPartner_0 : decode cX1_firstPartner 0 = .ok (.iload_n 1, 1) := by decide +kernel
theorem dX1_firstPartner_1 : decode cX1_firstPartner 1 = .ok (.iconst 1, 1) := by decide +kernel
theorem dX1_firstPartner_2 : decode cX1_firstPartner 2 = .ok (.iadd, 1) := by decide +kernel
theorem dX1_firstPartner_3 : decode cX1_firstPartner 3 = .ok (.iload_n 3, 1) := by decide +kernel
theorem dX1_firstPartner_4 : decode cX1_firstPartner 4 = .ok (.imul, 1) := by decide +kernel
theorem dX1_firstPartner_5 : decode cX1_firstPartner 5 = .ok (.istore 4, 2) := by decide +kernel
theorem dX1_firstPartner_7 : decode cX1_firstPartner 7 = .ok (.aload_n 0, 1) := by decide +kernel
theorem dX1_firstPartner_8 : decode cX1_firstPartner 8 = .ok (.getfield 36, 3) := by decide +kernel
theorem dX1_firstPartner_11 : decode cX1_firstPartner 11 = .ok (.iload_n 1, 1) := by decide +kernel
theorem dX1_firstPartner_12 : decode cX1_firstPartner 12 = .ok (.iload_n 3, 1) := by decide +kernel
theorem dX1_firstPartner_13 : decode cX1_firstPartner 13 = .ok (.imul, 1) := by decide +kernel
theorem dX1_firstPartner_14 : decode cX1_firstPartner 14 = .ok (.iload_n 2, 1) := by decide +kernel
theorem dX1_firstPartner_15 : decode cX1_firstPartner 15 = .ok (.iadd, 1) := by decide +kernel
theorem dX1_firstPartner_16 : decode cX1_firstPartner 16 = .ok (.iaload, 1) := by decide +kernel
theorem dX1_firstPartner_17 : decode cX1_firstPartner 17 = .ok (.istore 5, 2) := by decide +kernel
theorem dX1_firstPartner_19 : decode cX1_firstPartner 19 = .ok (.iconst 0, 1) := by decide +kernel
theorem dX1_firstPartner_20 : decode cX1_firstPartner 20 = .ok (.istore 6, 2) := by decide +kernel
theorem dX1_firstPartner_22 : decode cX1_firstPartner 22 = .ok (.iload 6, 2) := by decide +kernel
theorem dX1_firstPartner_24 : decode cX1_firstPartner 24 = .ok (.aload_n 0, 1) := by decide +kernel
theorem dX1_firstPartner_25 : decode cX1_firstPartner 25 = .ok (.getfield 11, 3) := by decide +kernel
theorem dX1_firstPartner_28 : decode cX1_firstPartner 28 = .ok (.iconst 1, 1) := by decide +kernel
theorem dX1_firstPartner_29 : decode cX1_firstPartner 29 = .ok (.iaload, 1) := by decide +kernel
theorem dX1_firstPartner_30 : decode cX1_firstPartner 30 = .ok (.if_icmp .ge 62, 3) := by decide +kernel
theorem dX1_firstPartner_33 : decode cX1_firstPartner 33 = .ok (.aload_n 0, 1) := by decide +kernel
theorem dX1_firstPartner_34 : decode cX1_firstPartner 34 = .ok (.getfield 29, 3) := by decide +kernel
theorem dX1_firstPartner_37 : decode cX1_firstPartner 37 = .ok (.iload_n 1, 1) := by decide +kernel
theorem dX1_firstPartner_38 : decode cX1_firstPartner 38 = .ok (.bipush 10, 2) := by decide +kernel
theorem dX1_firstPartner_40 : decode cX1_firstPartner 40 = .ok (.imul, 1) := by decide +kernel
theorem dX1_firstPartner_41 : decode cX1_firstPartner 41 = .ok (.iload 6, 2) := by decide +kernel
theorem dX1_firstPartner_43 : decode cX1_firstPartner 43 = .ok (.iadd, 1) := by decide +kernel
theorem dX1_firstPartner_44 : decode cX1_firstPartner 44 = .ok (.iaload, 1) := by decide +kernel
theorem dX1_firstPartner_45 : decode cX1_firstPartner 45 = .ok (.istore 7, 2) := by decide +kernel
theorem dX1_firstPartner_47 : decode cX1_firstPartner 47 = .ok (.iload 7, 2) := by decide +kernel
theorem dX1_firstPartner_49 : decode cX1_firstPartner 49 = .ok (.ifCond .le 37, 3) := by decide +kernel
theorem dX1_firstPartner_52 : decode cX1_firstPartner 52 = .ok (.iload_n 2, 1) := by decide +kernel
theorem dX1_firstPartner_53 : decode cX1_firstPartner 53 = .ok (.iload 6, 2) := by decide +kernel
theorem dX1_firstPartner_55 : decode cX1_firstPartner 55 = .ok (.ishr, 1) := by decide +kernel
theorem dX1_firstPartner_56 : decode cX1_firstPartner 56 = .ok (.iconst 1, 1) := by decide +kernel
theorem dX1_firstPartner_57 : decode cX1_firstPartner 57 = .ok (.iand, 1) := by decide +kernel
theorem dX1_firstPartner_58 : decode cX1_firstPartner 58 = .ok (.ifCond .ne 28, 3) := by decide +kernel
theorem dX1_firstPartner_61 : decode cX1_firstPartner 61 = .ok (.iload 7, 2) := by decide +kernel
theorem dX1_firstPartner_63 : decode cX1_firstPartner 63 = .ok (.aload_n 0, 1) := by decide +kernel
theorem dX1_firstPartner_64 : decode cX1_firstPartner 64 = .ok (.getfield 36, 3) := by decide +kernel
theorem dX1_firstPartner_67 : decode cX1_firstPartner 67 = .ok (.iload 4, 2) := by decide +kernel
theorem dX1_firstPartner_69 : decode cX1_firstPartner 69 = .ok (.iload_n 2, 1) := by decide +kernel
theorem dX1_firstPartner_70 : decode cX1_firstPartner 70 = .ok (.iconst 1, 1) := by decide +kernel
theorem dX1_firstPartner_71 : decode cX1_firstPartner 71 = .ok (.iload 6, 2) := by decide +kernel
theorem dX1_firstPartner_73 : decode cX1_firstPartner 73 = .ok (.ishl, 1) := by decide +kernel
theorem dX1_firstPartner_74 : decode cX1_firstPartner 74 = .ok (.ior, 1) := by decide +kernel
theorem dX1_firstPartner_75 : decode cX1_firstPartner 75 = .ok (.iadd, 1) := by decide +kernel
theorem dX1_firstPartner_76 : decode cX1_firstPartner 76 = .ok (.iaload, 1) := by decide +kernel
theorem dX1_firstPartner_77 : decode cX1_firstPartner 77 = .ok (.iadd, 1) := by decide +kernel
theorem dX1_firstPartner_78 : decode cX1_firstPartner 78 = .ok (.iload 5, 2) := by decide +kernel
theorem dX1_firstPartner_80 : decode cX1_firstPartner 80 = .ok (.if_icmp .ne 6, 3) := by decide +kernel
theorem dX1_firstPartner_83 : decode cX1_firstPartner 83 = .ok (.iload 6, 2) := by decide +kernel
theorem dX1_firstPartner_85 : decode cX1_firstPartner 85 = .ok (.ireturn, 1) := by decide +kernel
theorem dX1_firstPartner_86 : decode cX1_firstPartner 86 = .ok (.iinc 6 1, 3) := by decide +kernel
theorem dX1_firstPartner_89 : decode cX1_firstPartner 89 = .ok (.goto (-67), 3) := by decide +kernel
theorem dX1_firstPartner_92 : decode cX1_firstPartner 92 = .ok (.iconst (-1), 1) := by decide +kernel
theorem dX1_firstPartner_93 : decode cX1_firstPartner 93 = .ok (.ireturn, 1) := by decide +kernel
theorem dX2_init_0 : decode cX2_init 0 = .ok (.aload_n 0, 1) := by decide +kernel
theorem dX2_init_1 : decode cX2_init 1 = .ok (.invokespecial 3, 3) := by decide +kernel
theorem dX2_init_4 : decode cX2_init 4 = .ok (.aload_n 0, 1) := by decide +kernel
theorem dX2_init_5 : decode cX2_init 5 = .ok (.new 9, 3) := by decide +kernel
theorem dX2_init_8 : decode cX2_init 8 = .ok (.dup, 1) := by decide +kernel
theorem dX2_init_9 : decode cX2_init 9 = .ok (.invokespecial 11, 3) := by decide +kernel
theorem dX2_init_12 : decode cX2_init 12 = .ok (.putfield 12, 3) := by decide +kernel
theorem dX2_init_15 : decode cX2_init 15 = .ok (.aload_n 0, 1) := by decide +kernel
theorem dX2_init_16 : decode cX2_init 16 = .ok (.bipush 14, 2) := by decide +kernel
theorem dX2_init_18 : decode cX2_init 18 = .ok (.newarray .long, 2) := by decide +kernel
theorem dX2_init_20 : decode cX2_init 20 = .ok (.putfield 18, 3) := by decide +kernel
theorem dX2_init_23 : decode cX2_init 23 = .ok (.aload_n 0, 1) := by decide +kernel
theorem dX2_init_24 : decode cX2_init 24 = .ok (.bipush 80, 2) := by decide +kernel
theorem dX2_init_26 : decode cX2_init 26 = .ok (.newarray .long, 2) := by decide +kernel
theorem dX2_init_28 : decode cX2_init 28 = .ok (.putfield 24, 3) := by decide +kernel
theorem dX2_init_31 : decode cX2_init 31 = .ok (.aload_n 0, 1) := by decide +kernel
theorem dX2_init_32 : decode cX2_init 32 = .ok (.iconst (-1), 1) := by decide +kernel
theorem dX2_init_33 : decode cX2_init 33 = .ok (.putfield 27, 3) := by decide +kernel
theorem dX2_init_36 : decode cX2_init 36 = .ok (.aload_n 0, 1) := by decide +kernel
theorem dX2_init_37 : decode cX2_init 37 = .ok (.iconst (-1), 1) := by decide +kernel
theorem dX2_init_38 : decode cX2_init 38 = .ok (.putfield 31, 3) := by decide +kernel
theorem dX2_init_41 : decode cX2_init 41 = .ok (.return_, 1) := by decide +kernel
theorem dX2_lawAt_0 : decode cX2_lawAt 0 = .ok (.iload_n 1, 1) := by decide +kernel
theorem dX2_lawAt_1 : decode cX2_lawAt 1 = .ok (.ifCond .lt 14, 3) := by decide +kernel
theorem dX2_lawAt_4 : decode cX2_lawAt 4 = .ok (.iload_n 1, 1) := by decide +kernel
theorem dX2_lawAt_5 : decode cX2_lawAt 5 = .ok (.aload_n 0, 1) := by decide +kernel
theorem dX2_lawAt_6 : decode cX2_lawAt 6 = .ok (.getfield 12, 3) := by decide +kernel
theorem dX2_lawAt_9 : decode cX2_lawAt 9 = .ok (.invokevirtual 34, 3) := by decide +kernel
theorem dX2_lawAt_12 : decode cX2_lawAt 12 = .ok (.if_icmp .lt 7, 3) := by decide +kernel
theorem dX2_lawAt_15 : decode cX2_lawAt 15 = .ok (.aconst_null, 1) := by decide +kernel
theorem dX2_lawAt_16 : decode cX2_lawAt 16 = .ok (.goto 14, 3) := by decide +kernel
theorem dX2_lawAt_19 : decode cX2_lawAt 19 = .ok (.aload_n 0, 1) := by decide +kernel
theorem dX2_lawAt_20 : decode cX2_lawAt 20 = .ok (.getfield 12, 3) := by decide +kernel
theorem dX2_lawAt_23 : decode cX2_lawAt 23 = .ok (.iload_n 1, 1) := by decide +kernel
theorem dX2_lawAt_24 : decode cX2_lawAt 24 = .ok (.invokevirtual 38, 3) := by decide +kernel
theorem dX2_lawAt_27 : decode cX2_lawAt 27 = .ok (.checkcast 42, 3) := by decide +kernel
theorem dX2_lawAt_30 : decode cX2_lawAt 30 = .ok (.areturn, 1) := by decide +kernel
theorem dX2_inForce_0 : decode cX2_inForce 0 = .ok (.iconst (-1), 1) := by decide +kernel
theorem dX2_inForce_1 : decode cX2_inForce 1 = .ok (.istore_n 3, 1) := by decide +kernel
theorem dX2_inForce_2 : decode cX2_inForce 2 = .ok (.iconst (-1), 1) := by decide +kernel
theorem dX2_inForce_3 : decode cX2_inForce 3 = .ok (.istore 4, 2) := by decide +kernel
theorem dX2_inForce_5 : decode cX2_inForce 5 = .ok (.iconst 0, 1) := by decide +kernel
theorem dX2_inForce_6 : decode cX2_inForce 6 = .ok (.istore 5, 2) := by decide +kernel
theorem dX2_inForce_8 : decode cX2_inForce 8 = .ok (.iload 5, 2) := by decide +kernel
theorem dX2_inForce_10 : decode cX2_inForce 10 = .ok (.aload_n 0, 1) := by decide +kernel
theorem dX2_inForce_11 : decode cX2_inForce 11 = .ok (.getfield 12, 3) := by decide +kernel
theorem dX2_inForce_14 : decode cX2_inForce 14 = .ok (.invokevirtual 34, 3) := by decide +kernel
theorem dX2_inForce_17 : decode cX2_inForce 17 = .ok (.if_icmp .ge 82, 3) := by decide +kernel
theorem dX2_inForce_20 : decode cX2_inForce 20 = .ok (.aload_n 0, 1) := by decide +kernel
theorem dX2_inForce_21 : decode cX2_inForce 21 = .ok (.getfield 12, 3) := by decide +kernel
theorem dX2_inForce_24 : decode cX2_inForce 24 = .ok (.iload 5, 2) := by decide +kernel
theorem dX2_inForce_26 : decode cX2_inForce 26 = .ok (.invokevirtual 38, 3) := by decide +kernel
theorem dX2_inForce_29 : decode cX2_inForce 29 = .ok (.checkcast 42, 3) := by decide +kernel
theorem dX2_inForce_32 : decode cX2_inForce 32 = .ok (.astore 6, 2) := by decide +kernel
theorem dX2_inForce_34 : decode cX2_inForce 34 = .ok (.aload 6, 2) := by decide +kernel
theorem dX2_inForce_36 : decode cX2_inForce 36 = .ok (.getfield 44, 3) := by decide +kernel
theorem dX2_inForce_39 : decode cX2_inForce 39 = .ok (.iconst (-1), 1) := by decide +kernel
theorem dX2_inForce_40 : decode cX2_inForce 40 = .ok (.if_icmp .eq 16, 3) := by decide +kernel
theorem dX2_inForce_43 : decode cX2_inForce 43 = .ok (.aload 6, 2) := by decide +kernel
theorem dX2_inForce_45 : decode cX2_inForce 45 = .ok (.getfield 44, 3) := by decide +kernel
theorem dX2_inForce_48 : decode cX2_inForce 48 = .ok (.iload_n 2, 1) := by decide +kernel
theorem dX2_inForce_49 : decode cX2_inForce 49 = .ok (.if_icmp .gt 7, 3) := by decide +kernel
theorem dX2_inForce_52 : decode cX2_inForce 52 = .ok (.iconst 1, 1) := by decide +kernel
theorem dX2_inForce_53 : decode cX2_inForce 53 = .ok (.goto 4, 3) := by decide +kernel
theorem dX2_inForce_56 : decode cX2_inForce 56 = .ok (.iconst 0, 1) := by decide +kernel
theorem dX2_inForce_57 : decode cX2_inForce 57 = .ok (.istore 7, 2) := by decide +kernel
theorem dX2_inForce_59 : decode cX2_inForce 59 = .ok (.aload 6, 2) := by decide +kernel
theorem dX2_inForce_61 : decode cX2_inForce 61 = .ok (.getfield 47, 3) := by decide +kernel
theorem dX2_inForce_64 : decode cX2_inForce 64 = .ok (.iload_n 1, 1) := by decide +kernel
theorem dX2_inForce_65 : decode cX2_inForce 65 = .ok (.if_icmp .ne 28, 3) := by decide +kernel
theorem dX2_inForce_68 : decode cX2_inForce 68 = .ok (.iload 7, 2) := by decide +kernel
theorem dX2_inForce_70 : decode cX2_inForce 70 = .ok (.ifCond .eq 23, 3) := by decide +kernel
theorem dX2_inForce_73 : decode cX2_inForce 73 = .ok (.aload 6, 2) := by decide +kernel
theorem dX2_inForce_75 : decode cX2_inForce 75 = .ok (.getfield 44, 3) := by decide +kernel
theorem dX2_inForce_78 : decode cX2_inForce 78 = .ok (.iload 4, 2) := by decide +kernel
theorem dX2_inForce_80 : decode cX2_inForce 80 = .ok (.if_icmp .lt 13, 3) := by decide +kernel
theorem dX2_inForce_83 : decode cX2_inForce 83 = .ok (.iload 5, 2) := by decide +kernel
theorem dX2_inForce_85 : decode cX2_inForce 85 = .ok (.istore_n 3, 1) := by decide +kernel
theorem dX2_inForce_86 : decode cX2_inForce 86 = .ok (.aload 6, 2) := by decide +kernel
theorem dX2_inForce_88 : decode cX2_inForce 88 = .ok (.getfield 44, 3) := by decide +kernel
theorem dX2_inForce_91 : decode cX2_inForce 91 = .ok (.istore 4, 2) := by decide +kernel
theorem dX2_inForce_93 : decode cX2_inForce 93 = .ok (.iinc 5 1, 3) := by decide +kernel
theorem dX2_inForce_96 : decode cX2_inForce 96 = .ok (.goto (-88), 3) := by decide +kernel
theorem dX2_inForce_99 : decode cX2_inForce 99 = .ok (.iload_n 3, 1) := by decide +kernel
theorem dX2_inForce_100 : decode cX2_inForce 100 = .ok (.ireturn, 1) := by decide +kernel
theorem dX2_decide_0 : decode cX2_decide 0 = .ok (.iconst 2, 1) := by decide +kernel
theorem dX2_decide_1 : decode cX2_decide 1 = .ok (.istore_n 2, 1) := by decide +kernel
theorem dX2_decide_2 : decode cX2_decide 2 = .ok (.iload_n 2, 1) := by decide +kernel
theorem dX2_decide_3 : decode cX2_decide 3 = .ok (.ifCond .lt 78, 3) := by decide +kernel
theorem dX2_decide_6 : decode cX2_decide 6 = .ok (.aload_n 0, 1) := by decide +kernel
theorem dX2_decide_7 : decode cX2_decide 7 = .ok (.iload_n 2, 1) := by decide +kernel
theorem dX2_decide_8 : decode cX2_decide 8 = .ok (.iload_n 1, 1) := by decide +kernel
theorem dX2_decide_9 : decode cX2_decide 9 = .ok (.invokevirtual 50, 3) := by decide +kernel
theorem dX2_decide_12 : decode cX2_decide 12 = .ok (.istore_n 3, 1) := by decide +kernel
theorem dX2_decide_13 : decode cX2_decide 13 = .ok (.aload_n 0, 1) := by decide +kernel
theorem dX2_decide_14 : decode cX2_decide 14 = .ok (.iload_n 3, 1) := by decide +kernel
theorem dX2_decide_15 : decode cX2_decide 15 = .ok (.invokevirtual 54, 3) := by decide +kernel
theorem dX2_decide_18 : decode cX2_decide 18 = .ok (.astore 4, 2) := by decide +kernel
theorem dX2_decide_20 : decode cX2_decide 20 = .ok (.aload 4, 2) := by decide +kernel
theorem dX2_decide_22 : decode cX2_decide 22 = .ok (.ifnonnull 7, 3) := by decide +kernel
theorem dX2_decide_25 : decode cX2_decide 25 = .ok (.iconst (-1), 1) := by decide +kernel
theorem dX2_decide_26 : decode cX2_decide 26 = .ok (.goto 16, 3) := by decide +kernel
theorem dX2_decide_29 : decode cX2_decide 29 = .ok (.aload 4, 2) := by decide +kernel
theorem dX2_decide_31 : decode cX2_decide 31 = .ok (.aload_n 0, 1) := by decide +kernel
theorem dX2_decide_32 : decode cX2_decide 32 = .ok (.getfield 18, 3) := by decide +kernel
theorem dX2_decide_35 : decode cX2_decide 35 = .ok (.aload_n 0, 1) := by decide +kernel
theorem dX2_decide_36 : decode cX2_decide 36 = .ok (.getfield 24, 3) := by decide +kernel
theorem dX2_decide_39 : decode cX2_decide 39 = .ok (.invokevirtual 58, 3) := by decide +kernel
theorem dX2_decide_42 : decode cX2_decide 42 = .ok (.istore 5, 2) := by decide +kernel
theorem dX2_decide_44 : decode cX2_decide 44 = .ok (.aload 4, 2) := by decide +kernel
theorem dX2_decide_46 : decode cX2_decide 46 = .ok (.ifnull 29, 3) := by decide +kernel
theorem dX2_decide_49 : decode cX2_decide 49 = .ok (.iload 5, 2) := by decide +kernel
theorem dX2_decide_51 : decode cX2_decide 51 = .ok (.iconst (-1), 1) := by decide +kernel
theorem dX2_decide_52 : decode cX2_decide 52 = .ok (.if_icmp .eq 23, 3) := by decide +kernel
theorem dX2_decide_55 : decode cX2_decide 55 = .ok (.aload_n 0, 1) := by decide +kernel
theorem dX2_decide_56 : decode cX2_decide 56 = .ok (.iload_n 3, 1) := by decide +kernel
theorem dX2_decide_57 : decode cX2_decide 57 = .ok (.putfield 27, 3) := by decide +kernel
theorem dX2_decide_60 : decode cX2_decide 60 = .ok (.aload_n 0, 1) := by decide +kernel
theorem dX2_decide_61 : decode cX2_decide 61 = .ok (.iload 5, 2) := by decide +kernel
theorem dX2_decide_63 : decode cX2_decide 63 = .ok (.putfield 31, 3) := by decide +kernel
theorem dX2_decide_66 : decode cX2_decide 66 = .ok (.aload 4, 2) := by decide +kernel
theorem dX2_decide_68 : decode cX2_decide 68 = .ok (.getfield 62, 3) := by decide +kernel
theorem dX2_decide_71 : decode cX2_decide 71 = .ok (.iload 5, 2) := by decide +kernel
theorem dX2_decide_73 : decode cX2_decide 73 = .ok (.iaload, 1) := by decide +kernel
theorem dX2_decide_74 : decode cX2_decide 74 = .ok (.ireturn, 1) := by decide +kernel
theorem dX2_decide_75 : decode cX2_decide 75 = .ok (.iinc 2 (-1), 3) := by decide +kernel
theorem dX2_decide_78 : decode cX2_decide 78 = .ok (.goto (-76), 3) := by decide +kernel
theorem dX2_decide_81 : decode cX2_decide 81 = .ok (.aload_n 0, 1) := by decide +kernel
theorem dX2_decide_82 : decode cX2_decide 82 = .ok (.iconst (-1), 1) := by decide +kernel
theorem dX2_decide_83 : decode cX2_decide 83 = .ok (.putfield 27, 3) := by decide +kernel
theorem dX2_decide_86 : decode cX2_decide 86 = .ok (.aload_n 0, 1) := by decide +kernel
theorem dX2_decide_87 : decode cX2_decide 87 = .ok (.iconst (-1), 1) := by decide +kernel
theorem dX2_decide_88 : decode cX2_decide 88 = .ok (.putfield 31, 3) := by decide +kernel
theorem dX2_decide_91 : decode cX2_decide 91 = .ok (.iconst 0, 1) := by decide +kernel
theorem dX2_decide_92 : decode cX2_decide 92 = .ok (.ireturn, 1) := by decide +kernel
theorem dX3_init_0 : decode cX3_init 0 = .ok (.aload_n 0, 1) := by decide +kernel
theorem dX3_init_1 : decode cX3_init 1 = .ok (.invokespecial 1, 3) := by decide +kernel
theorem dX3_init_4 : decode cX3_init 4 = .ok (.aload_n 0, 1) := by decide +kernel
theorem dX3_init_5 : decode cX3_init 5 = .ok (.bipush 8, 2) := by decide +kernel
theorem dX3_init_7 : decode cX3_init 7 = .ok (.newarray .int, 2) := by decide +kernel
theorem dX3_init_9 : decode cX3_init 9 = .ok (.putfield 9, 3) := by decide +kernel
theorem dX3_init_12 : decode cX3_init 12 = .ok (.aload_n 0, 1) := by decide +kernel
theorem dX3_init_13 : decode cX3_init 13 = .ok (.bipush 8, 2) := by decide +kernel
theorem dX3_init_15 : decode cX3_init 15 = .ok (.newarray .int, 2) := by decide +kernel
theorem dX3_init_17 : decode cX3_init 17 = .ok (.putfield 13, 3) := by decide +kernel
theorem dX3_init_20 : decode cX3_init 20 = .ok (.aload_n 0, 1) := by decide +kernel
theorem dX3_init_21 : decode cX3_init 21 = .ok (.bipush 8, 2) := by decide +kernel
theorem dX3_init_23 : decode cX3_init 23 = .ok (.newarray .int, 2) := by decide +kernel
theorem dX3_init_25 : decode cX3_init 25 = .ok (.putfield 16, 3) := by decide +kernel
theorem dX3_init_28 : decode cX3_init 28 = .ok (.aload_n 0, 1) := by decide +kernel
theorem dX3_init_29 : decode cX3_init 29 = .ok (.sipush 256, 3) := by decide +kernel
theorem dX3_init_32 : decode cX3_init 32 = .ok (.newarray .int, 2) := by decide +kernel
theorem dX3_init_34 : decode cX3_init 34 = .ok (.putfield 19, 3) := by decide +kernel
theorem dX3_init_37 : decode cX3_init 37 = .ok (.return_, 1) := by decide +kernel
theorem dX3_setHand_0 : decode cX3_setHand 0 = .ok (.iload_n 1, 1) := by decide +kernel
theorem dX3_setHand_1 : decode cX3_setHand 1 = .ok (.ifCond .lt 17, 3) := by decide +kernel
theorem dX3_setHand_4 : decode cX3_setHand 4 = .ok (.iload_n 1, 1) := by decide +kernel
theorem dX3_setHand_5 : decode cX3_setHand 5 = .ok (.bipush 8, 2) := by decide +kernel
theorem dX3_setHand_7 : decode cX3_setHand 7 = .ok (.if_icmp .ge 11, 3) := by decide +kernel
theorem dX3_setHand_10 : decode cX3_setHand 10 = .ok (.iload_n 1, 1) := by decide +kernel
theorem dX3_setHand_11 : decode cX3_setHand 11 = .ok (.aload_n 0, 1) := by decide +kernel
theorem dX3_setHand_12 : decode cX3_setHand 12 = .ok (.getfield 22, 3) := by decide +kernel
theorem dX3_setHand_15 : decode cX3_setHand 15 = .ok (.if_icmp .le 5, 3) := by decide +kernel
theorem dX3_setHand_18 : decode cX3_setHand 18 = .ok (.iconst 0, 1) := by decide +kernel
theorem dX3_setHand_19 : decode cX3_setHand 19 = .ok (.ireturn, 1) := by decide +kernel
theorem dX3_setHand_20 : decode cX3_setHand 20 = .ok (.aload_n 0, 1) := by decide +kernel
theorem dX3_setHand_21 : decode cX3_setHand 21 = .ok (.getfield 9, 3) := by decide +kernel
theorem dX3_setHand_24 : decode cX3_setHand 24 = .ok (.iload_n 1, 1) := by decide +kernel
theorem dX3_setHand_25 : decode cX3_setHand 25 = .ok (.iload_n 2, 1) := by decide +kernel
theorem dX3_setHand_26 : decode cX3_setHand 26 = .ok (.iastore, 1) := by decide +kernel
theorem dX3_setHand_27 : decode cX3_setHand 27 = .ok (.aload_n 0, 1) := by decide +kernel
theorem dX3_setHand_28 : decode cX3_setHand 28 = .ok (.getfield 13, 3) := by decide +kernel
theorem dX3_setHand_31 : decode cX3_setHand 31 = .ok (.iload_n 1, 1) := by decide +kernel
theorem dX3_setHand_32 : decode cX3_setHand 32 = .ok (.iload_n 3, 1) := by decide +kernel
theorem dX3_setHand_33 : decode cX3_setHand 33 = .ok (.iastore, 1) := by decide +kernel
theorem dX3_setHand_34 : decode cX3_setHand 34 = .ok (.aload_n 0, 1) := by decide +kernel
theorem dX3_setHand_35 : decode cX3_setHand 35 = .ok (.getfield 16, 3) := by decide +kernel
theorem dX3_setHand_38 : decode cX3_setHand 38 = .ok (.iload_n 1, 1) := by decide +kernel
theorem dX3_setHand_39 : decode cX3_setHand 39 = .ok (.iload 4, 2) := by decide +kernel
theorem dX3_setHand_41 : decode cX3_setHand 41 = .ok (.iastore, 1) := by decide +kernel
theorem dX3_setHand_42 : decode cX3_setHand 42 = .ok (.aload_n 0, 1) := by decide +kernel
theorem dX3_setHand_43 : decode cX3_setHand 43 = .ok (.aload_n 0, 1) := by decide +kernel
theorem dX3_setHand_44 : decode cX3_setHand 44 = .ok (.getfield 22, 3) := by decide +kernel
theorem dX3_setHand_47 : decode cX3_setHand 47 = .ok (.iload_n 1, 1) := by decide +kernel
theorem dX3_setHand_48 : decode cX3_setHand 48 = .ok (.iconst 1, 1) := by decide +kernel
theorem dX3_setHand_49 : decode cX3_setHand 49 = .ok (.iadd, 1) := by decide +kernel
theorem dX3_setHand_50 : decode cX3_setHand 50 = .ok (.invokestatic 26, 3) := by decide +kernel
theorem dX3_setHand_53 : decode cX3_setHand 53 = .ok (.putfield 22, 3) := by decide +kernel
theorem dX3_setHand_56 : decode cX3_setHand 56 = .ok (.iconst 1, 1) := by decide +kernel
theorem dX3_setHand_57 : decode cX3_setHand 57 = .ok (.ireturn, 1) := by decide +kernel
theorem dX3_findHolding_0 : decode cX3_findHolding 0 = .ok (.iload_n 1, 1) := by decide +kernel
theorem dX3_findHolding_1 : decode cX3_findHolding 1 = .ok (.bipush 8, 2) := by decide +kernel
theorem dX3_findHolding_3 : decode cX3_findHolding 3 = .ok (.invokestatic 32, 3) := by decide +kernel
theorem dX3_findHolding_6 : decode cX3_findHolding 6 = .ok (.istore_n 2, 1) := by decide +kernel
theorem dX3_findHolding_7 : decode cX3_findHolding 7 = .ok (.aload_n 0, 1) := by decide +kernel
theorem dX3_findHolding_8 : decode cX3_findHolding 8 = .ok (.iconst 0, 1) := by decide +kernel
theorem dX3_findHolding_9 : decode cX3_findHolding 9 = .ok (.putfield 35, 3) := by decide +kernel
theorem dX3_findHolding_12 : decode cX3_findHolding 12 = .ok (.iconst 0, 1) := by decide +kernel
theorem dX3_findHolding_13 : decode cX3_findHolding 13 = .ok (.istore_n 3, 1) := by decide +kernel
theorem dX3_findHolding_14 : decode cX3_findHolding 14 = .ok (.iload_n 3, 1) := by decide +kernel
theorem dX3_findHolding_15 : decode cX3_findHolding 15 = .ok (.iconst 1, 1) := by decide +kernel
theorem dX3_findHolding_16 : decode cX3_findHolding 16 = .ok (.iload_n 2, 1) := by decide +kernel
theorem dX3_findHolding_17 : decode cX3_findHolding 17 = .ok (.ishl, 1) := by decide +kernel
theorem dX3_findHolding_18 : decode cX3_findHolding 18 = .ok (.if_icmp .ge 38, 3) := by decide +kernel
theorem dX3_findHolding_21 : decode cX3_findHolding 21 = .ok (.aload_n 0, 1) := by decide +kernel
theorem dX3_findHolding_22 : decode cX3_findHolding 22 = .ok (.iload_n 3, 1) := by decide +kernel
theorem dX3_findHolding_23 : decode cX3_findHolding 23 = .ok (.iload_n 2, 1) := by decide +kernel
theorem dX3_findHolding_24 : decode cX3_findHolding 24 = .ok (.invokevirtual 38, 3) := by decide +kernel
theorem dX3_findHolding_27 : decode cX3_findHolding 27 = .ok (.ifCond .eq 23, 3) := by decide +kernel
theorem dX3_findHolding_30 : decode cX3_findHolding 30 = .ok (.aload_n 0, 1) := by decide +kernel
theorem dX3_findHolding_31 : decode cX3_findHolding 31 = .ok (.getfield 19, 3) := by decide +kernel
theorem dX3_findHolding_34 : decode cX3_findHolding 34 = .ok (.aload_n 0, 1) := by decide +kernel
theorem dX3_findHolding_35 : decode cX3_findHolding 35 = .ok (.getfield 35, 3) := by decide +kernel
theorem dX3_findHolding_38 : decode cX3_findHolding 38 = .ok (.iload_n 3, 1) := by decide +kernel
theorem dX3_findHolding_39 : decode cX3_findHolding 39 = .ok (.iastore, 1) := by decide +kernel
theorem dX3_findHolding_40 : decode cX3_findHolding 40 = .ok (.aload_n 0, 1) := by decide +kernel
theorem dX3_findHolding_41 : decode cX3_findHolding 41 = .ok (.dup, 1) := by decide +kernel
theorem dX3_findHolding_42 : decode cX3_findHolding 42 = .ok (.getfield 35, 3) := by decide +kernel
theorem dX3_findHolding_45 : decode cX3_findHolding 45 = .ok (.iconst 1, 1) := by decide +kernel
theorem dX3_findHolding_46 : decode cX3_findHolding 46 = .ok (.iadd, 1) := by decide +kernel
theorem dX3_findHolding_47 : decode cX3_findHolding 47 = .ok (.putfield 35, 3) := by decide +kernel
theorem dX3_findHolding_50 : decode cX3_findHolding 50 = .ok (.iinc 3 1, 3) := by decide +kernel
theorem dX3_findHolding_53 : decode cX3_findHolding 53 = .ok (.goto (-39), 3) := by decide +kernel
theorem dX3_findHolding_56 : decode cX3_findHolding 56 = .ok (.aload_n 0, 1) := by decide +kernel
theorem dX3_findHolding_57 : decode cX3_findHolding 57 = .ok (.getfield 35, 3) := by decide +kernel
theorem dX3_findHolding_60 : decode cX3_findHolding 60 = .ok (.ireturn, 1) := by decide +kernel
theorem dX3_isStable_0 : decode cX3_isStable 0 = .ok (.iload_n 1, 1) := by decide +kernel
theorem dX3_isStable_1 : decode cX3_isStable 1 = .ok (.invokestatic 42, 3) := by decide +kernel
theorem dX3_isStable_4 : decode cX3_isStable 4 = .ok (.istore_n 3, 1) := by decide +kernel
theorem dX3_isStable_5 : decode cX3_isStable 5 = .ok (.iconst 0, 1) := by decide +kernel
theorem dX3_isStable_6 : decode cX3_isStable 6 = .ok (.istore 4, 2) := by decide +kernel
theorem dX3_isStable_8 : decode cX3_isStable 8 = .ok (.iload 4, 2) := by decide +kernel
theorem dX3_isStable_10 : decode cX3_isStable 10 = .ok (.iload_n 2, 1) := by decide +kernel
theorem dX3_isStable_11 : decode cX3_isStable 11 = .ok (.if_icmp .ge 59, 3) := by decide +kernel
theorem dX3_isStable_14 : decode cX3_isStable 14 = .ok (.iload_n 1, 1) := by decide +kernel
theorem dX3_isStable_15 : decode cX3_isStable 15 = .ok (.iload 4, 2) := by decide +kernel
theorem dX3_isStable_17 : decode cX3_isStable 17 = .ok (.ishr, 1) := by decide +kernel
theorem dX3_isStable_18 : decode cX3_isStable 18 = .ok (.iconst 1, 1) := by decide +kernel
theorem dX3_isStable_19 : decode cX3_isStable 19 = .ok (.iand, 1) := by decide +kernel
theorem dX3_isStable_20 : decode cX3_isStable 20 = .ok (.ifCond .eq 7, 3) := by decide +kernel
theorem dX3_isStable_23 : decode cX3_isStable 23 = .ok (.iconst 1, 1) := by decide +kernel
theorem dX3_isStable_24 : decode cX3_isStable 24 = .ok (.goto 4, 3) := by decide +kernel
theorem dX3_isStable_27 : decode cX3_isStable 27 = .ok (.iconst 0, 1) := by decide +kernel
theorem dX3_isStable_28 : decode cX3_isStable 28 = .ok (.istore 5, 2) := by decide +kernel
theorem dX3_isStable_30 : decode cX3_isStable 30 = .ok (.iload 5, 2) := by decide +kernel
theorem dX3_isStable_32 : decode cX3_isStable 32 = .ok (.ifCond .eq 13, 3) := by decide +kernel
theorem dX3_isStable_35 : decode cX3_isStable 35 = .ok (.aload_n 0, 1) := by decide +kernel
theorem dX3_isStable_36 : decode cX3_isStable 36 = .ok (.iload 4, 2) := by decide +kernel
theorem dX3_isStable_38 : decode cX3_isStable 38 = .ok (.iload_n 3, 1) := by decide +kernel
theorem dX3_isStable_39 : decode cX3_isStable 39 = .ok (.invokevirtual 48, 3) := by decide +kernel
theorem dX3_isStable_42 : decode cX3_isStable 42 = .ok (.ifCond .lt 20, 3) := by decide +kernel
theorem dX3_isStable_45 : decode cX3_isStable 45 = .ok (.iload 5, 2) := by decide +kernel
theorem dX3_isStable_47 : decode cX3_isStable 47 = .ok (.ifCond .ne 17, 3) := by decide +kernel
theorem dX3_isStable_50 : decode cX3_isStable 50 = .ok (.aload_n 0, 1) := by decide +kernel
theorem dX3_isStable_51 : decode cX3_isStable 51 = .ok (.iload 4, 2) := by decide +kernel
theorem dX3_isStable_53 : decode cX3_isStable 53 = .ok (.iload_n 3, 1) := by decide +kernel
theorem dX3_isStable_54 : decode cX3_isStable 54 = .ok (.iconst 1, 1) := by decide +kernel
theorem dX3_isStable_55 : decode cX3_isStable 55 = .ok (.iadd, 1) := by decide +kernel
theorem dX3_isStable_56 : decode cX3_isStable 56 = .ok (.invokevirtual 48, 3) := by decide +kernel
theorem dX3_isStable_59 : decode cX3_isStable 59 = .ok (.ifCond .le 5, 3) := by decide +kernel
theorem dX3_isStable_62 : decode cX3_isStable 62 = .ok (.iconst 0, 1) := by decide +kernel
theorem dX3_isStable_63 : decode cX3_isStable 63 = .ok (.ireturn, 1) := by decide +kernel
theorem dX3_isStable_64 : decode cX3_isStable 64 = .ok (.iinc 4 1, 3) := by decide +kernel
theorem dX3_isStable_67 : decode cX3_isStable 67 = .ok (.goto (-59), 3) := by decide +kernel
theorem dX3_isStable_70 : decode cX3_isStable 70 = .ok (.iconst 1, 1) := by decide +kernel
theorem dX3_isStable_71 : decode cX3_isStable 71 = .ok (.ireturn, 1) := by decide +kernel
theorem dX3_profit_0 : decode cX3_profit 0 = .ok (.aload_n 0, 1) := by decide +kernel
theorem dX3_profit_1 : decode cX3_profit 1 = .ok (.getfield 9, 3) := by decide +kernel
theorem dX3_profit_4 : decode cX3_profit 4 = .ok (.iload_n 1, 1) := by decide +kernel
theorem dX3_profit_5 : decode cX3_profit 5 = .ok (.iaload, 1) := by decide +kernel
theorem dX3_profit_6 : decode cX3_profit 6 = .ok (.iload_n 2, 1) := by decide +kernel
theorem dX3_profit_7 : decode cX3_profit 7 = .ok (.aload_n 0, 1) := by decide +kernel
theorem dX3_profit_8 : decode cX3_profit 8 = .ok (.getfield 16, 3) := by decide +kernel
theorem dX3_profit_11 : decode cX3_profit 11 = .ok (.iload_n 1, 1) := by decide +kernel
theorem dX3_profit_12 : decode cX3_profit 12 = .ok (.iaload, 1) := by decide +kernel
theorem dX3_profit_13 : decode cX3_profit 13 = .ok (.if_icmp .ge 12, 3) := by decide +kernel
theorem dX3_profit_16 : decode cX3_profit 16 = .ok (.aload_n 0, 1) := by decide +kernel
theorem dX3_profit_17 : decode cX3_profit 17 = .ok (.getfield 13, 3) := by decide +kernel
theorem dX3_profit_20 : decode cX3_profit 20 = .ok (.iload_n 1, 1) := by decide +kernel
theorem dX3_profit_21 : decode cX3_profit 21 = .ok (.iaload, 1) := by decide +kernel
theorem dX3_profit_22 : decode cX3_profit 22 = .ok (.goto 4, 3) := by decide +kernel
theorem dX3_profit_25 : decode cX3_profit 25 = .ok (.iconst 0, 1) := by decide +kernel
theorem dX3_profit_26 : decode cX3_profit 26 = .ok (.isub, 1) := by decide +kernel
theorem dX3_profit_27 : decode cX3_profit 27 = .ok (.ireturn, 1) := by decide +kernel
theorem dX4_init_0 : decode cX4_init 0 = .ok (.aload_n 0, 1) := by decide +kernel
theorem dX4_init_1 : decode cX4_init 1 = .ok (.invokespecial 3, 3) := by decide +kernel
theorem dX4_init_4 : decode cX4_init 4 = .ok (.aload_n 0, 1) := by decide +kernel
theorem dX4_init_5 : decode cX4_init 5 = .ok (.iload_n 1, 1) := by decide +kernel
theorem dX4_init_6 : decode cX4_init 6 = .ok (.putfield 9, 3) := by decide +kernel
theorem dX4_init_9 : decode cX4_init 9 = .ok (.aload_n 0, 1) := by decide +kernel
theorem dX4_init_10 : decode cX4_init 10 = .ok (.iload_n 2, 1) := by decide +kernel
theorem dX4_init_11 : decode cX4_init 11 = .ok (.putfield 15, 3) := by decide +kernel
theorem dX4_init_14 : decode cX4_init 14 = .ok (.aload_n 0, 1) := by decide +kernel
theorem dX4_init_15 : decode cX4_init 15 = .ok (.iload_n 3, 1) := by decide +kernel
theorem dX4_init_16 : decode cX4_init 16 = .ok (.putfield 18, 3) := by decide +kernel
theorem dX4_init_19 : decode cX4_init 19 = .ok (.aload_n 0, 1) := by decide +kernel
theorem dX4_init_20 : decode cX4_init 20 = .ok (.aload 4, 2) := by decide +kernel
theorem dX4_init_22 : decode cX4_init 22 = .ok (.putfield 21, 3) := by decide +kernel
theorem dX4_init_25 : decode cX4_init 25 = .ok (.aload_n 0, 1) := by decide +kernel
theorem dX4_init_26 : decode cX4_init 26 = .ok (.aload 5, 2) := by decide +kernel
theorem dX4_init_28 : decode cX4_init 28 = .ok (.putfield 25, 3) := by decide +kernel
theorem dX4_init_31 : decode cX4_init 31 = .ok (.aload_n 0, 1) := by decide +kernel
theorem dX4_init_32 : decode cX4_init 32 = .ok (.aload 6, 2) := by decide +kernel
theorem dX4_init_34 : decode cX4_init 34 = .ok (.putfield 28, 3) := by decide +kernel
theorem dX4_init_37 : decode cX4_init 37 = .ok (.return_, 1) := by decide +kernel
theorem dX4_firstTrue_0 : decode cX4_firstTrue 0 = .ok (.iconst 0, 1) := by decide +kernel
theorem dX4_firstTrue_1 : decode cX4_firstTrue 1 = .ok (.istore_n 3, 1) := by decide +kernel
theorem dX4_firstTrue_2 : decode cX4_firstTrue 2 = .ok (.iload_n 3, 1) := by decide +kernel
theorem dX4_firstTrue_3 : decode cX4_firstTrue 3 = .ok (.aload_n 0, 1) := by decide +kernel
theorem dX4_firstTrue_4 : decode cX4_firstTrue 4 = .ok (.getfield 21, 3) := by decide +kernel
theorem dX4_firstTrue_7 : decode cX4_firstTrue 7 = .ok (.arraylength, 1) := by decide +kernel
theorem dX4_firstTrue_8 : decode cX4_firstTrue 8 = .ok (.if_icmp .ge 32, 3) := by decide +kernel
theorem dX4_firstTrue_11 : decode cX4_firstTrue 11 = .ok (.iload_n 3, 1) := by decide +kernel
theorem dX4_firstTrue_12 : decode cX4_firstTrue 12 = .ok (.iconst 1, 1) := by decide +kernel
theorem dX4_firstTrue_13 : decode cX4_firstTrue 13 = .ok (.iadd, 1) := by decide +kernel
theorem dX4_firstTrue_14 : decode cX4_firstTrue 14 = .ok (.aload_n 0, 1) := by decide +kernel
theorem dX4_firstTrue_15 : decode cX4_firstTrue 15 = .ok (.getfield 25, 3) := by decide +kernel
theorem dX4_firstTrue_18 : decode cX4_firstTrue 18 = .ok (.arraylength, 1) := by decide +kernel
theorem dX4_firstTrue_19 : decode cX4_firstTrue 19 = .ok (.if_icmp .ge 21, 3) := by decide +kernel
theorem dX4_firstTrue_22 : decode cX4_firstTrue 22 = .ok (.aload_n 0, 1) := by decide +kernel
theorem dX4_firstTrue_23 : decode cX4_firstTrue 23 = .ok (.iload_n 3, 1) := by decide +kernel
theorem dX4_firstTrue_24 : decode cX4_firstTrue 24 = .ok (.aload_n 1, 1) := by decide +kernel
theorem dX4_firstTrue_25 : decode cX4_firstTrue 25 = .ok (.aload_n 2, 1) := by decide +kernel
theorem dX4_firstTrue_26 : decode cX4_firstTrue 26 = .ok (.invokevirtual 31, 3) := by decide +kernel
theorem dX4_firstTrue_29 : decode cX4_firstTrue 29 = .ok (.ifCond .eq 5, 3) := by decide +kernel
theorem dX4_firstTrue_32 : decode cX4_firstTrue 32 = .ok (.iload_n 3, 1) := by decide +kernel
theorem dX4_firstTrue_33 : decode cX4_firstTrue 33 = .ok (.ireturn, 1) := by decide +kernel
theorem dX4_firstTrue_34 : decode cX4_firstTrue 34 = .ok (.iinc 3 1, 3) := by decide +kernel
theorem dX4_firstTrue_37 : decode cX4_firstTrue 37 = .ok (.goto (-35), 3) := by decide +kernel
theorem dX4_firstTrue_40 : decode cX4_firstTrue 40 = .ok (.iconst (-1), 1) := by decide +kernel
theorem dX4_firstTrue_41 : decode cX4_firstTrue 41 = .ok (.ireturn, 1) := by decide +kernel
theorem dX4_isTrue_0 : decode cX4_isTrue 0 = .ok (.iconst 0, 1) := by decide +kernel
theorem dX4_isTrue_1 : decode cX4_isTrue 1 = .ok (.istore 4, 2) := by decide +kernel
theorem dX4_isTrue_3 : decode cX4_isTrue 3 = .ok (.aload_n 0, 1) := by decide +kernel
theorem dX4_isTrue_4 : decode cX4_isTrue 4 = .ok (.getfield 25, 3) := by decide +kernel
theorem dX4_isTrue_7 : decode cX4_isTrue 7 = .ok (.iload_n 1, 1) := by decide +kernel
theorem dX4_isTrue_8 : decode cX4_isTrue 8 = .ok (.iaload, 1) := by decide +kernel
theorem dX4_isTrue_9 : decode cX4_isTrue 9 = .ok (.istore 5, 2) := by decide +kernel
theorem dX4_isTrue_11 : decode cX4_isTrue 11 = .ok (.iload 5, 2) := by decide +kernel
theorem dX4_isTrue_13 : decode cX4_isTrue 13 = .ok (.aload_n 0, 1) := by decide +kernel
theorem dX4_isTrue_14 : decode cX4_isTrue 14 = .ok (.getfield 25, 3) := by decide +kernel
theorem dX4_isTrue_17 : decode cX4_isTrue 17 = .ok (.iload_n 1, 1) := by decide +kernel
theorem dX4_isTrue_18 : decode cX4_isTrue 18 = .ok (.iconst 1, 1) := by decide +kernel
theorem dX4_isTrue_19 : decode cX4_isTrue 19 = .ok (.iadd, 1) := by decide +kernel
theorem dX4_isTrue_20 : decode cX4_isTrue 20 = .ok (.iaload, 1) := by decide +kernel
theorem dX4_isTrue_21 : decode cX4_isTrue 21 = .ok (.if_icmp .ge 140, 3) := by decide +kernel
theorem dX4_isTrue_24 : decode cX4_isTrue 24 = .ok (.iload 5, 2) := by decide +kernel
theorem dX4_isTrue_26 : decode cX4_isTrue 26 = .ok (.aload_n 0, 1) := by decide +kernel
theorem dX4_isTrue_27 : decode cX4_isTrue 27 = .ok (.getfield 28, 3) := by decide +kernel
theorem dX4_isTrue_30 : decode cX4_isTrue 30 = .ok (.arraylength, 1) := by decide +kernel
theorem dX4_isTrue_31 : decode cX4_isTrue 31 = .ok (.if_icmp .ge 130, 3) := by decide +kernel
theorem dX4_isTrue_34 : decode cX4_isTrue 34 = .ok (.aload_n 0, 1) := by decide +kernel
theorem dX4_isTrue_35 : decode cX4_isTrue 35 = .ok (.getfield 28, 3) := by decide +kernel
theorem dX4_isTrue_38 : decode cX4_isTrue 38 = .ok (.iload 5, 2) := by decide +kernel
theorem dX4_isTrue_40 : decode cX4_isTrue 40 = .ok (.iaload, 1) := by decide +kernel
theorem dX4_isTrue_41 : decode cX4_isTrue 41 = .ok (.istore 6, 2) := by decide +kernel
theorem dX4_isTrue_43 : decode cX4_isTrue 43 = .ok (.iconst (-1), 1) := by decide +kernel
theorem dX4_isTrue_44 : decode cX4_isTrue 44 = .ok (.iload 6, 2) := by decide +kernel
theorem dX4_isTrue_46 : decode cX4_isTrue 46 = .ok (.isub, 1) := by decide +kernel
theorem dX4_isTrue_47 : decode cX4_isTrue 47 = .ok (.istore 7, 2) := by decide +kernel
theorem dX4_isTrue_49 : decode cX4_isTrue 49 = .ok (.iload 6, 2) := by decide +kernel
theorem dX4_isTrue_51 : decode cX4_isTrue 51 = .ok (.ifCond .ge 10, 3) := by decide +kernel
theorem dX4_isTrue_54 : decode cX4_isTrue 54 = .ok (.iload 7, 2) := by decide +kernel
theorem dX4_isTrue_56 : decode cX4_isTrue 56 = .ok (.bipush 14, 2) := by decide +kernel
theorem dX4_isTrue_58 : decode cX4_isTrue 58 = .ok (.if_icmp .ge 37, 3) := by decide +kernel
theorem dX4_isTrue_61 : decode cX4_isTrue 61 = .ok (.iload 4, 2) := by decide +kernel
theorem dX4_isTrue_63 : decode cX4_isTrue 63 = .ok (.aload_n 3, 1) := by decide +kernel
theorem dX4_isTrue_64 : decode cX4_isTrue 64 = .ok (.arraylength, 1) := by decide +kernel
theorem dX4_isTrue_65 : decode cX4_isTrue 65 = .ok (.if_icmp .lt 5, 3) := by decide +kernel
theorem dX4_isTrue_68 : decode cX4_isTrue 68 = .ok (.iconst 0, 1) := by decide +kernel
theorem dX4_isTrue_69 : decode cX4_isTrue 69 = .ok (.ireturn, 1) := by decide +kernel
theorem dX4_isTrue_70 : decode cX4_isTrue 70 = .ok (.aload_n 3, 1) := by decide +kernel
theorem dX4_isTrue_71 : decode cX4_isTrue 71 = .ok (.iload 4, 2) := by decide +kernel
theorem dX4_isTrue_73 : decode cX4_isTrue 73 = .ok (.iload 6, 2) := by decide +kernel
theorem dX4_isTrue_75 : decode cX4_isTrue 75 = .ok (.ifCond .lt 9, 3) := by decide +kernel
theorem dX4_isTrue_78 : decode cX4_isTrue 78 = .ok (.iload 6, 2) := by decide +kernel
theorem dX4_isTrue_80 : decode cX4_isTrue 80 = .ok (.i2l, 1) := by decide +kernel
theorem dX4_isTrue_81 : decode cX4_isTrue 81 = .ok (.goto 7, 3) := by decide +kernel
theorem dX4_isTrue_84 : decode cX4_isTrue 84 = .ok (.aload_n 2, 1) := by decide +kernel
theorem dX4_isTrue_85 : decode cX4_isTrue 85 = .ok (.iload 7, 2) := by decide +kernel
theorem dX4_isTrue_87 : decode cX4_isTrue 87 = .ok (.laload, 1) := by decide +kernel
theorem dX4_isTrue_88 : decode cX4_isTrue 88 = .ok (.lastore, 1) := by decide +kernel
theorem dX4_isTrue_89 : decode cX4_isTrue 89 = .ok (.iinc 4 1, 3) := by decide +kernel
theorem dX4_isTrue_92 : decode cX4_isTrue 92 = .ok (.goto 63, 3) := by decide +kernel
theorem dX4_isTrue_95 : decode cX4_isTrue 95 = .ok (.iload 7, 2) := by decide +kernel
theorem dX4_isTrue_97 : decode cX4_isTrue 97 = .ok (.bipush 20, 2) := by decide +kernel
theorem dX4_isTrue_99 : decode cX4_isTrue 99 = .ok (.if_icmp .ne 26, 3) := by decide +kernel
theorem dX4_isTrue_102 : decode cX4_isTrue 102 = .ok (.iload 4, 2) := by decide +kernel
theorem dX4_isTrue_104 : decode cX4_isTrue 104 = .ok (.iconst 1, 1) := by decide +kernel
theorem dX4_isTrue_105 : decode cX4_isTrue 105 = .ok (.if_icmp .lt 20, 3) := by decide +kernel
theorem dX4_isTrue_108 : decode cX4_isTrue 108 = .ok (.aload_n 3, 1) := by decide +kernel
theorem dX4_isTrue_109 : decode cX4_isTrue 109 = .ok (.iload 4, 2) := by decide +kernel
theorem dX4_isTrue_111 : decode cX4_isTrue 111 = .ok (.iconst 1, 1) := by decide +kernel
theorem dX4_isTrue_112 : decode cX4_isTrue 112 = .ok (.isub, 1) := by decide +kernel
theorem dX4_isTrue_113 : decode cX4_isTrue 113 = .ok (.lconst 1, 1) := by decide +kernel
theorem dX4_isTrue_114 : decode cX4_isTrue 114 = .ok (.aload_n 3, 1) := by decide +kernel
theorem dX4_isTrue_115 : decode cX4_isTrue 115 = .ok (.iload 4, 2) := by decide +kernel
theorem dX4_isTrue_117 : decode cX4_isTrue 117 = .ok (.iconst 1, 1) := by decide +kernel
theorem dX4_isTrue_118 : decode cX4_isTrue 118 = .ok (.isub, 1) := by decide +kernel
theorem dX4_isTrue_119 : decode cX4_isTrue 119 = .ok (.laload, 1) := by decide +kernel
theorem dX4_isTrue_120 : decode cX4_isTrue 120 = .ok (.lsub, 1) := by decide +kernel
theorem dX4_isTrue_121 : decode cX4_isTrue 121 = .ok (.lastore, 1) := by decide +kernel
theorem dX4_isTrue_122 : decode cX4_isTrue 122 = .ok (.goto 33, 3) := by decide +kernel
theorem dX4_isTrue_125 : decode cX4_isTrue 125 = .ok (.iload 4, 2) := by decide +kernel
theorem dX4_isTrue_127 : decode cX4_isTrue 127 = .ok (.iconst 2, 1) := by decide +kernel
theorem dX4_isTrue_128 : decode cX4_isTrue 128 = .ok (.if_icmp .lt 27, 3) := by decide +kernel
theorem dX4_isTrue_131 : decode cX4_isTrue 131 = .ok (.iinc 4 (-1), 3) := by decide +kernel
theorem dX4_isTrue_134 : decode cX4_isTrue 134 = .ok (.aload_n 3, 1) := by decide +kernel
theorem dX4_isTrue_135 : decode cX4_isTrue 135 = .ok (.iload 4, 2) := by decide +kernel
theorem dX4_isTrue_137 : decode cX4_isTrue 137 = .ok (.iconst 1, 1) := by decide +kernel
theorem dX4_isTrue_138 : decode cX4_isTrue 138 = .ok (.isub, 1) := by decide +kernel
theorem dX4_isTrue_139 : decode cX4_isTrue 139 = .ok (.iload 7, 2) := by decide +kernel
theorem dX4_isTrue_141 : decode cX4_isTrue 141 = .ok (.aload_n 3, 1) := by decide +kernel
theorem dX4_isTrue_142 : decode cX4_isTrue 142 = .ok (.iload 4, 2) := by decide +kernel
theorem dX4_isTrue_144 : decode cX4_isTrue 144 = .ok (.iconst 1, 1) := by decide +kernel
theorem dX4_isTrue_145 : decode cX4_isTrue 145 = .ok (.isub, 1) := by decide +kernel
theorem dX4_isTrue_146 : decode cX4_isTrue 146 = .ok (.laload, 1) := by decide +kernel
theorem dX4_isTrue_147 : decode cX4_isTrue 147 = .ok (.aload_n 3, 1) := by decide +kernel
theorem dX4_isTrue_148 : decode cX4_isTrue 148 = .ok (.iload 4, 2) := by decide +kernel
theorem dX4_isTrue_150 : decode cX4_isTrue 150 = .ok (.laload, 1) := by decide +kernel
theorem dX4_isTrue_151 : decode cX4_isTrue 151 = .ok (.invokestatic 35, 3) := by decide +kernel
theorem dX4_isTrue_154 : decode cX4_isTrue 154 = .ok (.lastore, 1) := by decide +kernel
theorem dX4_isTrue_155 : decode cX4_isTrue 155 = .ok (.iinc 5 1, 3) := by decide +kernel
theorem dX4_isTrue_158 : decode cX4_isTrue 158 = .ok (.goto (-147), 3) := by decide +kernel
theorem dX4_isTrue_161 : decode cX4_isTrue 161 = .ok (.iload 4, 2) := by decide +kernel
theorem dX4_isTrue_163 : decode cX4_isTrue 163 = .ok (.iconst 1, 1) := by decide +kernel
theorem dX4_isTrue_164 : decode cX4_isTrue 164 = .ok (.if_icmp .ne 15, 3) := by decide +kernel
theorem dX4_isTrue_167 : decode cX4_isTrue 167 = .ok (.aload_n 3, 1) := by decide +kernel
theorem dX4_isTrue_168 : decode cX4_isTrue 168 = .ok (.iconst 0, 1) := by decide +kernel
theorem dX4_isTrue_169 : decode cX4_isTrue 169 = .ok (.laload, 1) := by decide +kernel
theorem dX4_isTrue_170 : decode cX4_isTrue 170 = .ok (.lconst 0, 1) := by decide +kernel
theorem dX4_isTrue_171 : decode cX4_isTrue 171 = .ok (.lcmp, 1) := by decide +kernel
theorem dX4_isTrue_172 : decode cX4_isTrue 172 = .ok (.ifCond .eq 7, 3) := by decide +kernel
theorem dX4_isTrue_175 : decode cX4_isTrue 175 = .ok (.iconst 1, 1) := by decide +kernel
theorem dX4_isTrue_176 : decode cX4_isTrue 176 = .ok (.goto 4, 3) := by decide +kernel
theorem dX4_isTrue_179 : decode cX4_isTrue 179 = .ok (.iconst 0, 1) := by decide +kernel
theorem dX4_isTrue_180 : decode cX4_isTrue 180 = .ok (.ireturn, 1) := by decide +kernel
theorem dX4_combine_0 : decode cX4_combine 0 = .ok (.iload_n 0, 1) := by decide +kernel
theorem dX4_combine_1 : decode cX4_combine 1 = .ok (.tableswitch 83 18 29 #[63, 67, 83, 83, 83, 83, 83, 83, 83, 71, 75, 79], 63) := by decide +kernel
theorem dX4_combine_64 : decode cX4_combine 64 = .ok (.lload_n 1, 1) := by decide +kernel
theorem dX4_combine_65 : decode cX4_combine 65 = .ok (.lload_n 3, 1) := by decide +kernel
theorem dX4_combine_66 : decode cX4_combine 66 = .ok (.lor, 1) := by decide +kernel
theorem dX4_combine_67 : decode cX4_combine 67 = .ok (.lreturn, 1) := by decide +kernel
theorem dX4_combine_68 : decode cX4_combine 68 = .ok (.lload_n 1, 1) := by decide +kernel
theorem dX4_combine_69 : decode cX4_combine 69 = .ok (.lload_n 3, 1) := by decide +kernel
theorem dX4_combine_70 : decode cX4_combine 70 = .ok (.land, 1) := by decide +kernel
theorem dX4_combine_71 : decode cX4_combine 71 = .ok (.lreturn, 1) := by decide +kernel
theorem dX4_combine_72 : decode cX4_combine 72 = .ok (.lload_n 1, 1) := by decide +kernel
theorem dX4_combine_73 : decode cX4_combine 73 = .ok (.lload_n 3, 1) := by decide +kernel
theorem dX4_combine_74 : decode cX4_combine 74 = .ok (.ladd, 1) := by decide +kernel
theorem dX4_combine_75 : decode cX4_combine 75 = .ok (.lreturn, 1) := by decide +kernel
theorem dX4_combine_76 : decode cX4_combine 76 = .ok (.lload_n 1, 1) := by decide +kernel
theorem dX4_combine_77 : decode cX4_combine 77 = .ok (.lload_n 3, 1) := by decide +kernel
theorem dX4_combine_78 : decode cX4_combine 78 = .ok (.lsub, 1) := by decide +kernel
theorem dX4_combine_79 : decode cX4_combine 79 = .ok (.lreturn, 1) := by decide +kernel
theorem dX4_combine_80 : decode cX4_combine 80 = .ok (.lload_n 1, 1) := by decide +kernel
theorem dX4_combine_81 : decode cX4_combine 81 = .ok (.lload_n 3, 1) := by decide +kernel
theorem dX4_combine_82 : decode cX4_combine 82 = .ok (.lmul, 1) := by decide +kernel
theorem dX4_combine_83 : decode cX4_combine 83 = .ok (.lreturn, 1) := by decide +kernel
theorem dX4_combine_84 : decode cX4_combine 84 = .ok (.iload_n 0, 1) := by decide +kernel
theorem dX4_combine_85 : decode cX4_combine 85 = .ok (.lload_n 1, 1) := by decide +kernel
theorem dX4_combine_86 : decode cX4_combine 86 = .ok (.lload_n 3, 1) := by decide +kernel
theorem dX4_combine_87 : decode cX4_combine 87 = .ok (.invokestatic 39, 3) := by decide +kernel
theorem dX4_combine_90 : decode cX4_combine 90 = .ok (.ifCond .eq 7, 3) := by decide +kernel
theorem dX4_combine_93 : decode cX4_combine 93 = .ok (.lconst 1, 1) := by decide +kernel
theorem dX4_combine_94 : decode cX4_combine 94 = .ok (.goto 4, 3) := by decide +kernel
theorem dX4_combine_97 : decode cX4_combine 97 = .ok (.lconst 0, 1) := by decide +kernel
theorem dX4_combine_98 : decode cX4_combine 98 = .ok (.lreturn, 1) := by decide +kernel
theorem dX4_compares_0 : decode cX4_compares 0 = .ok (.iload_n 0, 1) := by decide +kernel
theorem dX4_compares_1 : decode cX4_compares 1 = .ok (.tableswitch 79 30 33 #[31, 43, 55, 67], 31) := by decide +kernel
theorem dX4_compares_32 : decode cX4_compares 32 = .ok (.lload_n 1, 1) := by decide +kernel
theorem dX4_compares_33 : decode cX4_compares 33 = .ok (.lload_n 3, 1) := by decide +kernel
theorem dX4_compares_34 : decode cX4_compares 34 = .ok (.lcmp, 1) := by decide +kernel
theorem dX4_compares_35 : decode cX4_compares 35 = .ok (.ifCond .ge 7, 3) := by decide +kernel
theorem dX4_compares_38 : decode cX4_compares 38 = .ok (.iconst 1, 1) := by decide +kernel
theorem dX4_compares_39 : decode cX4_compares 39 = .ok (.goto 4, 3) := by decide +kernel
theorem dX4_compares_42 : decode cX4_compares 42 = .ok (.iconst 0, 1) := by decide +kernel
theorem dX4_compares_43 : decode cX4_compares 43 = .ok (.ireturn, 1) := by decide +kernel
theorem dX4_compares_44 : decode cX4_compares 44 = .ok (.lload_n 1, 1) := by decide +kernel
theorem dX4_compares_45 : decode cX4_compares 45 = .ok (.lload_n 3, 1) := by decide +kernel
theorem dX4_compares_46 : decode cX4_compares 46 = .ok (.lcmp, 1) := by decide +kernel
theorem dX4_compares_47 : decode cX4_compares 47 = .ok (.ifCond .gt 7, 3) := by decide +kernel
theorem dX4_compares_50 : decode cX4_compares 50 = .ok (.iconst 1, 1) := by decide +kernel
theorem dX4_compares_51 : decode cX4_compares 51 = .ok (.goto 4, 3) := by decide +kernel
theorem dX4_compares_54 : decode cX4_compares 54 = .ok (.iconst 0, 1) := by decide +kernel
theorem dX4_compares_55 : decode cX4_compares 55 = .ok (.ireturn, 1) := by decide +kernel
theorem dX4_compares_56 : decode cX4_compares 56 = .ok (.lload_n 1, 1) := by decide +kernel
theorem dX4_compares_57 : decode cX4_compares 57 = .ok (.lload_n 3, 1) := by decide +kernel
theorem dX4_compares_58 : decode cX4_compares 58 = .ok (.lcmp, 1) := by decide +kernel
theorem dX4_compares_59 : decode cX4_compares 59 = .ok (.ifCond .ne 7, 3) := by decide +kernel
theorem dX4_compares_62 : decode cX4_compares 62 = .ok (.iconst 1, 1) := by decide +kernel
theorem dX4_compares_63 : decode cX4_compares 63 = .ok (.goto 4, 3) := by decide +kernel
theorem dX4_compares_66 : decode cX4_compares 66 = .ok (.iconst 0, 1) := by decide +kernel
theorem dX4_compares_67 : decode cX4_compares 67 = .ok (.ireturn, 1) := by decide +kernel
theorem dX4_compares_68 : decode cX4_compares 68 = .ok (.lload_n 1, 1) := by decide +kernel
theorem dX4_compares_69 : decode cX4_compares 69 = .ok (.lload_n 3, 1) := by decide +kernel
theorem dX4_compares_70 : decode cX4_compares 70 = .ok (.lcmp, 1) := by decide +kernel
theorem dX4_compares_71 : decode cX4_compares 71 = .ok (.ifCond .lt 7, 3) := by decide +kernel
theorem dX4_compares_74 : decode cX4_compares 74 = .ok (.iconst 1, 1) := by decide +kernel
theorem dX4_compares_75 : decode cX4_compares 75 = .ok (.goto 4, 3) := by decide +kernel
theorem dX4_compares_78 : decode cX4_compares 78 = .ok (.iconst 0, 1) := by decide +kernel
theorem dX4_compares_79 : decode cX4_compares 79 = .ok (.ireturn, 1) := by decide +kernel
theorem dX4_compares_80 : decode cX4_compares 80 = .ok (.lload_n 1, 1) := by decide +kernel
theorem dX4_compares_81 : decode cX4_compares 81 = .ok (.lload_n 3, 1) := by decide +kernel
theorem dX4_compares_82 : decode cX4_compares 82 = .ok (.lcmp, 1) := by decide +kernel
theorem dX4_compares_83 : decode cX4_compares 83 = .ok (.ifCond .le 7, 3) := by decide +kernel
theorem dX4_compares_86 : decode cX4_compares 86 = .ok (.iconst 1, 1) := by decide +kernel
theorem dX4_compares_87 : decode cX4_compares 87 = .ok (.goto 4, 3) := by decide +kernel
theorem dX4_compares_90 : decode cX4_compares 90 = .ok (.iconst 0, 1) := by decide +kernel
theorem dX4_compares_91 : decode cX4_compares 91 = .ok (.ireturn, 1) := by decide +kernel
theorem dX5_init_0 : decode cX5_init 0 = .ok (.aload_n 0, 1) := by decide +kernel
theorem dX5_init_1 : decode cX5_init 1 = .ok (.invokespecial 3, 3) := by decide +kernel
theorem dX5_init_4 : decode cX5_init 4 = .ok (.aload_n 0, 1) := by decide +kernel
theorem dX5_init_5 : decode cX5_init 5 = .ok (.sipush 400, 3) := by decide +kernel
theorem dX5_init_8 : decode cX5_init 8 = .ok (.newarray .byte, 2) := by decide +kernel
theorem dX5_init_10 : decode cX5_init 10 = .ok (.putfield 11, 3) := by decide +kernel
theorem dX5_init_13 : decode cX5_init 13 = .ok (.aload_n 0, 1) := by decide +kernel
theorem dX5_init_14 : decode cX5_init 14 = .ok (.sipush 401, 3) := by decide +kernel
theorem dX5_init_17 : decode cX5_init 17 = .ok (.newarray .int, 2) := by decide +kernel
theorem dX5_init_19 : decode cX5_init 19 = .ok (.putfield 15, 3) := by decide +kernel
theorem dX5_init_22 : decode cX5_init 22 = .ok (.aload_n 0, 1) := by decide +kernel
theorem dX5_init_23 : decode cX5_init 23 = .ok (.sipush 401, 3) := by decide +kernel
theorem dX5_init_26 : decode cX5_init 26 = .ok (.newarray .int, 2) := by decide +kernel
theorem dX5_init_28 : decode cX5_init 28 = .ok (.putfield 19, 3) := by decide +kernel
theorem dX5_init_31 : decode cX5_init 31 = .ok (.aload_n 0, 1) := by decide +kernel
theorem dX5_init_32 : decode cX5_init 32 = .ok (.sipush 401, 3) := by decide +kernel
theorem dX5_init_35 : decode cX5_init 35 = .ok (.newarray .int, 2) := by decide +kernel
theorem dX5_init_37 : decode cX5_init 37 = .ok (.putfield 22, 3) := by decide +kernel
theorem dX5_init_40 : decode cX5_init 40 = .ok (.aload_n 0, 1) := by decide +kernel
theorem dX5_init_41 : decode cX5_init 41 = .ok (.sipush 400, 3) := by decide +kernel
theorem dX5_init_44 : decode cX5_init 44 = .ok (.newarray .int, 2) := by decide +kernel
theorem dX5_init_46 : decode cX5_init 46 = .ok (.putfield 25, 3) := by decide +kernel
theorem dX5_init_49 : decode cX5_init 49 = .ok (.aload_n 0, 1) := by decide +kernel
theorem dX5_init_50 : decode cX5_init 50 = .ok (.bipush 10, 2) := by decide +kernel
theorem dX5_init_52 : decode cX5_init 52 = .ok (.newarray .int, 2) := by decide +kernel
theorem dX5_init_54 : decode cX5_init 54 = .ok (.putfield 28, 3) := by decide +kernel
theorem dX5_init_57 : decode cX5_init 57 = .ok (.aload_n 0, 1) := by decide +kernel
theorem dX5_init_58 : decode cX5_init 58 = .ok (.bipush 11, 2) := by decide +kernel
theorem dX5_init_60 : decode cX5_init 60 = .ok (.newarray .int, 2) := by decide +kernel
theorem dX5_init_62 : decode cX5_init 62 = .ok (.putfield 31, 3) := by decide +kernel
theorem dX5_init_65 : decode cX5_init 65 = .ok (.return_, 1) := by decide +kernel
theorem dX5_hasRoomFor_0 : decode cX5_hasRoomFor 0 = .ok (.aload_n 0, 1) := by decide +kernel
theorem dX5_hasRoomFor_1 : decode cX5_hasRoomFor 1 = .ok (.getfield 34, 3) := by decide +kernel
theorem dX5_hasRoomFor_4 : decode cX5_hasRoomFor 4 = .ok (.iload_n 1, 1) := by decide +kernel
theorem dX5_hasRoomFor_5 : decode cX5_hasRoomFor 5 = .ok (.iadd, 1) := by decide +kernel
theorem dX5_hasRoomFor_6 : decode cX5_hasRoomFor 6 = .ok (.sipush 400, 3) := by decide +kernel
theorem dX5_hasRoomFor_9 : decode cX5_hasRoomFor 9 = .ok (.if_icmp .gt 7, 3) := by decide +kernel
theorem dX5_hasRoomFor_12 : decode cX5_hasRoomFor 12 = .ok (.iconst 1, 1) := by decide +kernel
theorem dX5_hasRoomFor_13 : decode cX5_hasRoomFor 13 = .ok (.goto 4, 3) := by decide +kernel
theorem dX5_hasRoomFor_16 : decode cX5_hasRoomFor 16 = .ok (.iconst 0, 1) := by decide +kernel
theorem dX5_hasRoomFor_17 : decode cX5_hasRoomFor 17 = .ok (.ireturn, 1) := by decide +kernel
theorem dX5_write_0 : decode cX5_write 0 = .ok (.aload_n 0, 1) := by decide +kernel
theorem dX5_write_1 : decode cX5_write 1 = .ok (.iconst 4, 1) := by decide +kernel
theorem dX5_write_2 : decode cX5_write 2 = .ok (.invokevirtual 38, 3) := by decide +kernel
theorem dX5_write_5 : decode cX5_write 5 = .ok (.ifCond .ne 4, 3) := by decide +kernel
theorem dX5_write_8 : decode cX5_write 8 = .ok (.return_, 1) := by decide +kernel
theorem dX5_write_9 : decode cX5_write 9 = .ok (.bipush 24, 2) := by decide +kernel
theorem dX5_write_11 : decode cX5_write 11 = .ok (.istore_n 2, 1) := by decide +kernel
theorem dX5_write_12 : decode cX5_write 12 = .ok (.iload_n 2, 1) := by decide +kernel
theorem dX5_write_13 : decode cX5_write 13 = .ok (.ifCond .lt 32, 3) := by decide +kernel
theorem dX5_write_16 : decode cX5_write 16 = .ok (.aload_n 0, 1) := by decide +kernel
theorem dX5_write_17 : decode cX5_write 17 = .ok (.getfield 11, 3) := by decide +kernel
theorem dX5_write_20 : decode cX5_write 20 = .ok (.aload_n 0, 1) := by decide +kernel
theorem dX5_write_21 : decode cX5_write 21 = .ok (.getfield 34, 3) := by decide +kernel
theorem dX5_write_24 : decode cX5_write 24 = .ok (.iload_n 1, 1) := by decide +kernel
theorem dX5_write_25 : decode cX5_write 25 = .ok (.iload_n 2, 1) := by decide +kernel
theorem dX5_write_26 : decode cX5_write 26 = .ok (.ishr, 1) := by decide +kernel
theorem dX5_write_27 : decode cX5_write 27 = .ok (.i2b, 1) := by decide +kernel
theorem dX5_write_28 : decode cX5_write 28 = .ok (.bastore, 1) := by decide +kernel
theorem dX5_write_29 : decode cX5_write 29 = .ok (.aload_n 0, 1) := by decide +kernel
theorem dX5_write_30 : decode cX5_write 30 = .ok (.dup, 1) := by decide +kernel
theorem dX5_write_31 : decode cX5_write 31 = .ok (.getfield 34, 3) := by decide +kernel
theorem dX5_write_34 : decode cX5_write 34 = .ok (.iconst 1, 1) := by decide +kernel
theorem dX5_write_35 : decode cX5_write 35 = .ok (.iadd, 1) := by decide +kernel
theorem dX5_write_36 : decode cX5_write 36 = .ok (.putfield 34, 3) := by decide +kernel
theorem dX5_write_39 : decode cX5_write 39 = .ok (.iinc 2 (-8), 3) := by decide +kernel
theorem dX5_write_42 : decode cX5_write 42 = .ok (.goto (-30), 3) := by decide +kernel
theorem dX5_write_45 : decode cX5_write 45 = .ok (.return_, 1) := by decide +kernel
theorem dX5_readTape_0 : decode cX5_readTape 0 = .ok (.aload_n 0, 1) := by decide +kernel
theorem dX5_readTape_1 : decode cX5_readTape 1 = .ok (.invokevirtual 42, 3) := by decide +kernel
theorem dX5_readTape_4 : decode cX5_readTape 4 = .ok (.aload_n 0, 1) := by decide +kernel
theorem dX5_readTape_5 : decode cX5_readTape 5 = .ok (.iconst 0, 1) := by decide +kernel
theorem dX5_readTape_6 : decode cX5_readTape 6 = .ok (.putfield 45, 3) := by decide +kernel
theorem dX5_readTape_9 : decode cX5_readTape 9 = .ok (.aload_n 0, 1) := by decide +kernel
theorem dX5_readTape_10 : decode cX5_readTape 10 = .ok (.iconst 0, 1) := by decide +kernel
theorem dX5_readTape_11 : decode cX5_readTape 11 = .ok (.putfield 48, 3) := by decide +kernel
theorem dX5_readTape_14 : decode cX5_readTape 14 = .ok (.aload_n 0, 1) := by decide +kernel
theorem dX5_readTape_15 : decode cX5_readTape 15 = .ok (.iconst 0, 1) := by decide +kernel
theorem dX5_readTape_16 : decode cX5_readTape 16 = .ok (.putfield 51, 3) := by decide +kernel
theorem dX5_readTape_19 : decode cX5_readTape 19 = .ok (.aload_n 0, 1) := by decide +kernel
theorem dX5_readTape_20 : decode cX5_readTape 20 = .ok (.iconst 0, 1) := by decide +kernel
theorem dX5_readTape_21 : decode cX5_readTape 21 = .ok (.putfield 54, 3) := by decide +kernel
theorem dX5_readTape_24 : decode cX5_readTape 24 = .ok (.aload_n 0, 1) := by decide +kernel
theorem dX5_readTape_25 : decode cX5_readTape 25 = .ok (.iconst 0, 1) := by decide +kernel
theorem dX5_readTape_26 : decode cX5_readTape 26 = .ok (.putfield 57, 3) := by decide +kernel
theorem dX5_readTape_29 : decode cX5_readTape 29 = .ok (.iconst 0, 1) := by decide +kernel
theorem dX5_readTape_30 : decode cX5_readTape 30 = .ok (.istore_n 1, 1) := by decide +kernel
theorem dX5_readTape_31 : decode cX5_readTape 31 = .ok (.iload_n 1, 1) := by decide +kernel
theorem dX5_readTape_32 : decode cX5_readTape 32 = .ok (.bipush 10, 2) := by decide +kernel
theorem dX5_readTape_34 : decode cX5_readTape 34 = .ok (.if_icmp .gt 49, 3) := by decide +kernel
theorem dX5_readTape_37 : decode cX5_readTape 37 = .ok (.aload_n 0, 1) := by decide +kernel
theorem dX5_readTape_38 : decode cX5_readTape 38 = .ok (.invokevirtual 60, 3) := by decide +kernel
theorem dX5_readTape_41 : decode cX5_readTape 41 = .ok (.ifCond .eq 17, 3) := by decide +kernel
theorem dX5_readTape_44 : decode cX5_readTape 44 = .ok (.aload_n 0, 1) := by decide +kernel
theorem dX5_readTape_45 : decode cX5_readTape 45 = .ok (.getfield 15, 3) := by decide +kernel
theorem dX5_readTape_48 : decode cX5_readTape 48 = .ok (.aload_n 0, 1) := by decide +kernel
theorem dX5_readTape_49 : decode cX5_readTape 49 = .ok (.getfield 45, 3) := by decide +kernel
theorem dX5_readTape_52 : decode cX5_readTape 52 = .ok (.iaload, 1) := by decide +kernel
theorem dX5_readTape_53 : decode cX5_readTape 53 = .ok (.bipush 35, 2) := by decide +kernel
theorem dX5_readTape_55 : decode cX5_readTape 55 = .ok (.if_icmp .ne 8, 3) := by decide +kernel
theorem dX5_readTape_58 : decode cX5_readTape 58 = .ok (.aload_n 0, 1) := by decide +kernel
theorem dX5_readTape_59 : decode cX5_readTape 59 = .ok (.getfield 51, 3) := by decide +kernel
theorem dX5_readTape_62 : decode cX5_readTape 62 = .ok (.ireturn, 1) := by decide +kernel
theorem dX5_readTape_63 : decode cX5_readTape 63 = .ok (.aload_n 0, 1) := by decide +kernel
theorem dX5_readTape_64 : decode cX5_readTape 64 = .ok (.bipush 26, 2) := by decide +kernel
theorem dX5_readTape_66 : decode cX5_readTape 66 = .ok (.invokevirtual 64, 3) := by decide +kernel
theorem dX5_readTape_69 : decode cX5_readTape 69 = .ok (.ifCond .ne 8, 3) := by decide +kernel
theorem dX5_readTape_72 : decode cX5_readTape 72 = .ok (.aload_n 0, 1) := by decide +kernel
theorem dX5_readTape_73 : decode cX5_readTape 73 = .ok (.getfield 51, 3) := by decide +kernel
theorem dX5_readTape_76 : decode cX5_readTape 76 = .ok (.ireturn, 1) := by decide +kernel
theorem dX5_readTape_77 : decode cX5_readTape 77 = .ok (.iinc 1 1, 3) := by decide +kernel
theorem dX5_readTape_80 : decode cX5_readTape 80 = .ok (.goto (-49), 3) := by decide +kernel
theorem dX5_readTape_83 : decode cX5_readTape 83 = .ok (.aload_n 0, 1) := by decide +kernel
theorem dX5_readTape_84 : decode cX5_readTape 84 = .ok (.getfield 51, 3) := by decide +kernel
theorem dX5_readTape_87 : decode cX5_readTape 87 = .ok (.ireturn, 1) := by decide +kernel
theorem dX5_lawOf_0 : decode cX5_lawOf 0 = .ok (.aload_n 0, 1) := by decide +kernel
theorem dX5_lawOf_1 : decode cX5_lawOf 1 = .ok (.getfield 57, 3) := by decide +kernel
theorem dX5_lawOf_4 : decode cX5_lawOf 4 = .ok (.newarray .int, 2) := by decide +kernel
theorem dX5_lawOf_6 : decode cX5_lawOf 6 = .ok (.astore 4, 2) := by decide +kernel
theorem dX5_lawOf_8 : decode cX5_lawOf 8 = .ok (.aload_n 0, 1) := by decide +kernel
theorem dX5_lawOf_9 : decode cX5_lawOf 9 = .ok (.getfield 57, 3) := by decide +kernel
theorem dX5_lawOf_12 : decode cX5_lawOf 12 = .ok (.iconst 1, 1) := by decide +kernel
theorem dX5_lawOf_13 : decode cX5_lawOf 13 = .ok (.iadd, 1) := by decide +kernel
theorem dX5_lawOf_14 : decode cX5_lawOf 14 = .ok (.newarray .int, 2) := by decide +kernel
theorem dX5_lawOf_16 : decode cX5_lawOf 16 = .ok (.astore 5, 2) := by decide +kernel
theorem dX5_lawOf_18 : decode cX5_lawOf 18 = .ok (.aload_n 0, 1) := by decide +kernel
theorem dX5_lawOf_19 : decode cX5_lawOf 19 = .ok (.getfield 54, 3) := by decide +kernel
theorem dX5_lawOf_22 : decode cX5_lawOf 22 = .ok (.newarray .int, 2) := by decide +kernel
theorem dX5_lawOf_24 : decode cX5_lawOf 24 = .ok (.astore 6, 2) := by decide +kernel
theorem dX5_lawOf_26 : decode cX5_lawOf 26 = .ok (.aload_n 0, 1) := by decide +kernel
theorem dX5_lawOf_27 : decode cX5_lawOf 27 = .ok (.getfield 28, 3) := by decide +kernel
theorem dX5_lawOf_30 : decode cX5_lawOf 30 = .ok (.iconst 0, 1) := by decide +kernel
theorem dX5_lawOf_31 : decode cX5_lawOf 31 = .ok (.aload 4, 2) := by decide +kernel
theorem dX5_lawOf_33 : decode cX5_lawOf 33 = .ok (.iconst 0, 1) := by decide +kernel
theorem dX5_lawOf_34 : decode cX5_lawOf 34 = .ok (.aload_n 0, 1) := by decide +kernel
theorem dX5_lawOf_35 : decode cX5_lawOf 35 = .ok (.getfield 57, 3) := by decide +kernel
theorem dX5_lawOf_38 : decode cX5_lawOf 38 = .ok (.invokestatic 67, 3) := by decide +kernel
theorem dX5_lawOf_41 : decode cX5_lawOf 41 = .ok (.aload_n 0, 1) := by decide +kernel
theorem dX5_lawOf_42 : decode cX5_lawOf 42 = .ok (.getfield 31, 3) := by decide +kernel
theorem dX5_lawOf_45 : decode cX5_lawOf 45 = .ok (.iconst 0, 1) := by decide +kernel
theorem dX5_lawOf_46 : decode cX5_lawOf 46 = .ok (.aload 5, 2) := by decide +kernel
theorem dX5_lawOf_48 : decode cX5_lawOf 48 = .ok (.iconst 0, 1) := by decide +kernel
theorem dX5_lawOf_49 : decode cX5_lawOf 49 = .ok (.aload_n 0, 1) := by decide +kernel
theorem dX5_lawOf_50 : decode cX5_lawOf 50 = .ok (.getfield 57, 3) := by decide +kernel
theorem dX5_lawOf_53 : decode cX5_lawOf 53 = .ok (.iconst 1, 1) := by decide +kernel
theorem dX5_lawOf_54 : decode cX5_lawOf 54 = .ok (.iadd, 1) := by decide +kernel
theorem dX5_lawOf_55 : decode cX5_lawOf 55 = .ok (.invokestatic 67, 3) := by decide +kernel
theorem dX5_lawOf_58 : decode cX5_lawOf 58 = .ok (.aload_n 0, 1) := by decide +kernel
theorem dX5_lawOf_59 : decode cX5_lawOf 59 = .ok (.getfield 25, 3) := by decide +kernel
theorem dX5_lawOf_62 : decode cX5_lawOf 62 = .ok (.iconst 0, 1) := by decide +kernel
theorem dX5_lawOf_63 : decode cX5_lawOf 63 = .ok (.aload 6, 2) := by decide +kernel
theorem dX5_lawOf_65 : decode cX5_lawOf 65 = .ok (.iconst 0, 1) := by decide +kernel
theorem dX5_lawOf_66 : decode cX5_lawOf 66 = .ok (.aload_n 0, 1) := by decide +kernel
theorem dX5_lawOf_67 : decode cX5_lawOf 67 = .ok (.getfield 54, 3) := by decide +kernel
theorem dX5_lawOf_70 : decode cX5_lawOf 70 = .ok (.invokestatic 67, 3) := by decide +kernel
theorem dX5_lawOf_73 : decode cX5_lawOf 73 = .ok (.new 73, 3) := by decide +kernel
theorem dX5_lawOf_76 : decode cX5_lawOf 76 = .ok (.dup, 1) := by decide +kernel
theorem dX5_lawOf_77 : decode cX5_lawOf 77 = .ok (.iload_n 1, 1) := by decide +kernel
theorem dX5_lawOf_78 : decode cX5_lawOf 78 = .ok (.iload_n 2, 1) := by decide +kernel
theorem dX5_lawOf_79 : decode cX5_lawOf 79 = .ok (.iload_n 3, 1) := by decide +kernel
theorem dX5_lawOf_80 : decode cX5_lawOf 80 = .ok (.aload 4, 2) := by decide +kernel
theorem dX5_lawOf_82 : decode cX5_lawOf 82 = .ok (.aload 5, 2) := by decide +kernel
theorem dX5_lawOf_84 : decode cX5_lawOf 84 = .ok (.aload 6, 2) := by decide +kernel
theorem dX5_lawOf_86 : decode cX5_lawOf 86 = .ok (.invokespecial 75, 3) := by decide +kernel
theorem dX5_lawOf_89 : decode cX5_lawOf 89 = .ok (.areturn, 1) := by decide +kernel
theorem dX5_cutTokens_0 : decode cX5_cutTokens 0 = .ok (.aload_n 0, 1) := by decide +kernel
theorem dX5_cutTokens_1 : decode cX5_cutTokens 1 = .ok (.iconst 0, 1) := by decide +kernel
theorem dX5_cutTokens_2 : decode cX5_cutTokens 2 = .ok (.putfield 78, 3) := by decide +kernel
theorem dX5_cutTokens_5 : decode cX5_cutTokens 5 = .ok (.iconst 0, 1) := by decide +kernel
theorem dX5_cutTokens_6 : decode cX5_cutTokens 6 = .ok (.istore_n 1, 1) := by decide +kernel
theorem dX5_cutTokens_7 : decode cX5_cutTokens 7 = .ok (.iconst 0, 1) := by decide +kernel
theorem dX5_cutTokens_8 : decode cX5_cutTokens 8 = .ok (.istore_n 2, 1) := by decide +kernel
theorem dX5_cutTokens_9 : decode cX5_cutTokens 9 = .ok (.iload_n 2, 1) := by decide +kernel
theorem dX5_cutTokens_10 : decode cX5_cutTokens 10 = .ok (.sipush 400, 3) := by decide +kernel
theorem dX5_cutTokens_13 : decode cX5_cutTokens 13 = .ok (.if_icmp .ge 74, 3) := by decide +kernel
theorem dX5_cutTokens_16 : decode cX5_cutTokens 16 = .ok (.iload_n 1, 1) := by decide +kernel
theorem dX5_cutTokens_17 : decode cX5_cutTokens 17 = .ok (.aload_n 0, 1) := by decide +kernel
theorem dX5_cutTokens_18 : decode cX5_cutTokens 18 = .ok (.getfield 34, 3) := by decide +kernel
theorem dX5_cutTokens_21 : decode cX5_cutTokens 21 = .ok (.if_icmp .ge 66, 3) := by decide +kernel
theorem dX5_cutTokens_24 : decode cX5_cutTokens 24 = .ok (.aload_n 0, 1) := by decide +kernel
theorem dX5_cutTokens_25 : decode cX5_cutTokens 25 = .ok (.getfield 11, 3) := by decide +kernel
theorem dX5_cutTokens_28 : decode cX5_cutTokens 28 = .ok (.iload_n 1, 1) := by decide +kernel
theorem dX5_cutTokens_29 : decode cX5_cutTokens 29 = .ok (.baload, 1) := by decide +kernel
theorem dX5_cutTokens_30 : decode cX5_cutTokens 30 = .ok (.istore_n 3, 1) := by decide +kernel
theorem dX5_cutTokens_31 : decode cX5_cutTokens 31 = .ok (.iload_n 3, 1) := by decide +kernel
theorem dX5_cutTokens_32 : decode cX5_cutTokens 32 = .ok (.bipush 32, 2) := by decide +kernel
theorem dX5_cutTokens_34 : decode cX5_cutTokens 34 = .ok (.if_icmp .ne 9, 3) := by decide +kernel
theorem dX5_cutTokens_37 : decode cX5_cutTokens 37 = .ok (.iinc 1 1, 3) := by decide +kernel
theorem dX5_cutTokens_40 : decode cX5_cutTokens 40 = .ok (.goto 41, 3) := by decide +kernel
theorem dX5_cutTokens_43 : decode cX5_cutTokens 43 = .ok (.iload_n 3, 1) := by decide +kernel
theorem dX5_cutTokens_44 : decode cX5_cutTokens 44 = .ok (.invokestatic 81, 3) := by decide +kernel
theorem dX5_cutTokens_47 : decode cX5_cutTokens 47 = .ok (.ifCond .eq 12, 3) := by decide +kernel
theorem dX5_cutTokens_50 : decode cX5_cutTokens 50 = .ok (.aload_n 0, 1) := by decide +kernel
theorem dX5_cutTokens_51 : decode cX5_cutTokens 51 = .ok (.iload_n 1, 1) := by decide +kernel
theorem dX5_cutTokens_52 : decode cX5_cutTokens 52 = .ok (.invokevirtual 84, 3) := by decide +kernel
theorem dX5_cutTokens_55 : decode cX5_cutTokens 55 = .ok (.istore_n 1, 1) := by decide +kernel
theorem dX5_cutTokens_56 : decode cX5_cutTokens 56 = .ok (.goto 25, 3) := by decide +kernel
theorem dX5_cutTokens_59 : decode cX5_cutTokens 59 = .ok (.iload_n 3, 1) := by decide +kernel
theorem dX5_cutTokens_60 : decode cX5_cutTokens 60 = .ok (.invokestatic 88, 3) := by decide +kernel
theorem dX5_cutTokens_63 : decode cX5_cutTokens 63 = .ok (.ifCond .eq 12, 3) := by decide +kernel
theorem dX5_cutTokens_66 : decode cX5_cutTokens 66 = .ok (.aload_n 0, 1) := by decide +kernel
theorem dX5_cutTokens_67 : decode cX5_cutTokens 67 = .ok (.iload_n 1, 1) := by decide +kernel
theorem dX5_cutTokens_68 : decode cX5_cutTokens 68 = .ok (.invokevirtual 91, 3) := by decide +kernel
theorem dX5_cutTokens_71 : decode cX5_cutTokens 71 = .ok (.istore_n 1, 1) := by decide +kernel
theorem dX5_cutTokens_72 : decode cX5_cutTokens 72 = .ok (.goto 9, 3) := by decide +kernel
theorem dX5_cutTokens_75 : decode cX5_cutTokens 75 = .ok (.aload_n 0, 1) := by decide +kernel
theorem dX5_cutTokens_76 : decode cX5_cutTokens 76 = .ok (.iload_n 1, 1) := by decide +kernel
theorem dX5_cutTokens_77 : decode cX5_cutTokens 77 = .ok (.invokevirtual 94, 3) := by decide +kernel
theorem dX5_cutTokens_80 : decode cX5_cutTokens 80 = .ok (.istore_n 1, 1) := by decide +kernel
theorem dX5_cutTokens_81 : decode cX5_cutTokens 81 = .ok (.iinc 2 1, 3) := by decide +kernel
theorem dX5_cutTokens_84 : decode cX5_cutTokens 84 = .ok (.goto (-75), 3) := by decide +kernel
theorem dX5_cutTokens_87 : decode cX5_cutTokens 87 = .ok (.aload_n 0, 1) := by decide +kernel
theorem dX5_cutTokens_88 : decode cX5_cutTokens 88 = .ok (.bipush 35, 2) := by decide +kernel
theorem dX5_cutTokens_90 : decode cX5_cutTokens 90 = .ok (.aload_n 0, 1) := by decide +kernel
theorem dX5_cutTokens_91 : decode cX5_cutTokens 91 = .ok (.getfield 34, 3) := by decide +kernel
theorem dX5_cutTokens_94 : decode cX5_cutTokens 94 = .ok (.iconst 0, 1) := by decide +kernel
theorem dX5_cutTokens_95 : decode cX5_cutTokens 95 = .ok (.invokevirtual 97, 3) := by decide +kernel
theorem dX5_cutTokens_98 : decode cX5_cutTokens 98 = .ok (.return_, 1) := by decide +kernel
theorem dX5_putToken_0 : decode cX5_putToken 0 = .ok (.aload_n 0, 1) := by decide +kernel
theorem dX5_putToken_1 : decode cX5_putToken 1 = .ok (.getfield 78, 3) := by decide +kernel
theorem dX5_putToken_4 : decode cX5_putToken 4 = .ok (.aload_n 0, 1) := by decide +kernel
theorem dX5_putToken_5 : decode cX5_putToken 5 = .ok (.getfield 15, 3) := by decide +kernel
theorem dX5_putToken_8 : decode cX5_putToken 8 = .ok (.arraylength, 1) := by decide +kernel
theorem dX5_putToken_9 : decode cX5_putToken 9 = .ok (.if_icmp .ge 43, 3) := by decide +kernel
theorem dX5_putToken_12 : decode cX5_putToken 12 = .ok (.aload_n 0, 1) := by decide +kernel
theorem dX5_putToken_13 : decode cX5_putToken 13 = .ok (.getfield 15, 3) := by decide +kernel
theorem dX5_putToken_16 : decode cX5_putToken 16 = .ok (.aload_n 0, 1) := by decide +kernel
theorem dX5_putToken_17 : decode cX5_putToken 17 = .ok (.getfield 78, 3) := by decide +kernel
theorem dX5_putToken_20 : decode cX5_putToken 20 = .ok (.iload_n 1, 1) := by decide +kernel
theorem dX5_putToken_21 : decode cX5_putToken 21 = .ok (.iastore, 1) := by decide +kernel
theorem dX5_putToken_22 : decode cX5_putToken 22 = .ok (.aload_n 0, 1) := by decide +kernel
theorem dX5_putToken_23 : decode cX5_putToken 23 = .ok (.getfield 19, 3) := by decide +kernel
theorem dX5_putToken_26 : decode cX5_putToken 26 = .ok (.aload_n 0, 1) := by decide +kernel
theorem dX5_putToken_27 : decode cX5_putToken 27 = .ok (.getfield 78, 3) := by decide +kernel
theorem dX5_putToken_30 : decode cX5_putToken 30 = .ok (.iload_n 2, 1) := by decide +kernel
theorem dX5_putToken_31 : decode cX5_putToken 31 = .ok (.iastore, 1) := by decide +kernel
theorem dX5_putToken_32 : decode cX5_putToken 32 = .ok (.aload_n 0, 1) := by decide +kernel
theorem dX5_putToken_33 : decode cX5_putToken 33 = .ok (.getfield 22, 3) := by decide +kernel
theorem dX5_putToken_36 : decode cX5_putToken 36 = .ok (.aload_n 0, 1) := by decide +kernel
theorem dX5_putToken_37 : decode cX5_putToken 37 = .ok (.getfield 78, 3) := by decide +kernel
theorem dX5_putToken_40 : decode cX5_putToken 40 = .ok (.iload_n 3, 1) := by decide +kernel
theorem dX5_putToken_41 : decode cX5_putToken 41 = .ok (.iastore, 1) := by decide +kernel
theorem dX5_putToken_42 : decode cX5_putToken 42 = .ok (.aload_n 0, 1) := by decide +kernel
theorem dX5_putToken_43 : decode cX5_putToken 43 = .ok (.dup, 1) := by decide +kernel
theorem dX5_putToken_44 : decode cX5_putToken 44 = .ok (.getfield 78, 3) := by decide +kernel
theorem dX5_putToken_47 : decode cX5_putToken 47 = .ok (.iconst 1, 1) := by decide +kernel
theorem dX5_putToken_48 : decode cX5_putToken 48 = .ok (.iadd, 1) := by decide +kernel
theorem dX5_putToken_49 : decode cX5_putToken 49 = .ok (.putfield 78, 3) := by decide +kernel
theorem dX5_putToken_52 : decode cX5_putToken 52 = .ok (.return_, 1) := by decide +kernel
theorem dX5_cutNumber_0 : decode cX5_cutNumber 0 = .ok (.iload_n 1, 1) := by decide +kernel
theorem dX5_cutNumber_1 : decode cX5_cutNumber 1 = .ok (.istore_n 2, 1) := by decide +kernel
theorem dX5_cutNumber_2 : decode cX5_cutNumber 2 = .ok (.iconst 0, 1) := by decide +kernel
theorem dX5_cutNumber_3 : decode cX5_cutNumber 3 = .ok (.istore_n 3, 1) := by decide +kernel
theorem dX5_cutNumber_4 : decode cX5_cutNumber 4 = .ok (.iload_n 2, 1) := by decide +kernel
theorem dX5_cutNumber_5 : decode cX5_cutNumber 5 = .ok (.aload_n 0, 1) := by decide +kernel
theorem dX5_cutNumber_6 : decode cX5_cutNumber 6 = .ok (.getfield 34, 3) := by decide +kernel
theorem dX5_cutNumber_9 : decode cX5_cutNumber 9 = .ok (.if_icmp .ge 43, 3) := by decide +kernel
theorem dX5_cutNumber_12 : decode cX5_cutNumber 12 = .ok (.aload_n 0, 1) := by decide +kernel
theorem dX5_cutNumber_13 : decode cX5_cutNumber 13 = .ok (.getfield 11, 3) := by decide +kernel
theorem dX5_cutNumber_16 : decode cX5_cutNumber 16 = .ok (.iload_n 2, 1) := by decide +kernel
theorem dX5_cutNumber_17 : decode cX5_cutNumber 17 = .ok (.baload, 1) := by decide +kernel
theorem dX5_cutNumber_18 : decode cX5_cutNumber 18 = .ok (.invokestatic 81, 3) := by decide +kernel
theorem dX5_cutNumber_21 : decode cX5_cutNumber 21 = .ok (.ifCond .eq 31, 3) := by decide +kernel
theorem dX5_cutNumber_24 : decode cX5_cutNumber 24 = .ok (.iload_n 2, 1) := by decide +kernel
theorem dX5_cutNumber_25 : decode cX5_cutNumber 25 = .ok (.iload_n 1, 1) := by decide +kernel
theorem dX5_cutNumber_26 : decode cX5_cutNumber 26 = .ok (.isub, 1) := by decide +kernel
theorem dX5_cutNumber_27 : decode cX5_cutNumber 27 = .ok (.iconst 5, 1) := by decide +kernel
theorem dX5_cutNumber_28 : decode cX5_cutNumber 28 = .ok (.if_icmp .ge 18, 3) := by decide +kernel
theorem dX5_cutNumber_31 : decode cX5_cutNumber 31 = .ok (.iload_n 3, 1) := by decide +kernel
theorem dX5_cutNumber_32 : decode cX5_cutNumber 32 = .ok (.bipush 10, 2) := by decide +kernel
theorem dX5_cutNumber_34 : decode cX5_cutNumber 34 = .ok (.imul, 1) := by decide +kernel
theorem dX5_cutNumber_35 : decode cX5_cutNumber 35 = .ok (.aload_n 0, 1) := by decide +kernel
theorem dX5_cutNumber_36 : decode cX5_cutNumber 36 = .ok (.getfield 11, 3) := by decide +kernel
theorem dX5_cutNumber_39 : decode cX5_cutNumber 39 = .ok (.iload_n 2, 1) := by decide +kernel
theorem dX5_cutNumber_40 : decode cX5_cutNumber 40 = .ok (.baload, 1) := by decide +kernel
theorem dX5_cutNumber_41 : decode cX5_cutNumber 41 = .ok (.bipush 48, 2) := by decide +kernel
theorem dX5_cutNumber_43 : decode cX5_cutNumber 43 = .ok (.isub, 1) := by decide +kernel
theorem dX5_cutNumber_44 : decode cX5_cutNumber 44 = .ok (.iadd, 1) := by decide +kernel
theorem dX5_cutNumber_45 : decode cX5_cutNumber 45 = .ok (.istore_n 3, 1) := by decide +kernel
theorem dX5_cutNumber_46 : decode cX5_cutNumber 46 = .ok (.iinc 2 1, 3) := by decide +kernel
theorem dX5_cutNumber_49 : decode cX5_cutNumber 49 = .ok (.goto (-45), 3) := by decide +kernel
theorem dX5_cutNumber_52 : decode cX5_cutNumber 52 = .ok (.aload_n 0, 1) := by decide +kernel
theorem dX5_cutNumber_53 : decode cX5_cutNumber 53 = .ok (.bipush 21, 2) := by decide +kernel
theorem dX5_cutNumber_55 : decode cX5_cutNumber 55 = .ok (.iload_n 1, 1) := by decide +kernel
theorem dX5_cutNumber_56 : decode cX5_cutNumber 56 = .ok (.iload_n 2, 1) := by decide +kernel
theorem dX5_cutNumber_57 : decode cX5_cutNumber 57 = .ok (.iload_n 1, 1) := by decide +kernel
theorem dX5_cutNumber_58 : decode cX5_cutNumber 58 = .ok (.isub, 1) := by decide +kernel
theorem dX5_cutNumber_59 : decode cX5_cutNumber 59 = .ok (.iconst 5, 1) := by decide +kernel
theorem dX5_cutNumber_60 : decode cX5_cutNumber 60 = .ok (.if_icmp .le 7, 3) := by decide +kernel
theorem dX5_cutNumber_63 : decode cX5_cutNumber 63 = .ok (.iconst (-1), 1) := by decide +kernel
theorem dX5_cutNumber_64 : decode cX5_cutNumber 64 = .ok (.goto 4, 3) := by decide +kernel
theorem dX5_cutNumber_67 : decode cX5_cutNumber 67 = .ok (.iload_n 3, 1) := by decide +kernel
theorem dX5_cutNumber_68 : decode cX5_cutNumber 68 = .ok (.invokevirtual 97, 3) := by decide +kernel
theorem dX5_cutNumber_71 : decode cX5_cutNumber 71 = .ok (.iload_n 2, 1) := by decide +kernel
theorem dX5_cutNumber_72 : decode cX5_cutNumber 72 = .ok (.ireturn, 1) := by decide +kernel
theorem dX5_cutWord_0 : decode cX5_cutWord 0 = .ok (.iload_n 1, 1) := by decide +kernel
theorem dX5_cutWord_1 : decode cX5_cutWord 1 = .ok (.istore_n 2, 1) := by decide +kernel
theorem dX5_cutWord_2 : decode cX5_cutWord 2 = .ok (.iload_n 2, 1) := by decide +kernel
theorem dX5_cutWord_3 : decode cX5_cutWord 3 = .ok (.aload_n 0, 1) := by decide +kernel
theorem dX5_cutWord_4 : decode cX5_cutWord 4 = .ok (.getfield 34, 3) := by decide +kernel
theorem dX5_cutWord_7 : decode cX5_cutWord 7 = .ok (.if_icmp .ge 21, 3) := by decide +kernel
theorem dX5_cutWord_10 : decode cX5_cutWord 10 = .ok (.aload_n 0, 1) := by decide +kernel
theorem dX5_cutWord_11 : decode cX5_cutWord 11 = .ok (.getfield 11, 3) := by decide +kernel
theorem dX5_cutWord_14 : decode cX5_cutWord 14 = .ok (.iload_n 2, 1) := by decide +kernel
theorem dX5_cutWord_15 : decode cX5_cutWord 15 = .ok (.baload, 1) := by decide +kernel
theorem dX5_cutWord_16 : decode cX5_cutWord 16 = .ok (.invokestatic 88, 3) := by decide +kernel
theorem dX5_cutWord_19 : decode cX5_cutWord 19 = .ok (.ifCond .eq 9, 3) := by decide +kernel
theorem dX5_cutWord_22 : decode cX5_cutWord 22 = .ok (.iinc 2 1, 3) := by decide +kernel
theorem dX5_cutWord_25 : decode cX5_cutWord 25 = .ok (.goto (-23), 3) := by decide +kernel
theorem dX5_cutWord_28 : decode cX5_cutWord 28 = .ok (.aload_n 0, 1) := by decide +kernel
theorem dX5_cutWord_29 : decode cX5_cutWord 29 = .ok (.aload_n 0, 1) := by decide +kernel
theorem dX5_cutWord_30 : decode cX5_cutWord 30 = .ok (.iload_n 1, 1) := by decide +kernel
theorem dX5_cutWord_31 : decode cX5_cutWord 31 = .ok (.iload_n 2, 1) := by decide +kernel
theorem dX5_cutWord_32 : decode cX5_cutWord 32 = .ok (.invokevirtual 101, 3) := by decide +kernel
theorem dX5_cutWord_35 : decode cX5_cutWord 35 = .ok (.iload_n 1, 1) := by decide +kernel
theorem dX5_cutWord_36 : decode cX5_cutWord 36 = .ok (.iconst 0, 1) := by decide +kernel
theorem dX5_cutWord_37 : decode cX5_cutWord 37 = .ok (.invokevirtual 97, 3) := by decide +kernel
theorem dX5_cutWord_40 : decode cX5_cutWord 40 = .ok (.iload_n 2, 1) := by decide +kernel
theorem dX5_cutWord_41 : decode cX5_cutWord 41 = .ok (.ireturn, 1) := by decide +kernel
theorem dX5_cutSign_0 : decode cX5_cutSign 0 = .ok (.iload_n 1, 1) := by decide +kernel
theorem dX5_cutSign_1 : decode cX5_cutSign 1 = .ok (.iconst 1, 1) := by decide +kernel
theorem dX5_cutSign_2 : decode cX5_cutSign 2 = .ok (.iadd, 1) := by decide +kernel
theorem dX5_cutSign_3 : decode cX5_cutSign 3 = .ok (.aload_n 0, 1) := by decide +kernel
theorem dX5_cutSign_4 : decode cX5_cutSign 4 = .ok (.getfield 34, 3) := by decide +kernel
theorem dX5_cutSign_7 : decode cX5_cutSign 7 = .ok (.if_icmp .ge 20, 3) := by decide +kernel
theorem dX5_cutSign_10 : decode cX5_cutSign 10 = .ok (.aload_n 0, 1) := by decide +kernel
theorem dX5_cutSign_11 : decode cX5_cutSign 11 = .ok (.getfield 11, 3) := by decide +kernel
theorem dX5_cutSign_14 : decode cX5_cutSign 14 = .ok (.iload_n 1, 1) := by decide +kernel
theorem dX5_cutSign_15 : decode cX5_cutSign 15 = .ok (.iconst 1, 1) := by decide +kernel
theorem dX5_cutSign_16 : decode cX5_cutSign 16 = .ok (.iadd, 1) := by decide +kernel
theorem dX5_cutSign_17 : decode cX5_cutSign 17 = .ok (.baload, 1) := by decide +kernel
theorem dX5_cutSign_18 : decode cX5_cutSign 18 = .ok (.bipush 61, 2) := by decide +kernel
theorem dX5_cutSign_20 : decode cX5_cutSign 20 = .ok (.if_icmp .ne 7, 3) := by decide +kernel
theorem dX5_cutSign_23 : decode cX5_cutSign 23 = .ok (.iconst 1, 1) := by decide +kernel
theorem dX5_cutSign_24 : decode cX5_cutSign 24 = .ok (.goto 4, 3) := by decide +kernel
theorem dX5_cutSign_27 : decode cX5_cutSign 27 = .ok (.iconst 0, 1) := by decide +kernel
theorem dX5_cutSign_28 : decode cX5_cutSign 28 = .ok (.istore_n 2, 1) := by decide +kernel
theorem dX5_cutSign_29 : decode cX5_cutSign 29 = .ok (.aload_n 0, 1) := by decide +kernel
theorem dX5_cutSign_30 : decode cX5_cutSign 30 = .ok (.getfield 11, 3) := by decide +kernel
theorem dX5_cutSign_33 : decode cX5_cutSign 33 = .ok (.iload_n 1, 1) := by decide +kernel
theorem dX5_cutSign_34 : decode cX5_cutSign 34 = .ok (.baload, 1) := by decide +kernel
theorem dX5_cutSign_35 : decode cX5_cutSign 35 = .ok (.iload_n 2, 1) := by decide +kernel
theorem dX5_cutSign_36 : decode cX5_cutSign 36 = .ok (.invokestatic 105, 3) := by decide +kernel
theorem dX5_cutSign_39 : decode cX5_cutSign 39 = .ok (.istore_n 3, 1) := by decide +kernel
theorem dX5_cutSign_40 : decode cX5_cutSign 40 = .ok (.aload_n 0, 1) := by decide +kernel
theorem dX5_cutSign_41 : decode cX5_cutSign 41 = .ok (.iload_n 3, 1) := by decide +kernel
theorem dX5_cutSign_42 : decode cX5_cutSign 42 = .ok (.iload_n 1, 1) := by decide +kernel
theorem dX5_cutSign_43 : decode cX5_cutSign 43 = .ok (.iconst 0, 1) := by decide +kernel
theorem dX5_cutSign_44 : decode cX5_cutSign 44 = .ok (.invokevirtual 97, 3) := by decide +kernel
theorem dX5_cutSign_47 : decode cX5_cutSign 47 = .ok (.iload_n 3, 1) := by decide +kernel
theorem dX5_cutSign_48 : decode cX5_cutSign 48 = .ok (.bipush 31, 2) := by decide +kernel
theorem dX5_cutSign_50 : decode cX5_cutSign 50 = .ok (.if_icmp .eq 9, 3) := by decide +kernel
theorem dX5_cutSign_53 : decode cX5_cutSign 53 = .ok (.iload_n 3, 1) := by decide +kernel
theorem dX5_cutSign_54 : decode cX5_cutSign 54 = .ok (.bipush 33, 2) := by decide +kernel
theorem dX5_cutSign_56 : decode cX5_cutSign 56 = .ok (.if_icmp .ne 9, 3) := by decide +kernel
theorem dX5_cutSign_59 : decode cX5_cutSign 59 = .ok (.iload_n 1, 1) := by decide +kernel
theorem dX5_cutSign_60 : decode cX5_cutSign 60 = .ok (.iconst 2, 1) := by decide +kernel
theorem dX5_cutSign_61 : decode cX5_cutSign 61 = .ok (.iadd, 1) := by decide +kernel
theorem dX5_cutSign_62 : decode cX5_cutSign 62 = .ok (.goto 6, 3) := by decide +kernel
theorem dX5_cutSign_65 : decode cX5_cutSign 65 = .ok (.iload_n 1, 1) := by decide +kernel
theorem dX5_cutSign_66 : decode cX5_cutSign 66 = .ok (.iconst 1, 1) := by decide +kernel
theorem dX5_cutSign_67 : decode cX5_cutSign 67 = .ok (.iadd, 1) := by decide +kernel
theorem dX5_cutSign_68 : decode cX5_cutSign 68 = .ok (.ireturn, 1) := by decide +kernel
theorem dX5_wordToken_0 : decode cX5_wordToken 0 = .ok (.iload_n 2, 1) := by decide +kernel
theorem dX5_wordToken_1 : decode cX5_wordToken 1 = .ok (.iload_n 1, 1) := by decide +kernel
theorem dX5_wordToken_2 : decode cX5_wordToken 2 = .ok (.isub, 1) := by decide +kernel
theorem dX5_wordToken_3 : decode cX5_wordToken 3 = .ok (.bipush 6, 2) := by decide +kernel
theorem dX5_wordToken_5 : decode cX5_wordToken 5 = .ok (.if_icmp .le 6, 3) := by decide +kernel
theorem dX5_wordToken_8 : decode cX5_wordToken 8 = .ok (.bipush 36, 2) := by decide +kernel
theorem dX5_wordToken_10 : decode cX5_wordToken 10 = .ok (.ireturn, 1) := by decide +kernel
theorem dX5_wordToken_11 : decode cX5_wordToken 11 = .ok (.iconst 0, 1) := by decide +kernel
theorem dX5_wordToken_12 : decode cX5_wordToken 12 = .ok (.istore_n 3, 1) := by decide +kernel
theorem dX5_wordToken_13 : decode cX5_wordToken 13 = .ok (.iload_n 3, 1) := by decide +kernel
theorem dX5_wordToken_14 : decode cX5_wordToken 14 = .ok (.bipush 21, 2) := by decide +kernel
theorem dX5_wordToken_16 : decode cX5_wordToken 16 = .ok (.if_icmp .ge 21, 3) := by decide +kernel
theorem dX5_wordToken_19 : decode cX5_wordToken 19 = .ok (.aload_n 0, 1) := by decide +kernel
theorem dX5_wordToken_20 : decode cX5_wordToken 20 = .ok (.iload_n 3, 1) := by decide +kernel
theorem dX5_wordToken_21 : decode cX5_wordToken 21 = .ok (.iload_n 1, 1) := by decide +kernel
theorem dX5_wordToken_22 : decode cX5_wordToken 22 = .ok (.iload_n 2, 1) := by decide +kernel
theorem dX5_wordToken_23 : decode cX5_wordToken 23 = .ok (.invokevirtual 109, 3) := by decide +kernel
theorem dX5_wordToken_26 : decode cX5_wordToken 26 = .ok (.ifCond .eq 5, 3) := by decide +kernel
theorem dX5_wordToken_29 : decode cX5_wordToken 29 = .ok (.iload_n 3, 1) := by decide +kernel
theorem dX5_wordToken_30 : decode cX5_wordToken 30 = .ok (.ireturn, 1) := by decide +kernel
theorem dX5_wordToken_31 : decode cX5_wordToken 31 = .ok (.iinc 3 1, 3) := by decide +kernel
theorem dX5_wordToken_34 : decode cX5_wordToken 34 = .ok (.goto (-21), 3) := by decide +kernel
theorem dX5_wordToken_37 : decode cX5_wordToken 37 = .ok (.bipush 36, 2) := by decide +kernel
theorem dX5_wordToken_39 : decode cX5_wordToken 39 = .ok (.ireturn, 1) := by decide +kernel
theorem dX5_isWord_0 : decode cX5_isWord 0 = .ok (.iconst 0, 1) := by decide +kernel
theorem dX5_isWord_1 : decode cX5_isWord 1 = .ok (.istore 4, 2) := by decide +kernel
theorem dX5_isWord_3 : decode cX5_isWord 3 = .ok (.iload 4, 2) := by decide +kernel
theorem dX5_isWord_5 : decode cX5_isWord 5 = .ok (.bipush 6, 2) := by decide +kernel
theorem dX5_isWord_7 : decode cX5_isWord 7 = .ok (.if_icmp .ge 52, 3) := by decide +kernel
theorem dX5_isWord_10 : decode cX5_isWord 10 = .ok (.iload_n 2, 1) := by decide +kernel
theorem dX5_isWord_11 : decode cX5_isWord 11 = .ok (.iload 4, 2) := by decide +kernel
theorem dX5_isWord_13 : decode cX5_isWord 13 = .ok (.iadd, 1) := by decide +kernel
theorem dX5_isWord_14 : decode cX5_isWord 14 = .ok (.iload_n 3, 1) := by decide +kernel
theorem dX5_isWord_15 : decode cX5_isWord 15 = .ok (.if_icmp .ge 15, 3) := by decide +kernel
theorem dX5_isWord_18 : decode cX5_isWord 18 = .ok (.aload_n 0, 1) := by decide +kernel
theorem dX5_isWord_19 : decode cX5_isWord 19 = .ok (.getfield 11, 3) := by decide +kernel
theorem dX5_isWord_22 : decode cX5_isWord 22 = .ok (.iload_n 2, 1) := by decide +kernel
theorem dX5_isWord_23 : decode cX5_isWord 23 = .ok (.iload 4, 2) := by decide +kernel
theorem dX5_isWord_25 : decode cX5_isWord 25 = .ok (.iadd, 1) := by decide +kernel
theorem dX5_isWord_26 : decode cX5_isWord 26 = .ok (.baload, 1) := by decide +kernel
theorem dX5_isWord_27 : decode cX5_isWord 27 = .ok (.goto 5, 3) := by decide +kernel
theorem dX5_isWord_30 : decode cX5_isWord 30 = .ok (.bipush 32, 2) := by decide +kernel
theorem dX5_isWord_32 : decode cX5_isWord 32 = .ok (.istore 5, 2) := by decide +kernel
theorem dX5_isWord_34 : decode cX5_isWord 34 = .ok (.ldc 113, 2) := by decide +kernel
theorem dX5_isWord_36 : decode cX5_isWord 36 = .ok (.iload_n 1, 1) := by decide +kernel
theorem dX5_isWord_37 : decode cX5_isWord 37 = .ok (.bipush 6, 2) := by decide +kernel
theorem dX5_isWord_39 : decode cX5_isWord 39 = .ok (.imul, 1) := by decide +kernel
theorem dX5_isWord_40 : decode cX5_isWord 40 = .ok (.iload 4, 2) := by decide +kernel
theorem dX5_isWord_42 : decode cX5_isWord 42 = .ok (.iadd, 1) := by decide +kernel
theorem dX5_isWord_43 : decode cX5_isWord 43 = .ok (.invokevirtual 115, 3) := by decide +kernel
theorem dX5_isWord_46 : decode cX5_isWord 46 = .ok (.iload 5, 2) := by decide +kernel
theorem dX5_isWord_48 : decode cX5_isWord 48 = .ok (.if_icmp .eq 5, 3) := by decide +kernel
theorem dX5_isWord_51 : decode cX5_isWord 51 = .ok (.iconst 0, 1) := by decide +kernel
theorem dX5_isWord_52 : decode cX5_isWord 52 = .ok (.ireturn, 1) := by decide +kernel
theorem dX5_isWord_53 : decode cX5_isWord 53 = .ok (.iinc 4 1, 3) := by decide +kernel
theorem dX5_isWord_56 : decode cX5_isWord 56 = .ok (.goto (-53), 3) := by decide +kernel
theorem dX5_isWord_59 : decode cX5_isWord 59 = .ok (.iconst 1, 1) := by decide +kernel
theorem dX5_isWord_60 : decode cX5_isWord 60 = .ok (.ireturn, 1) := by decide +kernel
theorem dX5_isDigit_0 : decode cX5_isDigit 0 = .ok (.iload_n 0, 1) := by decide +kernel
theorem dX5_isDigit_1 : decode cX5_isDigit 1 = .ok (.bipush 48, 2) := by decide +kernel
theorem dX5_isDigit_3 : decode cX5_isDigit 3 = .ok (.if_icmp .lt 13, 3) := by decide +kernel
theorem dX5_isDigit_6 : decode cX5_isDigit 6 = .ok (.iload_n 0, 1) := by decide +kernel
theorem dX5_isDigit_7 : decode cX5_isDigit 7 = .ok (.bipush 57, 2) := by decide +kernel
theorem dX5_isDigit_9 : decode cX5_isDigit 9 = .ok (.if_icmp .gt 7, 3) := by decide +kernel
theorem dX5_isDigit_12 : decode cX5_isDigit 12 = .ok (.iconst 1, 1) := by decide +kernel
theorem dX5_isDigit_13 : decode cX5_isDigit 13 = .ok (.goto 4, 3) := by decide +kernel
theorem dX5_isDigit_16 : decode cX5_isDigit 16 = .ok (.iconst 0, 1) := by decide +kernel
theorem dX5_isDigit_17 : decode cX5_isDigit 17 = .ok (.ireturn, 1) := by decide +kernel
theorem dX5_isLetter_0 : decode cX5_isLetter 0 = .ok (.iload_n 0, 1) := by decide +kernel
theorem dX5_isLetter_1 : decode cX5_isLetter 1 = .ok (.bipush 97, 2) := by decide +kernel
theorem dX5_isLetter_3 : decode cX5_isLetter 3 = .ok (.if_icmp .lt 13, 3) := by decide +kernel
theorem dX5_isLetter_6 : decode cX5_isLetter 6 = .ok (.iload_n 0, 1) := by decide +kernel
theorem dX5_isLetter_7 : decode cX5_isLetter 7 = .ok (.bipush 122, 2) := by decide +kernel
theorem dX5_isLetter_9 : decode cX5_isLetter 9 = .ok (.if_icmp .gt 7, 3) := by decide +kernel
theorem dX5_isLetter_12 : decode cX5_isLetter 12 = .ok (.iconst 1, 1) := by decide +kernel
theorem dX5_isLetter_13 : decode cX5_isLetter 13 = .ok (.goto 4, 3) := by decide +kernel
theorem dX5_isLetter_16 : decode cX5_isLetter 16 = .ok (.iconst 0, 1) := by decide +kernel
theorem dX5_isLetter_17 : decode cX5_isLetter 17 = .ok (.ireturn, 1) := by decide +kernel
theorem dX5_signToken_0 : decode cX5_signToken 0 = .ok (.iload_n 0, 1) := by decide +kernel
theorem dX5_signToken_1 : decode cX5_signToken 1 = .ok (.lookupswitch 150 #[(40, 105), (41, 108), (42, 120), (43, 114), (45, 117), (59, 111), (60, 126), (61, 123), (62, 138), (91, 99), (93, 102)], 99) := by decide +kernel
theorem dX5_signToken_100 : decode cX5_signToken 100 = .ok (.bipush 22, 2) := by decide +kernel
theorem dX5_signToken_102 : decode cX5_signToken 102 = .ok (.ireturn, 1) := by decide +kernel
theorem dX5_signToken_103 : decode cX5_signToken 103 = .ok (.bipush 23, 2) := by decide +kernel
theorem dX5_signToken_105 : decode cX5_signToken 105 = .ok (.ireturn, 1) := by decide +kernel
theorem dX5_signToken_106 : decode cX5_signToken 106 = .ok (.bipush 24, 2) := by decide +kernel
theorem dX5_signToken_108 : decode cX5_signToken 108 = .ok (.ireturn, 1) := by decide +kernel
theorem dX5_signToken_109 : decode cX5_signToken 109 = .ok (.bipush 25, 2) := by decide +kernel
theorem dX5_signToken_111 : decode cX5_signToken 111 = .ok (.ireturn, 1) := by decide +kernel
theorem dX5_signToken_112 : decode cX5_signToken 112 = .ok (.bipush 26, 2) := by decide +kernel
theorem dX5_signToken_114 : decode cX5_signToken 114 = .ok (.ireturn, 1) := by decide +kernel
theorem dX5_signToken_115 : decode cX5_signToken 115 = .ok (.bipush 27, 2) := by decide +kernel
theorem dX5_signToken_117 : decode cX5_signToken 117 = .ok (.ireturn, 1) := by decide +kernel
theorem dX5_signToken_118 : decode cX5_signToken 118 = .ok (.bipush 28, 2) := by decide +kernel
theorem dX5_signToken_120 : decode cX5_signToken 120 = .ok (.ireturn, 1) := by decide +kernel
theorem dX5_signToken_121 : decode cX5_signToken 121 = .ok (.bipush 29, 2) := by decide +kernel
theorem dX5_signToken_123 : decode cX5_signToken 123 = .ok (.ireturn, 1) := by decide +kernel
theorem dX5_signToken_124 : decode cX5_signToken 124 = .ok (.bipush 32, 2) := by decide +kernel
theorem dX5_signToken_126 : decode cX5_signToken 126 = .ok (.ireturn, 1) := by decide +kernel
theorem dX5_signToken_127 : decode cX5_signToken 127 = .ok (.iload_n 1, 1) := by decide +kernel
theorem dX5_signToken_128 : decode cX5_signToken 128 = .ok (.ifCond .eq 8, 3) := by decide +kernel
theorem dX5_signToken_131 : decode cX5_signToken 131 = .ok (.bipush 31, 2) := by decide +kernel
theorem dX5_signToken_133 : decode cX5_signToken 133 = .ok (.goto 5, 3) := by decide +kernel
theorem dX5_signToken_136 : decode cX5_signToken 136 = .ok (.bipush 30, 2) := by decide +kernel
theorem dX5_signToken_138 : decode cX5_signToken 138 = .ok (.ireturn, 1) := by decide +kernel
theorem dX5_signToken_139 : decode cX5_signToken 139 = .ok (.iload_n 1, 1) := by decide +kernel
theorem dX5_signToken_140 : decode cX5_signToken 140 = .ok (.ifCond .eq 8, 3) := by decide +kernel
theorem dX5_signToken_143 : decode cX5_signToken 143 = .ok (.bipush 33, 2) := by decide +kernel
theorem dX5_signToken_145 : decode cX5_signToken 145 = .ok (.goto 5, 3) := by decide +kernel
theorem dX5_signToken_148 : decode cX5_signToken 148 = .ok (.bipush 34, 2) := by decide +kernel
theorem dX5_signToken_150 : decode cX5_signToken 150 = .ok (.ireturn, 1) := by decide +kernel
theorem dX5_signToken_151 : decode cX5_signToken 151 = .ok (.bipush 36, 2) := by decide +kernel
theorem dX5_signToken_153 : decode cX5_signToken 153 = .ok (.ireturn, 1) := by decide +kernel
theorem dX5_readClause_0 : decode cX5_readClause 0 = .ok (.aload_n 0, 1) := by decide +kernel
theorem dX5_readClause_1 : decode cX5_readClause 1 = .ok (.getfield 15, 3) := by decide +kernel
theorem dX5_readClause_4 : decode cX5_readClause 4 = .ok (.aload_n 0, 1) := by decide +kernel
theorem dX5_readClause_5 : decode cX5_readClause 5 = .ok (.getfield 45, 3) := by decide +kernel
theorem dX5_readClause_8 : decode cX5_readClause 8 = .ok (.iaload, 1) := by decide +kernel
theorem dX5_readClause_9 : decode cX5_readClause 9 = .ok (.istore_n 1, 1) := by decide +kernel
theorem dX5_readClause_10 : decode cX5_readClause 10 = .ok (.iload_n 1, 1) := by decide +kernel
theorem dX5_readClause_11 : decode cX5_readClause 11 = .ok (.bipush 14, 2) := by decide +kernel
theorem dX5_readClause_13 : decode cX5_readClause 13 = .ok (.if_icmp .eq 21, 3) := by decide +kernel
theorem dX5_readClause_16 : decode cX5_readClause 16 = .ok (.iload_n 1, 1) := by decide +kernel
theorem dX5_readClause_17 : decode cX5_readClause 17 = .ok (.bipush 15, 2) := by decide +kernel
theorem dX5_readClause_19 : decode cX5_readClause 19 = .ok (.if_icmp .eq 15, 3) := by decide +kernel
theorem dX5_readClause_22 : decode cX5_readClause 22 = .ok (.iload_n 1, 1) := by decide +kernel
theorem dX5_readClause_23 : decode cX5_readClause 23 = .ok (.bipush 16, 2) := by decide +kernel
theorem dX5_readClause_25 : decode cX5_readClause 25 = .ok (.if_icmp .eq 9, 3) := by decide +kernel
theorem dX5_readClause_28 : decode cX5_readClause 28 = .ok (.aload_n 0, 1) := by decide +kernel
theorem dX5_readClause_29 : decode cX5_readClause 29 = .ok (.iconst 0, 1) := by decide +kernel
theorem dX5_readClause_30 : decode cX5_readClause 30 = .ok (.invokevirtual 121, 3) := by decide +kernel
theorem dX5_readClause_33 : decode cX5_readClause 33 = .ok (.ireturn, 1) := by decide +kernel
theorem dX5_readClause_34 : decode cX5_readClause 34 = .ok (.aload_n 0, 1) := by decide +kernel
theorem dX5_readClause_35 : decode cX5_readClause 35 = .ok (.getfield 57, 3) := by decide +kernel
theorem dX5_readClause_38 : decode cX5_readClause 38 = .ok (.bipush 10, 2) := by decide +kernel
theorem dX5_readClause_40 : decode cX5_readClause 40 = .ok (.if_icmp .lt 9, 3) := by decide +kernel
theorem dX5_readClause_43 : decode cX5_readClause 43 = .ok (.aload_n 0, 1) := by decide +kernel
theorem dX5_readClause_44 : decode cX5_readClause 44 = .ok (.iconst 4, 1) := by decide +kernel
theorem dX5_readClause_45 : decode cX5_readClause 45 = .ok (.invokevirtual 121, 3) := by decide +kernel
theorem dX5_readClause_48 : decode cX5_readClause 48 = .ok (.ireturn, 1) := by decide +kernel
theorem dX5_readClause_49 : decode cX5_readClause 49 = .ok (.aload_n 0, 1) := by decide +kernel
theorem dX5_readClause_50 : decode cX5_readClause 50 = .ok (.invokevirtual 124, 3) := by decide +kernel
theorem dX5_readClause_53 : decode cX5_readClause 53 = .ok (.aload_n 0, 1) := by decide +kernel
theorem dX5_readClause_54 : decode cX5_readClause 54 = .ok (.getfield 28, 3) := by decide +kernel
theorem dX5_readClause_57 : decode cX5_readClause 57 = .ok (.aload_n 0, 1) := by decide +kernel
theorem dX5_readClause_58 : decode cX5_readClause 58 = .ok (.getfield 57, 3) := by decide +kernel
theorem dX5_readClause_61 : decode cX5_readClause 61 = .ok (.iload_n 1, 1) := by decide +kernel
theorem dX5_readClause_62 : decode cX5_readClause 62 = .ok (.bipush 15, 2) := by decide +kernel
theorem dX5_readClause_64 : decode cX5_readClause 64 = .ok (.if_icmp .ne 7, 3) := by decide +kernel
theorem dX5_readClause_67 : decode cX5_readClause 67 = .ok (.iconst 1, 1) := by decide +kernel
theorem dX5_readClause_68 : decode cX5_readClause 68 = .ok (.goto 4, 3) := by decide +kernel
theorem dX5_readClause_71 : decode cX5_readClause 71 = .ok (.iconst 0, 1) := by decide +kernel
theorem dX5_readClause_72 : decode cX5_readClause 72 = .ok (.iastore, 1) := by decide +kernel
theorem dX5_readClause_73 : decode cX5_readClause 73 = .ok (.iload_n 1, 1) := by decide +kernel
theorem dX5_readClause_74 : decode cX5_readClause 74 = .ok (.bipush 16, 2) := by decide +kernel
theorem dX5_readClause_76 : decode cX5_readClause 76 = .ok (.if_icmp .ne 12, 3) := by decide +kernel
theorem dX5_readClause_79 : decode cX5_readClause 79 = .ok (.aload_n 0, 1) := by decide +kernel
theorem dX5_readClause_80 : decode cX5_readClause 80 = .ok (.invokevirtual 127, 3) := by decide +kernel
theorem dX5_readClause_83 : decode cX5_readClause 83 = .ok (.ifCond .ne 5, 3) := by decide +kernel
theorem dX5_readClause_86 : decode cX5_readClause 86 = .ok (.iconst 0, 1) := by decide +kernel
theorem dX5_readClause_87 : decode cX5_readClause 87 = .ok (.ireturn, 1) := by decide +kernel
theorem dX5_readClause_88 : decode cX5_readClause 88 = .ok (.aload_n 0, 1) := by decide +kernel
theorem dX5_readClause_89 : decode cX5_readClause 89 = .ok (.bipush 17, 2) := by decide +kernel
theorem dX5_readClause_91 : decode cX5_readClause 91 = .ok (.invokevirtual 64, 3) := by decide +kernel
theorem dX5_readClause_94 : decode cX5_readClause 94 = .ok (.ifCond .eq 11, 3) := by decide +kernel
theorem dX5_readClause_97 : decode cX5_readClause 97 = .ok (.aload_n 0, 1) := by decide +kernel
theorem dX5_readClause_98 : decode cX5_readClause 98 = .ok (.iconst 0, 1) := by decide +kernel
theorem dX5_readClause_99 : decode cX5_readClause 99 = .ok (.invokevirtual 130, 3) := by decide +kernel
theorem dX5_readClause_102 : decode cX5_readClause 102 = .ok (.ifCond .ne 5, 3) := by decide +kernel
theorem dX5_readClause_105 : decode cX5_readClause 105 = .ok (.iconst 0, 1) := by decide +kernel
theorem dX5_readClause_106 : decode cX5_readClause 106 = .ok (.ireturn, 1) := by decide +kernel
theorem dX5_readClause_107 : decode cX5_readClause 107 = .ok (.aload_n 0, 1) := by decide +kernel
theorem dX5_readClause_108 : decode cX5_readClause 108 = .ok (.dup, 1) := by decide +kernel
theorem dX5_readClause_109 : decode cX5_readClause 109 = .ok (.getfield 57, 3) := by decide +kernel
theorem dX5_readClause_112 : decode cX5_readClause 112 = .ok (.iconst 1, 1) := by decide +kernel
theorem dX5_readClause_113 : decode cX5_readClause 113 = .ok (.iadd, 1) := by decide +kernel
theorem dX5_readClause_114 : decode cX5_readClause 114 = .ok (.putfield 57, 3) := by decide +kernel
theorem dX5_readClause_117 : decode cX5_readClause 117 = .ok (.aload_n 0, 1) := by decide +kernel
theorem dX5_readClause_118 : decode cX5_readClause 118 = .ok (.getfield 31, 3) := by decide +kernel
theorem dX5_readClause_121 : decode cX5_readClause 121 = .ok (.aload_n 0, 1) := by decide +kernel
theorem dX5_readClause_122 : decode cX5_readClause 122 = .ok (.getfield 57, 3) := by decide +kernel
theorem dX5_readClause_125 : decode cX5_readClause 125 = .ok (.aload_n 0, 1) := by decide +kernel
theorem dX5_readClause_126 : decode cX5_readClause 126 = .ok (.getfield 54, 3) := by decide +kernel
theorem dX5_readClause_129 : decode cX5_readClause 129 = .ok (.iastore, 1) := by decide +kernel
theorem dX5_readClause_130 : decode cX5_readClause 130 = .ok (.iconst 1, 1) := by decide +kernel
theorem dX5_readClause_131 : decode cX5_readClause 131 = .ok (.ireturn, 1) := by decide +kernel
theorem dX5_readFine_0 : decode cX5_readFine 0 = .ok (.aload_n 0, 1) := by decide +kernel
theorem dX5_readFine_1 : decode cX5_readFine 1 = .ok (.getfield 15, 3) := by decide +kernel
theorem dX5_readFine_4 : decode cX5_readFine 4 = .ok (.aload_n 0, 1) := by decide +kernel
theorem dX5_readFine_5 : decode cX5_readFine 5 = .ok (.getfield 45, 3) := by decide +kernel
theorem dX5_readFine_8 : decode cX5_readFine 8 = .ok (.iaload, 1) := by decide +kernel
theorem dX5_readFine_9 : decode cX5_readFine 9 = .ok (.bipush 21, 2) := by decide +kernel
theorem dX5_readFine_11 : decode cX5_readFine 11 = .ok (.if_icmp .eq 9, 3) := by decide +kernel
theorem dX5_readFine_14 : decode cX5_readFine 14 = .ok (.aload_n 0, 1) := by decide +kernel
theorem dX5_readFine_15 : decode cX5_readFine 15 = .ok (.iconst 0, 1) := by decide +kernel
theorem dX5_readFine_16 : decode cX5_readFine 16 = .ok (.invokevirtual 121, 3) := by decide +kernel
theorem dX5_readFine_19 : decode cX5_readFine 19 = .ok (.ireturn, 1) := by decide +kernel
theorem dX5_readFine_20 : decode cX5_readFine 20 = .ok (.aload_n 0, 1) := by decide +kernel
theorem dX5_readFine_21 : decode cX5_readFine 21 = .ok (.getfield 22, 3) := by decide +kernel
theorem dX5_readFine_24 : decode cX5_readFine 24 = .ok (.aload_n 0, 1) := by decide +kernel
theorem dX5_readFine_25 : decode cX5_readFine 25 = .ok (.getfield 45, 3) := by decide +kernel
theorem dX5_readFine_28 : decode cX5_readFine 28 = .ok (.iaload, 1) := by decide +kernel
theorem dX5_readFine_29 : decode cX5_readFine 29 = .ok (.iconst (-1), 1) := by decide +kernel
theorem dX5_readFine_30 : decode cX5_readFine 30 = .ok (.if_icmp .ne 9, 3) := by decide +kernel
theorem dX5_readFine_33 : decode cX5_readFine 33 = .ok (.aload_n 0, 1) := by decide +kernel
theorem dX5_readFine_34 : decode cX5_readFine 34 = .ok (.iconst 1, 1) := by decide +kernel
theorem dX5_readFine_35 : decode cX5_readFine 35 = .ok (.invokevirtual 121, 3) := by decide +kernel
theorem dX5_readFine_38 : decode cX5_readFine 38 = .ok (.ireturn, 1) := by decide +kernel
theorem dX5_readFine_39 : decode cX5_readFine 39 = .ok (.aload_n 0, 1) := by decide +kernel
theorem dX5_readFine_40 : decode cX5_readFine 40 = .ok (.getfield 28, 3) := by decide +kernel
theorem dX5_readFine_43 : decode cX5_readFine 43 = .ok (.aload_n 0, 1) := by decide +kernel
theorem dX5_readFine_44 : decode cX5_readFine 44 = .ok (.getfield 57, 3) := by decide +kernel
theorem dX5_readFine_47 : decode cX5_readFine 47 = .ok (.bipush 10, 2) := by decide +kernel
theorem dX5_readFine_49 : decode cX5_readFine 49 = .ok (.aload_n 0, 1) := by decide +kernel
theorem dX5_readFine_50 : decode cX5_readFine 50 = .ok (.getfield 22, 3) := by decide +kernel
theorem dX5_readFine_53 : decode cX5_readFine 53 = .ok (.aload_n 0, 1) := by decide +kernel
theorem dX5_readFine_54 : decode cX5_readFine 54 = .ok (.getfield 45, 3) := by decide +kernel
theorem dX5_readFine_57 : decode cX5_readFine 57 = .ok (.iaload, 1) := by decide +kernel
theorem dX5_readFine_58 : decode cX5_readFine 58 = .ok (.iadd, 1) := by decide +kernel
theorem dX5_readFine_59 : decode cX5_readFine 59 = .ok (.iastore, 1) := by decide +kernel
theorem dX5_readFine_60 : decode cX5_readFine 60 = .ok (.aload_n 0, 1) := by decide +kernel
theorem dX5_readFine_61 : decode cX5_readFine 61 = .ok (.invokevirtual 124, 3) := by decide +kernel
theorem dX5_readFine_64 : decode cX5_readFine 64 = .ok (.iconst 1, 1) := by decide +kernel
theorem dX5_readFine_65 : decode cX5_readFine 65 = .ok (.ireturn, 1) := by decide +kernel
theorem dX5_readTest_0 : decode cX5_readTest 0 = .ok (.iconst 0, 1) := by decide +kernel
theorem dX5_readTest_1 : decode cX5_readTest 1 = .ok (.istore_n 2, 1) := by decide +kernel
theorem dX5_readTest_2 : decode cX5_readTest 2 = .ok (.iconst 0, 1) := by decide +kernel
theorem dX5_readTest_3 : decode cX5_readTest 3 = .ok (.istore_n 3, 1) := by decide +kernel
theorem dX5_readTest_4 : decode cX5_readTest 4 = .ok (.iconst 0, 1) := by decide +kernel
theorem dX5_readTest_5 : decode cX5_readTest 5 = .ok (.istore 4, 2) := by decide +kernel
theorem dX5_readTest_7 : decode cX5_readTest 7 = .ok (.iload 4, 2) := by decide +kernel
theorem dX5_readTest_9 : decode cX5_readTest 9 = .ok (.sipush 400, 3) := by decide +kernel
theorem dX5_readTest_12 : decode cX5_readTest 12 = .ok (.if_icmp .gt 85, 3) := by decide +kernel
theorem dX5_readTest_15 : decode cX5_readTest 15 = .ok (.aload_n 0, 1) := by decide +kernel
theorem dX5_readTest_16 : decode cX5_readTest 16 = .ok (.iload_n 1, 1) := by decide +kernel
theorem dX5_readTest_17 : decode cX5_readTest 17 = .ok (.invokevirtual 133, 3) := by decide +kernel
theorem dX5_readTest_20 : decode cX5_readTest 20 = .ok (.ifCond .ne 5, 3) := by decide +kernel
theorem dX5_readTest_23 : decode cX5_readTest 23 = .ok (.iconst 0, 1) := by decide +kernel
theorem dX5_readTest_24 : decode cX5_readTest 24 = .ok (.ireturn, 1) := by decide +kernel
theorem dX5_readTest_25 : decode cX5_readTest 25 = .ok (.iload_n 3, 1) := by decide +kernel
theorem dX5_readTest_26 : decode cX5_readTest 26 = .ok (.ifCond .eq 9, 3) := by decide +kernel
theorem dX5_readTest_29 : decode cX5_readTest 29 = .ok (.aload_n 0, 1) := by decide +kernel
theorem dX5_readTest_30 : decode cX5_readTest 30 = .ok (.bipush (-20), 2) := by decide +kernel
theorem dX5_readTest_32 : decode cX5_readTest 32 = .ok (.invokevirtual 136, 3) := by decide +kernel
theorem dX5_readTest_35 : decode cX5_readTest 35 = .ok (.aload_n 0, 1) := by decide +kernel
theorem dX5_readTest_36 : decode cX5_readTest 36 = .ok (.getfield 15, 3) := by decide +kernel
theorem dX5_readTest_39 : decode cX5_readTest 39 = .ok (.aload_n 0, 1) := by decide +kernel
theorem dX5_readTest_40 : decode cX5_readTest 40 = .ok (.getfield 45, 3) := by decide +kernel
theorem dX5_readTest_43 : decode cX5_readTest 43 = .ok (.iaload, 1) := by decide +kernel
theorem dX5_readTest_44 : decode cX5_readTest 44 = .ok (.bipush 19, 2) := by decide +kernel
theorem dX5_readTest_46 : decode cX5_readTest 46 = .ok (.if_icmp .ne 7, 3) := by decide +kernel
theorem dX5_readTest_49 : decode cX5_readTest 49 = .ok (.iconst 1, 1) := by decide +kernel
theorem dX5_readTest_50 : decode cX5_readTest 50 = .ok (.goto 4, 3) := by decide +kernel
theorem dX5_readTest_53 : decode cX5_readTest 53 = .ok (.iconst 0, 1) := by decide +kernel
theorem dX5_readTest_54 : decode cX5_readTest 54 = .ok (.istore_n 3, 1) := by decide +kernel
theorem dX5_readTest_55 : decode cX5_readTest 55 = .ok (.iload_n 3, 1) := by decide +kernel
theorem dX5_readTest_56 : decode cX5_readTest 56 = .ok (.ifCond .ne 31, 3) := by decide +kernel
theorem dX5_readTest_59 : decode cX5_readTest 59 = .ok (.iload_n 2, 1) := by decide +kernel
theorem dX5_readTest_60 : decode cX5_readTest 60 = .ok (.ifCond .eq 9, 3) := by decide +kernel
theorem dX5_readTest_63 : decode cX5_readTest 63 = .ok (.aload_n 0, 1) := by decide +kernel
theorem dX5_readTest_64 : decode cX5_readTest 64 = .ok (.bipush (-19), 2) := by decide +kernel
theorem dX5_readTest_66 : decode cX5_readTest 66 = .ok (.invokevirtual 136, 3) := by decide +kernel
theorem dX5_readTest_69 : decode cX5_readTest 69 = .ok (.iconst 1, 1) := by decide +kernel
theorem dX5_readTest_70 : decode cX5_readTest 70 = .ok (.istore_n 2, 1) := by decide +kernel
theorem dX5_readTest_71 : decode cX5_readTest 71 = .ok (.aload_n 0, 1) := by decide +kernel
theorem dX5_readTest_72 : decode cX5_readTest 72 = .ok (.getfield 15, 3) := by decide +kernel
theorem dX5_readTest_75 : decode cX5_readTest 75 = .ok (.aload_n 0, 1) := by decide +kernel
theorem dX5_readTest_76 : decode cX5_readTest 76 = .ok (.getfield 45, 3) := by decide +kernel
theorem dX5_readTest_79 : decode cX5_readTest 79 = .ok (.iaload, 1) := by decide +kernel
theorem dX5_readTest_80 : decode cX5_readTest 80 = .ok (.bipush 18, 2) := by decide +kernel
theorem dX5_readTest_82 : decode cX5_readTest 82 = .ok (.if_icmp .eq 5, 3) := by decide +kernel
theorem dX5_readTest_85 : decode cX5_readTest 85 = .ok (.iconst 1, 1) := by decide +kernel
theorem dX5_readTest_86 : decode cX5_readTest 86 = .ok (.ireturn, 1) := by decide +kernel
theorem dX5_readTest_87 : decode cX5_readTest 87 = .ok (.aload_n 0, 1) := by decide +kernel
theorem dX5_readTest_88 : decode cX5_readTest 88 = .ok (.invokevirtual 124, 3) := by decide +kernel
theorem dX5_readTest_91 : decode cX5_readTest 91 = .ok (.iinc 4 1, 3) := by decide +kernel
theorem dX5_readTest_94 : decode cX5_readTest 94 = .ok (.goto (-87), 3) := by decide +kernel
theorem dX5_readTest_97 : decode cX5_readTest 97 = .ok (.iconst 0, 1) := by decide +kernel
theorem dX5_readTest_98 : decode cX5_readTest 98 = .ok (.ireturn, 1) := by decide +kernel
theorem dX5_readFact_0 : decode cX5_readFact 0 = .ok (.aload_n 0, 1) := by decide +kernel
theorem dX5_readFact_1 : decode cX5_readFact 1 = .ok (.getfield 15, 3) := by decide +kernel
theorem dX5_readFact_4 : decode cX5_readFact 4 = .ok (.aload_n 0, 1) := by decide +kernel
theorem dX5_readFact_5 : decode cX5_readFact 5 = .ok (.getfield 45, 3) := by decide +kernel
theorem dX5_readFact_8 : decode cX5_readFact 8 = .ok (.iaload, 1) := by decide +kernel
theorem dX5_readFact_9 : decode cX5_readFact 9 = .ok (.bipush 22, 2) := by decide +kernel
theorem dX5_readFact_11 : decode cX5_readFact 11 = .ok (.if_icmp .ne 7, 3) := by decide +kernel
theorem dX5_readFact_14 : decode cX5_readFact 14 = .ok (.iconst 1, 1) := by decide +kernel
theorem dX5_readFact_15 : decode cX5_readFact 15 = .ok (.goto 4, 3) := by decide +kernel
theorem dX5_readFact_18 : decode cX5_readFact 18 = .ok (.iconst 0, 1) := by decide +kernel
theorem dX5_readFact_19 : decode cX5_readFact 19 = .ok (.istore_n 2, 1) := by decide +kernel
theorem dX5_readFact_20 : decode cX5_readFact 20 = .ok (.iload_n 2, 1) := by decide +kernel
theorem dX5_readFact_21 : decode cX5_readFact 21 = .ok (.ifCond .ne 17, 3) := by decide +kernel
theorem dX5_readFact_24 : decode cX5_readFact 24 = .ok (.aload_n 0, 1) := by decide +kernel
theorem dX5_readFact_25 : decode cX5_readFact 25 = .ok (.getfield 15, 3) := by decide +kernel
theorem dX5_readFact_28 : decode cX5_readFact 28 = .ok (.aload_n 0, 1) := by decide +kernel
theorem dX5_readFact_29 : decode cX5_readFact 29 = .ok (.getfield 45, 3) := by decide +kernel
theorem dX5_readFact_32 : decode cX5_readFact 32 = .ok (.iaload, 1) := by decide +kernel
theorem dX5_readFact_33 : decode cX5_readFact 33 = .ok (.bipush 20, 2) := by decide +kernel
theorem dX5_readFact_35 : decode cX5_readFact 35 = .ok (.if_icmp .ne 68, 3) := by decide +kernel
theorem dX5_readFact_38 : decode cX5_readFact 38 = .ok (.iload_n 1, 1) := by decide +kernel
theorem dX5_readFact_39 : decode cX5_readFact 39 = .ok (.bipush 10, 2) := by decide +kernel
theorem dX5_readFact_41 : decode cX5_readFact 41 = .ok (.if_icmp .lt 9, 3) := by decide +kernel
theorem dX5_readFact_44 : decode cX5_readFact 44 = .ok (.aload_n 0, 1) := by decide +kernel
theorem dX5_readFact_45 : decode cX5_readFact 45 = .ok (.iconst 2, 1) := by decide +kernel
theorem dX5_readFact_46 : decode cX5_readFact 46 = .ok (.invokevirtual 121, 3) := by decide +kernel
theorem dX5_readFact_49 : decode cX5_readFact 49 = .ok (.ireturn, 1) := by decide +kernel
theorem dX5_readFact_50 : decode cX5_readFact 50 = .ok (.aload_n 0, 1) := by decide +kernel
theorem dX5_readFact_51 : decode cX5_readFact 51 = .ok (.invokevirtual 124, 3) := by decide +kernel
theorem dX5_readFact_54 : decode cX5_readFact 54 = .ok (.iload_n 2, 1) := by decide +kernel
theorem dX5_readFact_55 : decode cX5_readFact 55 = .ok (.ifCond .eq 28, 3) := by decide +kernel
theorem dX5_readFact_58 : decode cX5_readFact 58 = .ok (.aload_n 0, 1) := by decide +kernel
theorem dX5_readFact_59 : decode cX5_readFact 59 = .ok (.iload_n 1, 1) := by decide +kernel
theorem dX5_readFact_60 : decode cX5_readFact 60 = .ok (.iconst 1, 1) := by decide +kernel
theorem dX5_readFact_61 : decode cX5_readFact 61 = .ok (.iadd, 1) := by decide +kernel
theorem dX5_readFact_62 : decode cX5_readFact 62 = .ok (.invokevirtual 130, 3) := by decide +kernel
theorem dX5_readFact_65 : decode cX5_readFact 65 = .ok (.ifCond .eq 16, 3) := by decide +kernel
theorem dX5_readFact_68 : decode cX5_readFact 68 = .ok (.aload_n 0, 1) := by decide +kernel
theorem dX5_readFact_69 : decode cX5_readFact 69 = .ok (.bipush 23, 2) := by decide +kernel
theorem dX5_readFact_71 : decode cX5_readFact 71 = .ok (.invokevirtual 64, 3) := by decide +kernel
theorem dX5_readFact_74 : decode cX5_readFact 74 = .ok (.ifCond .eq 7, 3) := by decide +kernel
theorem dX5_readFact_77 : decode cX5_readFact 77 = .ok (.iconst 1, 1) := by decide +kernel
theorem dX5_readFact_78 : decode cX5_readFact 78 = .ok (.goto 4, 3) := by decide +kernel
theorem dX5_readFact_81 : decode cX5_readFact 81 = .ok (.iconst 0, 1) := by decide +kernel
theorem dX5_readFact_82 : decode cX5_readFact 82 = .ok (.ireturn, 1) := by decide +kernel
theorem dX5_readFact_83 : decode cX5_readFact 83 = .ok (.aload_n 0, 1) := by decide +kernel
theorem dX5_readFact_84 : decode cX5_readFact 84 = .ok (.iload_n 1, 1) := by decide +kernel
theorem dX5_readFact_85 : decode cX5_readFact 85 = .ok (.iconst 1, 1) := by decide +kernel
theorem dX5_readFact_86 : decode cX5_readFact 86 = .ok (.iadd, 1) := by decide +kernel
theorem dX5_readFact_87 : decode cX5_readFact 87 = .ok (.invokevirtual 133, 3) := by decide +kernel
theorem dX5_readFact_90 : decode cX5_readFact 90 = .ok (.ifCond .ne 5, 3) := by decide +kernel
theorem dX5_readFact_93 : decode cX5_readFact 93 = .ok (.iconst 0, 1) := by decide +kernel
theorem dX5_readFact_94 : decode cX5_readFact 94 = .ok (.ireturn, 1) := by decide +kernel
theorem dX5_readFact_95 : decode cX5_readFact 95 = .ok (.aload_n 0, 1) := by decide +kernel
theorem dX5_readFact_96 : decode cX5_readFact 96 = .ok (.bipush (-21), 2) := by decide +kernel
theorem dX5_readFact_98 : decode cX5_readFact 98 = .ok (.invokevirtual 136, 3) := by decide +kernel
theorem dX5_readFact_101 : decode cX5_readFact 101 = .ok (.iconst 1, 1) := by decide +kernel
theorem dX5_readFact_102 : decode cX5_readFact 102 = .ok (.ireturn, 1) := by decide +kernel
theorem dX5_readFact_103 : decode cX5_readFact 103 = .ok (.aload_n 0, 1) := by decide +kernel
theorem dX5_readFact_104 : decode cX5_readFact 104 = .ok (.iload_n 1, 1) := by decide +kernel
theorem dX5_readFact_105 : decode cX5_readFact 105 = .ok (.invokevirtual 140, 3) := by decide +kernel
theorem dX5_readFact_108 : decode cX5_readFact 108 = .ok (.ifCond .ne 5, 3) := by decide +kernel
theorem dX5_readFact_111 : decode cX5_readFact 111 = .ok (.iconst 0, 1) := by decide +kernel
theorem dX5_readFact_112 : decode cX5_readFact 112 = .ok (.ireturn, 1) := by decide +kernel
theorem dX5_readFact_113 : decode cX5_readFact 113 = .ok (.aload_n 0, 1) := by decide +kernel
theorem dX5_readFact_114 : decode cX5_readFact 114 = .ok (.getfield 15, 3) := by decide +kernel
theorem dX5_readFact_117 : decode cX5_readFact 117 = .ok (.aload_n 0, 1) := by decide +kernel
theorem dX5_readFact_118 : decode cX5_readFact 118 = .ok (.getfield 45, 3) := by decide +kernel
theorem dX5_readFact_121 : decode cX5_readFact 121 = .ok (.iaload, 1) := by decide +kernel
theorem dX5_readFact_122 : decode cX5_readFact 122 = .ok (.istore_n 3, 1) := by decide +kernel
theorem dX5_readFact_123 : decode cX5_readFact 123 = .ok (.iload_n 3, 1) := by decide +kernel
theorem dX5_readFact_124 : decode cX5_readFact 124 = .ok (.bipush 30, 2) := by decide +kernel
theorem dX5_readFact_126 : decode cX5_readFact 126 = .ok (.if_icmp .lt 9, 3) := by decide +kernel
theorem dX5_readFact_129 : decode cX5_readFact 129 = .ok (.iload_n 3, 1) := by decide +kernel
theorem dX5_readFact_130 : decode cX5_readFact 130 = .ok (.bipush 34, 2) := by decide +kernel
theorem dX5_readFact_132 : decode cX5_readFact 132 = .ok (.if_icmp .le 9, 3) := by decide +kernel
theorem dX5_readFact_135 : decode cX5_readFact 135 = .ok (.aload_n 0, 1) := by decide +kernel
theorem dX5_readFact_136 : decode cX5_readFact 136 = .ok (.iconst 0, 1) := by decide +kernel
theorem dX5_readFact_137 : decode cX5_readFact 137 = .ok (.invokevirtual 121, 3) := by decide +kernel
theorem dX5_readFact_140 : decode cX5_readFact 140 = .ok (.ireturn, 1) := by decide +kernel
theorem dX5_readFact_141 : decode cX5_readFact 141 = .ok (.aload_n 0, 1) := by decide +kernel
theorem dX5_readFact_142 : decode cX5_readFact 142 = .ok (.getfield 48, 3) := by decide +kernel
theorem dX5_readFact_145 : decode cX5_readFact 145 = .ok (.bipush 80, 2) := by decide +kernel
theorem dX5_readFact_147 : decode cX5_readFact 147 = .ok (.if_icmp .lt 9, 3) := by decide +kernel
theorem dX5_readFact_150 : decode cX5_readFact 150 = .ok (.aload_n 0, 1) := by decide +kernel
theorem dX5_readFact_151 : decode cX5_readFact 151 = .ok (.iconst 3, 1) := by decide +kernel
theorem dX5_readFact_152 : decode cX5_readFact 152 = .ok (.invokevirtual 121, 3) := by decide +kernel
theorem dX5_readFact_155 : decode cX5_readFact 155 = .ok (.ireturn, 1) := by decide +kernel
theorem dX5_readFact_156 : decode cX5_readFact 156 = .ok (.aload_n 0, 1) := by decide +kernel
theorem dX5_readFact_157 : decode cX5_readFact 157 = .ok (.dup, 1) := by decide +kernel
theorem dX5_readFact_158 : decode cX5_readFact 158 = .ok (.getfield 48, 3) := by decide +kernel
theorem dX5_readFact_161 : decode cX5_readFact 161 = .ok (.iconst 1, 1) := by decide +kernel
theorem dX5_readFact_162 : decode cX5_readFact 162 = .ok (.iadd, 1) := by decide +kernel
theorem dX5_readFact_163 : decode cX5_readFact 163 = .ok (.putfield 48, 3) := by decide +kernel
theorem dX5_readFact_166 : decode cX5_readFact 166 = .ok (.aload_n 0, 1) := by decide +kernel
theorem dX5_readFact_167 : decode cX5_readFact 167 = .ok (.invokevirtual 124, 3) := by decide +kernel
theorem dX5_readFact_170 : decode cX5_readFact 170 = .ok (.aload_n 0, 1) := by decide +kernel
theorem dX5_readFact_171 : decode cX5_readFact 171 = .ok (.iload_n 1, 1) := by decide +kernel
theorem dX5_readFact_172 : decode cX5_readFact 172 = .ok (.invokevirtual 140, 3) := by decide +kernel
theorem dX5_readFact_175 : decode cX5_readFact 175 = .ok (.ifCond .ne 5, 3) := by decide +kernel
theorem dX5_readFact_178 : decode cX5_readFact 178 = .ok (.iconst 0, 1) := by decide +kernel
theorem dX5_readFact_179 : decode cX5_readFact 179 = .ok (.ireturn, 1) := by decide +kernel
theorem dX5_readFact_180 : decode cX5_readFact 180 = .ok (.aload_n 0, 1) := by decide +kernel
theorem dX5_readFact_181 : decode cX5_readFact 181 = .ok (.iconst (-1), 1) := by decide +kernel
theorem dX5_readFact_182 : decode cX5_readFact 182 = .ok (.iload_n 3, 1) := by decide +kernel
theorem dX5_readFact_183 : decode cX5_readFact 183 = .ok (.isub, 1) := by decide +kernel
theorem dX5_readFact_184 : decode cX5_readFact 184 = .ok (.invokevirtual 136, 3) := by decide +kernel
theorem dX5_readFact_187 : decode cX5_readFact 187 = .ok (.iconst 1, 1) := by decide +kernel
theorem dX5_readFact_188 : decode cX5_readFact 188 = .ok (.ireturn, 1) := by decide +kernel
theorem dX5_readSum_0 : decode cX5_readSum 0 = .ok (.iconst (-1), 1) := by decide +kernel
theorem dX5_readSum_1 : decode cX5_readSum 1 = .ok (.istore_n 2, 1) := by decide +kernel
theorem dX5_readSum_2 : decode cX5_readSum 2 = .ok (.iconst 0, 1) := by decide +kernel
theorem dX5_readSum_3 : decode cX5_readSum 3 = .ok (.istore_n 3, 1) := by decide +kernel
theorem dX5_readSum_4 : decode cX5_readSum 4 = .ok (.iconst 0, 1) := by decide +kernel
theorem dX5_readSum_5 : decode cX5_readSum 5 = .ok (.istore 4, 2) := by decide +kernel
theorem dX5_readSum_7 : decode cX5_readSum 7 = .ok (.iload 4, 2) := by decide +kernel
theorem dX5_readSum_9 : decode cX5_readSum 9 = .ok (.sipush 400, 3) := by decide +kernel
theorem dX5_readSum_12 : decode cX5_readSum 12 = .ok (.if_icmp .gt 92, 3) := by decide +kernel
theorem dX5_readSum_15 : decode cX5_readSum 15 = .ok (.aload_n 0, 1) := by decide +kernel
theorem dX5_readSum_16 : decode cX5_readSum 16 = .ok (.iload_n 1, 1) := by decide +kernel
theorem dX5_readSum_17 : decode cX5_readSum 17 = .ok (.invokevirtual 143, 3) := by decide +kernel
theorem dX5_readSum_20 : decode cX5_readSum 20 = .ok (.ifCond .ne 5, 3) := by decide +kernel
theorem dX5_readSum_23 : decode cX5_readSum 23 = .ok (.iconst 0, 1) := by decide +kernel
theorem dX5_readSum_24 : decode cX5_readSum 24 = .ok (.ireturn, 1) := by decide +kernel
theorem dX5_readSum_25 : decode cX5_readSum 25 = .ok (.iload_n 3, 1) := by decide +kernel
theorem dX5_readSum_26 : decode cX5_readSum 26 = .ok (.ifCond .eq 9, 3) := by decide +kernel
theorem dX5_readSum_29 : decode cX5_readSum 29 = .ok (.aload_n 0, 1) := by decide +kernel
theorem dX5_readSum_30 : decode cX5_readSum 30 = .ok (.bipush (-30), 2) := by decide +kernel
theorem dX5_readSum_32 : decode cX5_readSum 32 = .ok (.invokevirtual 136, 3) := by decide +kernel
theorem dX5_readSum_35 : decode cX5_readSum 35 = .ok (.aload_n 0, 1) := by decide +kernel
theorem dX5_readSum_36 : decode cX5_readSum 36 = .ok (.getfield 15, 3) := by decide +kernel
theorem dX5_readSum_39 : decode cX5_readSum 39 = .ok (.aload_n 0, 1) := by decide +kernel
theorem dX5_readSum_40 : decode cX5_readSum 40 = .ok (.getfield 45, 3) := by decide +kernel
theorem dX5_readSum_43 : decode cX5_readSum 43 = .ok (.iaload, 1) := by decide +kernel
theorem dX5_readSum_44 : decode cX5_readSum 44 = .ok (.istore 5, 2) := by decide +kernel
theorem dX5_readSum_46 : decode cX5_readSum 46 = .ok (.iload 5, 2) := by decide +kernel
theorem dX5_readSum_48 : decode cX5_readSum 48 = .ok (.bipush 29, 2) := by decide +kernel
theorem dX5_readSum_50 : decode cX5_readSum 50 = .ok (.if_icmp .ne 7, 3) := by decide +kernel
theorem dX5_readSum_53 : decode cX5_readSum 53 = .ok (.iconst 1, 1) := by decide +kernel
theorem dX5_readSum_54 : decode cX5_readSum 54 = .ok (.goto 4, 3) := by decide +kernel
theorem dX5_readSum_57 : decode cX5_readSum 57 = .ok (.iconst 0, 1) := by decide +kernel
theorem dX5_readSum_58 : decode cX5_readSum 58 = .ok (.istore_n 3, 1) := by decide +kernel
theorem dX5_readSum_59 : decode cX5_readSum 59 = .ok (.iload_n 3, 1) := by decide +kernel
theorem dX5_readSum_60 : decode cX5_readSum 60 = .ok (.ifCond .ne 34, 3) := by decide +kernel
theorem dX5_readSum_63 : decode cX5_readSum 63 = .ok (.iload_n 2, 1) := by decide +kernel
theorem dX5_readSum_64 : decode cX5_readSum 64 = .ok (.iconst (-1), 1) := by decide +kernel
theorem dX5_readSum_65 : decode cX5_readSum 65 = .ok (.if_icmp .eq 10, 3) := by decide +kernel
theorem dX5_readSum_68 : decode cX5_readSum 68 = .ok (.aload_n 0, 1) := by decide +kernel
theorem dX5_readSum_69 : decode cX5_readSum 69 = .ok (.iconst (-1), 1) := by decide +kernel
theorem dX5_readSum_70 : decode cX5_readSum 70 = .ok (.iload_n 2, 1) := by decide +kernel
theorem dX5_readSum_71 : decode cX5_readSum 71 = .ok (.isub, 1) := by decide +kernel
theorem dX5_readSum_72 : decode cX5_readSum 72 = .ok (.invokevirtual 136, 3) := by decide +kernel
theorem dX5_readSum_75 : decode cX5_readSum 75 = .ok (.iload 5, 2) := by decide +kernel
theorem dX5_readSum_77 : decode cX5_readSum 77 = .ok (.istore_n 2, 1) := by decide +kernel
theorem dX5_readSum_78 : decode cX5_readSum 78 = .ok (.iload 5, 2) := by decide +kernel
theorem dX5_readSum_80 : decode cX5_readSum 80 = .ok (.bipush 27, 2) := by decide +kernel
theorem dX5_readSum_82 : decode cX5_readSum 82 = .ok (.if_icmp .eq 12, 3) := by decide +kernel
theorem dX5_readSum_85 : decode cX5_readSum 85 = .ok (.iload 5, 2) := by decide +kernel
theorem dX5_readSum_87 : decode cX5_readSum 87 = .ok (.bipush 28, 2) := by decide +kernel
theorem dX5_readSum_89 : decode cX5_readSum 89 = .ok (.if_icmp .eq 5, 3) := by decide +kernel
theorem dX5_readSum_92 : decode cX5_readSum 92 = .ok (.iconst 1, 1) := by decide +kernel
theorem dX5_readSum_93 : decode cX5_readSum 93 = .ok (.ireturn, 1) := by decide +kernel
theorem dX5_readSum_94 : decode cX5_readSum 94 = .ok (.aload_n 0, 1) := by decide +kernel
theorem dX5_readSum_95 : decode cX5_readSum 95 = .ok (.invokevirtual 124, 3) := by decide +kernel
theorem dX5_readSum_98 : decode cX5_readSum 98 = .ok (.iinc 4 1, 3) := by decide +kernel
theorem dX5_readSum_101 : decode cX5_readSum 101 = .ok (.goto (-94), 3) := by decide +kernel
theorem dX5_readSum_104 : decode cX5_readSum 104 = .ok (.iconst 0, 1) := by decide +kernel
theorem dX5_readSum_105 : decode cX5_readSum 105 = .ok (.ireturn, 1) := by decide +kernel
theorem dX5_readValue_0 : decode cX5_readValue 0 = .ok (.aload_n 0, 1) := by decide +kernel
theorem dX5_readValue_1 : decode cX5_readValue 1 = .ok (.getfield 15, 3) := by decide +kernel
theorem dX5_readValue_4 : decode cX5_readValue 4 = .ok (.aload_n 0, 1) := by decide +kernel
theorem dX5_readValue_5 : decode cX5_readValue 5 = .ok (.getfield 45, 3) := by decide +kernel
theorem dX5_readValue_8 : decode cX5_readValue 8 = .ok (.iaload, 1) := by decide +kernel
theorem dX5_readValue_9 : decode cX5_readValue 9 = .ok (.istore_n 2, 1) := by decide +kernel
theorem dX5_readValue_10 : decode cX5_readValue 10 = .ok (.iload_n 2, 1) := by decide +kernel
theorem dX5_readValue_11 : decode cX5_readValue 11 = .ok (.bipush 24, 2) := by decide +kernel
theorem dX5_readValue_13 : decode cX5_readValue 13 = .ok (.if_icmp .ne 7, 3) := by decide +kernel
theorem dX5_readValue_16 : decode cX5_readValue 16 = .ok (.iconst 1, 1) := by decide +kernel
theorem dX5_readValue_17 : decode cX5_readValue 17 = .ok (.goto 4, 3) := by decide +kernel
theorem dX5_readValue_20 : decode cX5_readValue 20 = .ok (.iconst 0, 1) := by decide +kernel
theorem dX5_readValue_21 : decode cX5_readValue 21 = .ok (.istore_n 3, 1) := by decide +kernel
theorem dX5_readValue_22 : decode cX5_readValue 22 = .ok (.iload_n 3, 1) := by decide +kernel
theorem dX5_readValue_23 : decode cX5_readValue 23 = .ok (.ifCond .ne 21, 3) := by decide +kernel
theorem dX5_readValue_26 : decode cX5_readValue 26 = .ok (.iload_n 2, 1) := by decide +kernel
theorem dX5_readValue_27 : decode cX5_readValue 27 = .ok (.bipush 21, 2) := by decide +kernel
theorem dX5_readValue_29 : decode cX5_readValue 29 = .ok (.if_icmp .eq 15, 3) := by decide +kernel
theorem dX5_readValue_32 : decode cX5_readValue 32 = .ok (.iload_n 2, 1) := by decide +kernel
theorem dX5_readValue_33 : decode cX5_readValue 33 = .ok (.bipush 14, 2) := by decide +kernel
theorem dX5_readValue_35 : decode cX5_readValue 35 = .ok (.if_icmp .lt 9, 3) := by decide +kernel
theorem dX5_readValue_38 : decode cX5_readValue 38 = .ok (.aload_n 0, 1) := by decide +kernel
theorem dX5_readValue_39 : decode cX5_readValue 39 = .ok (.iconst 0, 1) := by decide +kernel
theorem dX5_readValue_40 : decode cX5_readValue 40 = .ok (.invokevirtual 121, 3) := by decide +kernel
theorem dX5_readValue_43 : decode cX5_readValue 43 = .ok (.ireturn, 1) := by decide +kernel
theorem dX5_readValue_44 : decode cX5_readValue 44 = .ok (.iload_n 2, 1) := by decide +kernel
theorem dX5_readValue_45 : decode cX5_readValue 45 = .ok (.bipush 21, 2) := by decide +kernel
theorem dX5_readValue_47 : decode cX5_readValue 47 = .ok (.if_icmp .ne 22, 3) := by decide +kernel
theorem dX5_readValue_50 : decode cX5_readValue 50 = .ok (.aload_n 0, 1) := by decide +kernel
theorem dX5_readValue_51 : decode cX5_readValue 51 = .ok (.getfield 22, 3) := by decide +kernel
theorem dX5_readValue_54 : decode cX5_readValue 54 = .ok (.aload_n 0, 1) := by decide +kernel
theorem dX5_readValue_55 : decode cX5_readValue 55 = .ok (.getfield 45, 3) := by decide +kernel
theorem dX5_readValue_58 : decode cX5_readValue 58 = .ok (.iaload, 1) := by decide +kernel
theorem dX5_readValue_59 : decode cX5_readValue 59 = .ok (.iconst (-1), 1) := by decide +kernel
theorem dX5_readValue_60 : decode cX5_readValue 60 = .ok (.if_icmp .ne 9, 3) := by decide +kernel
theorem dX5_readValue_63 : decode cX5_readValue 63 = .ok (.aload_n 0, 1) := by decide +kernel
theorem dX5_readValue_64 : decode cX5_readValue 64 = .ok (.iconst 1, 1) := by decide +kernel
theorem dX5_readValue_65 : decode cX5_readValue 65 = .ok (.invokevirtual 121, 3) := by decide +kernel
theorem dX5_readValue_68 : decode cX5_readValue 68 = .ok (.ireturn, 1) := by decide +kernel
theorem dX5_readValue_69 : decode cX5_readValue 69 = .ok (.iload_n 3, 1) := by decide +kernel
theorem dX5_readValue_70 : decode cX5_readValue 70 = .ok (.ifCond .eq 15, 3) := by decide +kernel
theorem dX5_readValue_73 : decode cX5_readValue 73 = .ok (.iload_n 1, 1) := by decide +kernel
theorem dX5_readValue_74 : decode cX5_readValue 74 = .ok (.bipush 10, 2) := by decide +kernel
theorem dX5_readValue_76 : decode cX5_readValue 76 = .ok (.if_icmp .lt 9, 3) := by decide +kernel
theorem dX5_readValue_79 : decode cX5_readValue 79 = .ok (.aload_n 0, 1) := by decide +kernel
theorem dX5_readValue_80 : decode cX5_readValue 80 = .ok (.iconst 2, 1) := by decide +kernel
theorem dX5_readValue_81 : decode cX5_readValue 81 = .ok (.invokevirtual 121, 3) := by decide +kernel
theorem dX5_readValue_84 : decode cX5_readValue 84 = .ok (.ireturn, 1) := by decide +kernel
theorem dX5_readValue_85 : decode cX5_readValue 85 = .ok (.aload_n 0, 1) := by decide +kernel
theorem dX5_readValue_86 : decode cX5_readValue 86 = .ok (.getfield 48, 3) := by decide +kernel
theorem dX5_readValue_89 : decode cX5_readValue 89 = .ok (.bipush 80, 2) := by decide +kernel
theorem dX5_readValue_91 : decode cX5_readValue 91 = .ok (.if_icmp .lt 9, 3) := by decide +kernel
theorem dX5_readValue_94 : decode cX5_readValue 94 = .ok (.aload_n 0, 1) := by decide +kernel
theorem dX5_readValue_95 : decode cX5_readValue 95 = .ok (.iconst 3, 1) := by decide +kernel
