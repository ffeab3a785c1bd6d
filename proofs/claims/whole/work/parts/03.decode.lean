theorem zd_A_init_0 : decode zb_A_init 0 = .ok (.aload_n 0, 1) := by decide +kernel
theorem zd_A_init_1 : decode zb_A_init 1 = .ok (.invokespecial 1, 3) := by decide +kernel
theorem zd_A_init_4 : decode zb_A_init 4 = .ok (.aload_n 0, 1) := by decide +kernel
theorem zd_A_init_5 : decode zb_A_init 5 = .ok (.bipush 12, 2) := by decide +kernel
theorem zd_A_init_7 : decode zb_A_init 7 = .ok (.anewarray 9, 3) := by decide +kernel
theorem zd_A_init_10 : decode zb_A_init 10 = .ok (.putfield 11, 3) := by decide +kernel
theorem zd_A_init_13 : decode zb_A_init 13 = .ok (.aload_n 0, 1) := by decide +kernel
theorem zd_A_init_14 : decode zb_A_init 14 = .ok (.bipush 12, 2) := by decide +kernel
theorem zd_A_init_16 : decode zb_A_init 16 = .ok (.anewarray 15, 3) := by decide +kernel
theorem zd_A_init_19 : decode zb_A_init 19 = .ok (.putfield 17, 3) := by decide +kernel
theorem zd_A_init_22 : decode zb_A_init 22 = .ok (.aload_n 0, 1) := by decide +kernel
theorem zd_A_init_23 : decode zb_A_init 23 = .ok (.bipush 8, 2) := by decide +kernel
theorem zd_A_init_25 : decode zb_A_init 25 = .ok (.newarray .int, 2) := by decide +kernel
theorem zd_A_init_27 : decode zb_A_init 27 = .ok (.putfield 21, 3) := by decide +kernel
theorem zd_A_init_30 : decode zb_A_init 30 = .ok (.aload_n 0, 1) := by decide +kernel
theorem zd_A_init_31 : decode zb_A_init 31 = .ok (.new 25, 3) := by decide +kernel
theorem zd_A_init_34 : decode zb_A_init 34 = .ok (.dup, 1) := by decide +kernel
theorem zd_A_init_35 : decode zb_A_init 35 = .ok (.invokespecial 27, 3) := by decide +kernel
theorem zd_A_init_38 : decode zb_A_init 38 = .ok (.putfield 28, 3) := by decide +kernel
theorem zd_A_init_41 : decode zb_A_init 41 = .ok (.aload_n 0, 1) := by decide +kernel
theorem zd_A_init_42 : decode zb_A_init 42 = .ok (.new 32, 3) := by decide +kernel
theorem zd_A_init_45 : decode zb_A_init 45 = .ok (.dup, 1) := by decide +kernel
theorem zd_A_init_46 : decode zb_A_init 46 = .ok (.invokespecial 34, 3) := by decide +kernel
theorem zd_A_init_49 : decode zb_A_init 49 = .ok (.putfield 35, 3) := by decide +kernel
theorem zd_A_init_52 : decode zb_A_init 52 = .ok (.aload_n 0, 1) := by decide +kernel
theorem zd_A_init_53 : decode zb_A_init 53 = .ok (.bipush 12, 2) := by decide +kernel
theorem zd_A_init_55 : decode zb_A_init 55 = .ok (.newarray .int, 2) := by decide +kernel
theorem zd_A_init_57 : decode zb_A_init 57 = .ok (.putfield 39, 3) := by decide +kernel
theorem zd_A_init_60 : decode zb_A_init 60 = .ok (.aload_n 0, 1) := by decide +kernel
theorem zd_A_init_61 : decode zb_A_init 61 = .ok (.bipush 6, 2) := by decide +kernel
theorem zd_A_init_63 : decode zb_A_init 63 = .ok (.putfield 42, 3) := by decide +kernel
theorem zd_A_init_66 : decode zb_A_init 66 = .ok (.aload_n 0, 1) := by decide +kernel
theorem zd_A_init_67 : decode zb_A_init 67 = .ok (.bipush 100, 2) := by decide +kernel
theorem zd_A_init_69 : decode zb_A_init 69 = .ok (.putfield 46, 3) := by decide +kernel
theorem zd_A_init_72 : decode zb_A_init 72 = .ok (.iconst 0, 1) := by decide +kernel
theorem zd_A_init_73 : decode zb_A_init 73 = .ok (.istore_n 1, 1) := by decide +kernel
theorem zd_A_init_74 : decode zb_A_init 74 = .ok (.iload_n 1, 1) := by decide +kernel
theorem zd_A_init_75 : decode zb_A_init 75 = .ok (.bipush 8, 2) := by decide +kernel
theorem zd_A_init_77 : decode zb_A_init 77 = .ok (.if_icmp .ge 16, 3) := by decide +kernel
theorem zd_A_init_80 : decode zb_A_init 80 = .ok (.aload_n 0, 1) := by decide +kernel
theorem zd_A_init_81 : decode zb_A_init 81 = .ok (.getfield 21, 3) := by decide +kernel
theorem zd_A_init_84 : decode zb_A_init 84 = .ok (.iload_n 1, 1) := by decide +kernel
theorem zd_A_init_85 : decode zb_A_init 85 = .ok (.iconst 1, 1) := by decide +kernel
theorem zd_A_init_86 : decode zb_A_init 86 = .ok (.iastore, 1) := by decide +kernel
theorem zd_A_init_87 : decode zb_A_init 87 = .ok (.iinc 1 1, 3) := by decide +kernel
theorem zd_A_init_90 : decode zb_A_init 90 = .ok (.goto (-16), 3) := by decide +kernel
theorem zd_A_init_93 : decode zb_A_init 93 = .ok (.return_, 1) := by decide +kernel
theorem zd_A_unit_0 : decode zb_A_unit 0 = .ok (.iload_n 1, 1) := by decide +kernel
theorem zd_A_unit_1 : decode zb_A_unit 1 = .ok (.iconst 0, 1) := by decide +kernel
theorem zd_A_unit_2 : decode zb_A_unit 2 = .ok (.bipush 7, 2) := by decide +kernel
theorem zd_A_unit_4 : decode zb_A_unit 4 = .ok (.invokestatic 49, 3) := by decide +kernel
theorem zd_A_unit_7 : decode zb_A_unit 7 = .ok (.ifCond .ne 13, 3) := by decide +kernel
theorem zd_A_unit_10 : decode zb_A_unit 10 = .ok (.iload_n 2, 1) := by decide +kernel
theorem zd_A_unit_11 : decode zb_A_unit 11 = .ok (.iconst 1, 1) := by decide +kernel
theorem zd_A_unit_12 : decode zb_A_unit 12 = .ok (.bipush 100, 2) := by decide +kernel
theorem zd_A_unit_14 : decode zb_A_unit 14 = .ok (.invokestatic 49, 3) := by decide +kernel
theorem zd_A_unit_17 : decode zb_A_unit 17 = .ok (.ifCond .eq 13, 3) := by decide +kernel
theorem zd_A_unit_20 : decode zb_A_unit 20 = .ok (.new 53, 3) := by decide +kernel
theorem zd_A_unit_23 : decode zb_A_unit 23 = .ok (.dup, 1) := by decide +kernel
theorem zd_A_unit_24 : decode zb_A_unit 24 = .ok (.ldc 55, 2) := by decide +kernel
theorem zd_A_unit_26 : decode zb_A_unit 26 = .ok (.invokespecial 57, 3) := by decide +kernel
theorem zd_A_unit_29 : decode zb_A_unit 29 = .ok (.athrow, 1) := by decide +kernel
theorem zd_A_unit_30 : decode zb_A_unit 30 = .ok (.aload_n 0, 1) := by decide +kernel
theorem zd_A_unit_31 : decode zb_A_unit 31 = .ok (.getfield 60, 3) := by decide +kernel
theorem zd_A_unit_34 : decode zb_A_unit 34 = .ok (.bipush 12, 2) := by decide +kernel
theorem zd_A_unit_36 : decode zb_A_unit 36 = .ok (.if_icmp .lt 13, 3) := by decide +kernel
theorem zd_A_unit_39 : decode zb_A_unit 39 = .ok (.new 63, 3) := by decide +kernel
theorem zd_A_unit_42 : decode zb_A_unit 42 = .ok (.dup, 1) := by decide +kernel
theorem zd_A_unit_43 : decode zb_A_unit 43 = .ok (.ldc 65, 2) := by decide +kernel
theorem zd_A_unit_45 : decode zb_A_unit 45 = .ok (.invokespecial 67, 3) := by decide +kernel
theorem zd_A_unit_48 : decode zb_A_unit 48 = .ok (.athrow, 1) := by decide +kernel
theorem zd_A_unit_49 : decode zb_A_unit 49 = .ok (.aload_n 0, 1) := by decide +kernel
theorem zd_A_unit_50 : decode zb_A_unit 50 = .ok (.getfield 11, 3) := by decide +kernel
theorem zd_A_unit_53 : decode zb_A_unit 53 = .ok (.aload_n 0, 1) := by decide +kernel
theorem zd_A_unit_54 : decode zb_A_unit 54 = .ok (.getfield 60, 3) := by decide +kernel
theorem zd_A_unit_57 : decode zb_A_unit 57 = .ok (.new 9, 3) := by decide +kernel
theorem zd_A_unit_60 : decode zb_A_unit 60 = .ok (.dup, 1) := by decide +kernel
theorem zd_A_unit_61 : decode zb_A_unit 61 = .ok (.aload_n 0, 1) := by decide +kernel
theorem zd_A_unit_62 : decode zb_A_unit 62 = .ok (.getfield 60, 3) := by decide +kernel
theorem zd_A_unit_65 : decode zb_A_unit 65 = .ok (.iload_n 1, 1) := by decide +kernel
theorem zd_A_unit_66 : decode zb_A_unit 66 = .ok (.iload_n 2, 1) := by decide +kernel
theorem zd_A_unit_67 : decode zb_A_unit 67 = .ok (.invokespecial 68, 3) := by decide +kernel
theorem zd_A_unit_70 : decode zb_A_unit 70 = .ok (.aastore, 1) := by decide +kernel
theorem zd_A_unit_71 : decode zb_A_unit 71 = .ok (.aload_n 0, 1) := by decide +kernel
theorem zd_A_unit_72 : decode zb_A_unit 72 = .ok (.dup, 1) := by decide +kernel
theorem zd_A_unit_73 : decode zb_A_unit 73 = .ok (.getfield 60, 3) := by decide +kernel
theorem zd_A_unit_76 : decode zb_A_unit 76 = .ok (.iconst 1, 1) := by decide +kernel
theorem zd_A_unit_77 : decode zb_A_unit 77 = .ok (.iadd, 1) := by decide +kernel
theorem zd_A_unit_78 : decode zb_A_unit 78 = .ok (.putfield 60, 3) := by decide +kernel
theorem zd_A_unit_81 : decode zb_A_unit 81 = .ok (.aload_n 0, 1) := by decide +kernel
theorem zd_A_unit_82 : decode zb_A_unit 82 = .ok (.getfield 60, 3) := by decide +kernel
theorem zd_A_unit_85 : decode zb_A_unit 85 = .ok (.iconst 1, 1) := by decide +kernel
theorem zd_A_unit_86 : decode zb_A_unit 86 = .ok (.isub, 1) := by decide +kernel
theorem zd_A_unit_87 : decode zb_A_unit 87 = .ok (.ireturn, 1) := by decide +kernel
theorem zd_A_place_0 : decode zb_A_place 0 = .ok (.iload_n 1, 1) := by decide +kernel
theorem zd_A_place_1 : decode zb_A_place 1 = .ok (.iconst 0, 1) := by decide +kernel
theorem zd_A_place_2 : decode zb_A_place 2 = .ok (.sipush 255, 3) := by decide +kernel
theorem zd_A_place_5 : decode zb_A_place 5 = .ok (.invokestatic 49, 3) := by decide +kernel
theorem zd_A_place_8 : decode zb_A_place 8 = .ok (.ifCond .ne 12, 3) := by decide +kernel
theorem zd_A_place_11 : decode zb_A_place 11 = .ok (.iload_n 2, 1) := by decide +kernel
theorem zd_A_place_12 : decode zb_A_place 12 = .ok (.iconst 0, 1) := by decide +kernel
theorem zd_A_place_13 : decode zb_A_place 13 = .ok (.iconst 3, 1) := by decide +kernel
theorem zd_A_place_14 : decode zb_A_place 14 = .ok (.invokestatic 49, 3) := by decide +kernel
theorem zd_A_place_17 : decode zb_A_place 17 = .ok (.ifCond .eq 13, 3) := by decide +kernel
theorem zd_A_place_20 : decode zb_A_place 20 = .ok (.new 53, 3) := by decide +kernel
theorem zd_A_place_23 : decode zb_A_place 23 = .ok (.dup, 1) := by decide +kernel
theorem zd_A_place_24 : decode zb_A_place 24 = .ok (.ldc 71, 2) := by decide +kernel
theorem zd_A_place_26 : decode zb_A_place 26 = .ok (.invokespecial 57, 3) := by decide +kernel
theorem zd_A_place_29 : decode zb_A_place 29 = .ok (.athrow, 1) := by decide +kernel
theorem zd_A_place_30 : decode zb_A_place 30 = .ok (.iload_n 3, 1) := by decide +kernel
theorem zd_A_place_31 : decode zb_A_place 31 = .ok (.iconst 0, 1) := by decide +kernel
theorem zd_A_place_32 : decode zb_A_place 32 = .ok (.sipush 1000, 3) := by decide +kernel
theorem zd_A_place_35 : decode zb_A_place 35 = .ok (.invokestatic 49, 3) := by decide +kernel
theorem zd_A_place_38 : decode zb_A_place 38 = .ok (.ifCond .ne 15, 3) := by decide +kernel
theorem zd_A_place_41 : decode zb_A_place 41 = .ok (.iload 4, 2) := by decide +kernel
theorem zd_A_place_43 : decode zb_A_place 43 = .ok (.iconst 0, 1) := by decide +kernel
theorem zd_A_place_44 : decode zb_A_place 44 = .ok (.sipush 1000, 3) := by decide +kernel
theorem zd_A_place_47 : decode zb_A_place 47 = .ok (.invokestatic 49, 3) := by decide +kernel
theorem zd_A_place_50 : decode zb_A_place 50 = .ok (.ifCond .eq 13, 3) := by decide +kernel
theorem zd_A_place_53 : decode zb_A_place 53 = .ok (.new 53, 3) := by decide +kernel
theorem zd_A_place_56 : decode zb_A_place 56 = .ok (.dup, 1) := by decide +kernel
theorem zd_A_place_57 : decode zb_A_place 57 = .ok (.ldc 73, 2) := by decide +kernel
theorem zd_A_place_59 : decode zb_A_place 59 = .ok (.invokespecial 57, 3) := by decide +kernel
theorem zd_A_place_62 : decode zb_A_place 62 = .ok (.athrow, 1) := by decide +kernel
theorem zd_A_place_63 : decode zb_A_place 63 = .ok (.aload_n 0, 1) := by decide +kernel
theorem zd_A_place_64 : decode zb_A_place 64 = .ok (.getfield 75, 3) := by decide +kernel
theorem zd_A_place_67 : decode zb_A_place 67 = .ok (.bipush 12, 2) := by decide +kernel
theorem zd_A_place_69 : decode zb_A_place 69 = .ok (.if_icmp .lt 13, 3) := by decide +kernel
theorem zd_A_place_72 : decode zb_A_place 72 = .ok (.new 63, 3) := by decide +kernel
theorem zd_A_place_75 : decode zb_A_place 75 = .ok (.dup, 1) := by decide +kernel
theorem zd_A_place_76 : decode zb_A_place 76 = .ok (.ldc 78, 2) := by decide +kernel
theorem zd_A_place_78 : decode zb_A_place 78 = .ok (.invokespecial 67, 3) := by decide +kernel
theorem zd_A_place_81 : decode zb_A_place 81 = .ok (.athrow, 1) := by decide +kernel
theorem zd_A_place_82 : decode zb_A_place 82 = .ok (.aload_n 0, 1) := by decide +kernel
theorem zd_A_place_83 : decode zb_A_place 83 = .ok (.getfield 17, 3) := by decide +kernel
theorem zd_A_place_86 : decode zb_A_place 86 = .ok (.aload_n 0, 1) := by decide +kernel
theorem zd_A_place_87 : decode zb_A_place 87 = .ok (.getfield 75, 3) := by decide +kernel
theorem zd_A_place_90 : decode zb_A_place 90 = .ok (.new 15, 3) := by decide +kernel
theorem zd_A_place_93 : decode zb_A_place 93 = .ok (.dup, 1) := by decide +kernel
theorem zd_A_place_94 : decode zb_A_place 94 = .ok (.iload_n 1, 1) := by decide +kernel
theorem zd_A_place_95 : decode zb_A_place 95 = .ok (.iload_n 2, 1) := by decide +kernel
theorem zd_A_place_96 : decode zb_A_place 96 = .ok (.iload_n 3, 1) := by decide +kernel
theorem zd_A_place_97 : decode zb_A_place 97 = .ok (.iload 4, 2) := by decide +kernel
theorem zd_A_place_99 : decode zb_A_place 99 = .ok (.invokespecial 80, 3) := by decide +kernel
theorem zd_A_place_102 : decode zb_A_place 102 = .ok (.aastore, 1) := by decide +kernel
theorem zd_A_place_103 : decode zb_A_place 103 = .ok (.aload_n 0, 1) := by decide +kernel
theorem zd_A_place_104 : decode zb_A_place 104 = .ok (.dup, 1) := by decide +kernel
theorem zd_A_place_105 : decode zb_A_place 105 = .ok (.getfield 75, 3) := by decide +kernel
theorem zd_A_place_108 : decode zb_A_place 108 = .ok (.iconst 1, 1) := by decide +kernel
theorem zd_A_place_109 : decode zb_A_place 109 = .ok (.iadd, 1) := by decide +kernel
theorem zd_A_place_110 : decode zb_A_place 110 = .ok (.putfield 75, 3) := by decide +kernel
theorem zd_A_place_113 : decode zb_A_place 113 = .ok (.aload_n 0, 1) := by decide +kernel
theorem zd_A_place_114 : decode zb_A_place 114 = .ok (.getfield 75, 3) := by decide +kernel
theorem zd_A_place_117 : decode zb_A_place 117 = .ok (.iconst 1, 1) := by decide +kernel
theorem zd_A_place_118 : decode zb_A_place 118 = .ok (.isub, 1) := by decide +kernel
theorem zd_A_place_119 : decode zb_A_place 119 = .ok (.ireturn, 1) := by decide +kernel
theorem zd_A_weight_0 : decode zb_A_weight 0 = .ok (.iload_n 1, 1) := by decide +kernel
theorem zd_A_weight_1 : decode zb_A_weight 1 = .ok (.iconst 0, 1) := by decide +kernel
theorem zd_A_weight_2 : decode zb_A_weight 2 = .ok (.bipush 7, 2) := by decide +kernel
theorem zd_A_weight_4 : decode zb_A_weight 4 = .ok (.invokestatic 49, 3) := by decide +kernel
theorem zd_A_weight_7 : decode zb_A_weight 7 = .ok (.ifCond .ne 13, 3) := by decide +kernel
theorem zd_A_weight_10 : decode zb_A_weight 10 = .ok (.iload_n 2, 1) := by decide +kernel
theorem zd_A_weight_11 : decode zb_A_weight 11 = .ok (.iconst 0, 1) := by decide +kernel
theorem zd_A_weight_12 : decode zb_A_weight 12 = .ok (.bipush 100, 2) := by decide +kernel
theorem zd_A_weight_14 : decode zb_A_weight 14 = .ok (.invokestatic 49, 3) := by decide +kernel
theorem zd_A_weight_17 : decode zb_A_weight 17 = .ok (.ifCond .eq 13, 3) := by decide +kernel
theorem zd_A_weight_20 : decode zb_A_weight 20 = .ok (.new 53, 3) := by decide +kernel
theorem zd_A_weight_23 : decode zb_A_weight 23 = .ok (.dup, 1) := by decide +kernel
theorem zd_A_weight_24 : decode zb_A_weight 24 = .ok (.ldc 83, 2) := by decide +kernel
theorem zd_A_weight_26 : decode zb_A_weight 26 = .ok (.invokespecial 57, 3) := by decide +kernel
theorem zd_A_weight_29 : decode zb_A_weight 29 = .ok (.athrow, 1) := by decide +kernel
theorem zd_A_weight_30 : decode zb_A_weight 30 = .ok (.aload_n 0, 1) := by decide +kernel
theorem zd_A_weight_31 : decode zb_A_weight 31 = .ok (.getfield 21, 3) := by decide +kernel
theorem zd_A_weight_34 : decode zb_A_weight 34 = .ok (.iload_n 1, 1) := by decide +kernel
theorem zd_A_weight_35 : decode zb_A_weight 35 = .ok (.iload_n 2, 1) := by decide +kernel
theorem zd_A_weight_36 : decode zb_A_weight 36 = .ok (.iastore, 1) := by decide +kernel
theorem zd_A_weight_37 : decode zb_A_weight 37 = .ok (.return_, 1) := by decide +kernel
theorem zd_A_fits_0 : decode zb_A_fits 0 = .ok (.aload_n 0, 1) := by decide +kernel
theorem zd_A_fits_1 : decode zb_A_fits 1 = .ok (.iload_n 1, 1) := by decide +kernel
theorem zd_A_fits_2 : decode zb_A_fits 2 = .ok (.invokevirtual 85, 3) := by decide +kernel
theorem zd_A_fits_5 : decode zb_A_fits 5 = .ok (.astore 4, 2) := by decide +kernel
theorem zd_A_fits_7 : decode zb_A_fits 7 = .ok (.aload_n 0, 1) := by decide +kernel
theorem zd_A_fits_8 : decode zb_A_fits 8 = .ok (.iload_n 2, 1) := by decide +kernel
theorem zd_A_fits_9 : decode zb_A_fits 9 = .ok (.invokevirtual 89, 3) := by decide +kernel
theorem zd_A_fits_12 : decode zb_A_fits 12 = .ok (.pop, 1) := by decide +kernel
theorem zd_A_fits_13 : decode zb_A_fits 13 = .ok (.iload_n 3, 1) := by decide +kernel
theorem zd_A_fits_14 : decode zb_A_fits 14 = .ok (.ifCond .eq 21, 3) := by decide +kernel
theorem zd_A_fits_17 : decode zb_A_fits 17 = .ok (.aload 4, 2) := by decide +kernel
theorem zd_A_fits_19 : decode zb_A_fits 19 = .ok (.dup, 1) := by decide +kernel
theorem zd_A_fits_20 : decode zb_A_fits 20 = .ok (.getfield 93, 3) := by decide +kernel
theorem zd_A_fits_23 : decode zb_A_fits 23 = .ok (.iconst 1, 1) := by decide +kernel
theorem zd_A_fits_24 : decode zb_A_fits 24 = .ok (.iload_n 2, 1) := by decide +kernel
theorem zd_A_fits_25 : decode zb_A_fits 25 = .ok (.ishl, 1) := by decide +kernel
theorem zd_A_fits_26 : decode zb_A_fits 26 = .ok (.iconst (-1), 1) := by decide +kernel
theorem zd_A_fits_27 : decode zb_A_fits 27 = .ok (.ixor, 1) := by decide +kernel
theorem zd_A_fits_28 : decode zb_A_fits 28 = .ok (.iand, 1) := by decide +kernel
theorem zd_A_fits_29 : decode zb_A_fits 29 = .ok (.putfield 93, 3) := by decide +kernel
theorem zd_A_fits_32 : decode zb_A_fits 32 = .ok (.goto 16, 3) := by decide +kernel
theorem zd_A_fits_35 : decode zb_A_fits 35 = .ok (.aload 4, 2) := by decide +kernel
theorem zd_A_fits_37 : decode zb_A_fits 37 = .ok (.dup, 1) := by decide +kernel
theorem zd_A_fits_38 : decode zb_A_fits 38 = .ok (.getfield 93, 3) := by decide +kernel
theorem zd_A_fits_41 : decode zb_A_fits 41 = .ok (.iconst 1, 1) := by decide +kernel
theorem zd_A_fits_42 : decode zb_A_fits 42 = .ok (.iload_n 2, 1) := by decide +kernel
theorem zd_A_fits_43 : decode zb_A_fits 43 = .ok (.ishl, 1) := by decide +kernel
theorem zd_A_fits_44 : decode zb_A_fits 44 = .ok (.ior, 1) := by decide +kernel
theorem zd_A_fits_45 : decode zb_A_fits 45 = .ok (.putfield 93, 3) := by decide +kernel
theorem zd_A_fits_48 : decode zb_A_fits 48 = .ok (.return_, 1) := by decide +kernel
theorem zd_A_cost_0 : decode zb_A_cost 0 = .ok (.aload_n 0, 1) := by decide +kernel
theorem zd_A_cost_1 : decode zb_A_cost 1 = .ok (.iload_n 1, 1) := by decide +kernel
theorem zd_A_cost_2 : decode zb_A_cost 2 = .ok (.invokevirtual 85, 3) := by decide +kernel
theorem zd_A_cost_5 : decode zb_A_cost 5 = .ok (.astore 4, 2) := by decide +kernel
theorem zd_A_cost_7 : decode zb_A_cost 7 = .ok (.aload_n 0, 1) := by decide +kernel
theorem zd_A_cost_8 : decode zb_A_cost 8 = .ok (.iload_n 2, 1) := by decide +kernel
theorem zd_A_cost_9 : decode zb_A_cost 9 = .ok (.invokevirtual 89, 3) := by decide +kernel
theorem zd_A_cost_12 : decode zb_A_cost 12 = .ok (.pop, 1) := by decide +kernel
theorem zd_A_cost_13 : decode zb_A_cost 13 = .ok (.iload_n 3, 1) := by decide +kernel
theorem zd_A_cost_14 : decode zb_A_cost 14 = .ok (.ldc 96, 2) := by decide +kernel
theorem zd_A_cost_16 : decode zb_A_cost 16 = .ok (.if_icmp .le 13, 3) := by decide +kernel
theorem zd_A_cost_19 : decode zb_A_cost 19 = .ok (.new 53, 3) := by decide +kernel
theorem zd_A_cost_22 : decode zb_A_cost 22 = .ok (.dup, 1) := by decide +kernel
theorem zd_A_cost_23 : decode zb_A_cost 23 = .ok (.ldc 97, 2) := by decide +kernel
theorem zd_A_cost_25 : decode zb_A_cost 25 = .ok (.invokespecial 57, 3) := by decide +kernel
theorem zd_A_cost_28 : decode zb_A_cost 28 = .ok (.athrow, 1) := by decide +kernel
theorem zd_A_cost_29 : decode zb_A_cost 29 = .ok (.aload 4, 2) := by decide +kernel
theorem zd_A_cost_31 : decode zb_A_cost 31 = .ok (.getfield 99, 3) := by decide +kernel
theorem zd_A_cost_34 : decode zb_A_cost 34 = .ok (.iload_n 2, 1) := by decide +kernel
theorem zd_A_cost_35 : decode zb_A_cost 35 = .ok (.iload_n 3, 1) := by decide +kernel
theorem zd_A_cost_36 : decode zb_A_cost 36 = .ok (.ifCond .ge 7, 3) := by decide +kernel
theorem zd_A_cost_39 : decode zb_A_cost 39 = .ok (.iconst (-1), 1) := by decide +kernel
theorem zd_A_cost_40 : decode zb_A_cost 40 = .ok (.goto 4, 3) := by decide +kernel
theorem zd_A_cost_43 : decode zb_A_cost 43 = .ok (.iload_n 3, 1) := by decide +kernel
theorem zd_A_cost_44 : decode zb_A_cost 44 = .ok (.iastore, 1) := by decide +kernel
theorem zd_A_cost_45 : decode zb_A_cost 45 = .ok (.return_, 1) := by decide +kernel
theorem zd_A_together_0 : decode zb_A_together 0 = .ok (.aload_n 0, 1) := by decide +kernel
theorem zd_A_together_1 : decode zb_A_together 1 = .ok (.iload_n 1, 1) := by decide +kernel
theorem zd_A_together_2 : decode zb_A_together 2 = .ok (.invokevirtual 85, 3) := by decide +kernel
theorem zd_A_together_5 : decode zb_A_together 5 = .ok (.astore_n 3, 1) := by decide +kernel
theorem zd_A_together_6 : decode zb_A_together 6 = .ok (.aload_n 0, 1) := by decide +kernel
theorem zd_A_together_7 : decode zb_A_together 7 = .ok (.iload_n 2, 1) := by decide +kernel
theorem zd_A_together_8 : decode zb_A_together 8 = .ok (.invokevirtual 85, 3) := by decide +kernel
theorem zd_A_together_11 : decode zb_A_together 11 = .ok (.astore 4, 2) := by decide +kernel
theorem zd_A_together_13 : decode zb_A_together 13 = .ok (.aload_n 3, 1) := by decide +kernel
theorem zd_A_together_14 : decode zb_A_together 14 = .ok (.getfield 102, 3) := by decide +kernel
theorem zd_A_together_17 : decode zb_A_together 17 = .ok (.ifCond .ne 11, 3) := by decide +kernel
theorem zd_A_together_20 : decode zb_A_together 20 = .ok (.aload 4, 2) := by decide +kernel
theorem zd_A_together_22 : decode zb_A_together 22 = .ok (.getfield 102, 3) := by decide +kernel
theorem zd_A_together_25 : decode zb_A_together 25 = .ok (.ifCond .eq 13, 3) := by decide +kernel
theorem zd_A_together_28 : decode zb_A_together 28 = .ok (.new 106, 3) := by decide +kernel
theorem zd_A_together_31 : decode zb_A_together 31 = .ok (.dup, 1) := by decide +kernel
theorem zd_A_together_32 : decode zb_A_together 32 = .ok (.ldc 108, 2) := by decide +kernel
theorem zd_A_together_34 : decode zb_A_together 34 = .ok (.invokespecial 110, 3) := by decide +kernel
theorem zd_A_together_37 : decode zb_A_together 37 = .ok (.athrow, 1) := by decide +kernel
theorem zd_A_together_38 : decode zb_A_together 38 = .ok (.aload_n 3, 1) := by decide +kernel
theorem zd_A_together_39 : decode zb_A_together 39 = .ok (.getfield 111, 3) := by decide +kernel
theorem zd_A_together_42 : decode zb_A_together 42 = .ok (.aload 4, 2) := by decide +kernel
theorem zd_A_together_44 : decode zb_A_together 44 = .ok (.getfield 111, 3) := by decide +kernel
theorem zd_A_together_47 : decode zb_A_together 47 = .ok (.if_icmp .ne 13, 3) := by decide +kernel
theorem zd_A_together_50 : decode zb_A_together 50 = .ok (.new 106, 3) := by decide +kernel
theorem zd_A_together_53 : decode zb_A_together 53 = .ok (.dup, 1) := by decide +kernel
theorem zd_A_together_54 : decode zb_A_together 54 = .ok (.ldc 114, 2) := by decide +kernel
theorem zd_A_together_56 : decode zb_A_together 56 = .ok (.invokespecial 110, 3) := by decide +kernel
theorem zd_A_together_59 : decode zb_A_together 59 = .ok (.athrow, 1) := by decide +kernel
theorem zd_A_together_60 : decode zb_A_together 60 = .ok (.aload_n 3, 1) := by decide +kernel
theorem zd_A_together_61 : decode zb_A_together 61 = .ok (.getfield 111, 3) := by decide +kernel
theorem zd_A_together_64 : decode zb_A_together 64 = .ok (.aload 4, 2) := by decide +kernel
theorem zd_A_together_66 : decode zb_A_together 66 = .ok (.getfield 111, 3) := by decide +kernel
theorem zd_A_together_69 : decode zb_A_together 69 = .ok (.invokestatic 116, 3) := by decide +kernel
theorem zd_A_together_72 : decode zb_A_together 72 = .ok (.istore 5, 2) := by decide +kernel
theorem zd_A_together_74 : decode zb_A_together 74 = .ok (.aload_n 0, 1) := by decide +kernel
theorem zd_A_together_75 : decode zb_A_together 75 = .ok (.iload 5, 2) := by decide +kernel
theorem zd_A_together_77 : decode zb_A_together 77 = .ok (.aload_n 3, 1) := by decide +kernel
theorem zd_A_together_78 : decode zb_A_together 78 = .ok (.getfield 111, 3) := by decide +kernel
theorem zd_A_together_81 : decode zb_A_together 81 = .ok (.aload 4, 2) := by decide +kernel
theorem zd_A_together_83 : decode zb_A_together 83 = .ok (.getfield 111, 3) := by decide +kernel
theorem zd_A_together_86 : decode zb_A_together 86 = .ok (.invokestatic 122, 3) := by decide +kernel
theorem zd_A_together_89 : decode zb_A_together 89 = .ok (.invokevirtual 125, 3) := by decide +kernel
theorem zd_A_together_92 : decode zb_A_together 92 = .ok (.aload_n 0, 1) := by decide +kernel
theorem zd_A_together_93 : decode zb_A_together 93 = .ok (.iload 5, 2) := by decide +kernel
theorem zd_A_together_95 : decode zb_A_together 95 = .ok (.iconst (-1), 1) := by decide +kernel
theorem zd_A_together_96 : decode zb_A_together 96 = .ok (.invokevirtual 129, 3) := by decide +kernel
theorem zd_A_together_99 : decode zb_A_together 99 = .ok (.aload_n 0, 1) := by decide +kernel
theorem zd_A_together_100 : decode zb_A_together 100 = .ok (.iload 5, 2) := by decide +kernel
theorem zd_A_together_102 : decode zb_A_together 102 = .ok (.invokevirtual 132, 3) := by decide +kernel
theorem zd_A_together_105 : decode zb_A_together 105 = .ok (.getfield 136, 3) := by decide +kernel
theorem zd_A_together_108 : decode zb_A_together 108 = .ok (.ireturn, 1) := by decide +kernel
theorem zd_A_fix_0 : decode zb_A_fix 0 = .ok (.aload_n 0, 1) := by decide +kernel
theorem zd_A_fix_1 : decode zb_A_fix 1 = .ok (.iload_n 1, 1) := by decide +kernel
theorem zd_A_fix_2 : decode zb_A_fix 2 = .ok (.invokevirtual 85, 3) := by decide +kernel
theorem zd_A_fix_5 : decode zb_A_fix 5 = .ok (.astore_n 3, 1) := by decide +kernel
theorem zd_A_fix_6 : decode zb_A_fix 6 = .ok (.iload_n 2, 1) := by decide +kernel
theorem zd_A_fix_7 : decode zb_A_fix 7 = .ok (.iconst (-1), 1) := by decide +kernel
theorem zd_A_fix_8 : decode zb_A_fix 8 = .ok (.if_icmp .eq 9, 3) := by decide +kernel
theorem zd_A_fix_11 : decode zb_A_fix 11 = .ok (.aload_n 0, 1) := by decide +kernel
theorem zd_A_fix_12 : decode zb_A_fix 12 = .ok (.iload_n 2, 1) := by decide +kernel
theorem zd_A_fix_13 : decode zb_A_fix 13 = .ok (.invokevirtual 89, 3) := by decide +kernel
theorem zd_A_fix_16 : decode zb_A_fix 16 = .ok (.pop, 1) := by decide +kernel
theorem zd_A_fix_17 : decode zb_A_fix 17 = .ok (.aload_n 3, 1) := by decide +kernel
theorem zd_A_fix_18 : decode zb_A_fix 18 = .ok (.getfield 102, 3) := by decide +kernel
theorem zd_A_fix_21 : decode zb_A_fix 21 = .ok (.ifCond .eq 13, 3) := by decide +kernel
theorem zd_A_fix_24 : decode zb_A_fix 24 = .ok (.new 106, 3) := by decide +kernel
theorem zd_A_fix_27 : decode zb_A_fix 27 = .ok (.dup, 1) := by decide +kernel
theorem zd_A_fix_28 : decode zb_A_fix 28 = .ok (.ldc 139, 2) := by decide +kernel
theorem zd_A_fix_30 : decode zb_A_fix 30 = .ok (.invokespecial 110, 3) := by decide +kernel
theorem zd_A_fix_33 : decode zb_A_fix 33 = .ok (.athrow, 1) := by decide +kernel
theorem zd_A_fix_34 : decode zb_A_fix 34 = .ok (.aload_n 3, 1) := by decide +kernel
theorem zd_A_fix_35 : decode zb_A_fix 35 = .ok (.iload_n 2, 1) := by decide +kernel
theorem zd_A_fix_36 : decode zb_A_fix 36 = .ok (.putfield 141, 3) := by decide +kernel
theorem zd_A_fix_39 : decode zb_A_fix 39 = .ok (.return_, 1) := by decide +kernel
theorem zd_A_limits_0 : decode zb_A_limits 0 = .ok (.iload_n 1, 1) := by decide +kernel
theorem zd_A_limits_1 : decode zb_A_limits 1 = .ok (.iconst 0, 1) := by decide +kernel
theorem zd_A_limits_2 : decode zb_A_limits 2 = .ok (.bipush 8, 2) := by decide +kernel
theorem zd_A_limits_4 : decode zb_A_limits 4 = .ok (.invokestatic 49, 3) := by decide +kernel
theorem zd_A_limits_7 : decode zb_A_limits 7 = .ok (.ifCond .ne 14, 3) := by decide +kernel
theorem zd_A_limits_10 : decode zb_A_limits 10 = .ok (.iload_n 2, 1) := by decide +kernel
theorem zd_A_limits_11 : decode zb_A_limits 11 = .ok (.iconst 1, 1) := by decide +kernel
theorem zd_A_limits_12 : decode zb_A_limits 12 = .ok (.sipush 1000, 3) := by decide +kernel
theorem zd_A_limits_15 : decode zb_A_limits 15 = .ok (.invokestatic 49, 3) := by decide +kernel
theorem zd_A_limits_18 : decode zb_A_limits 18 = .ok (.ifCond .eq 13, 3) := by decide +kernel
theorem zd_A_limits_21 : decode zb_A_limits 21 = .ok (.new 53, 3) := by decide +kernel
theorem zd_A_limits_24 : decode zb_A_limits 24 = .ok (.dup, 1) := by decide +kernel
theorem zd_A_limits_25 : decode zb_A_limits 25 = .ok (.ldc 144, 2) := by decide +kernel
theorem zd_A_limits_27 : decode zb_A_limits 27 = .ok (.invokespecial 57, 3) := by decide +kernel
theorem zd_A_limits_30 : decode zb_A_limits 30 = .ok (.athrow, 1) := by decide +kernel
theorem zd_A_limits_31 : decode zb_A_limits 31 = .ok (.aload_n 0, 1) := by decide +kernel
theorem zd_A_limits_32 : decode zb_A_limits 32 = .ok (.iload_n 1, 1) := by decide +kernel
theorem zd_A_limits_33 : decode zb_A_limits 33 = .ok (.putfield 42, 3) := by decide +kernel
theorem zd_A_limits_36 : decode zb_A_limits 36 = .ok (.aload_n 0, 1) := by decide +kernel
theorem zd_A_limits_37 : decode zb_A_limits 37 = .ok (.iload_n 2, 1) := by decide +kernel
theorem zd_A_limits_38 : decode zb_A_limits 38 = .ok (.putfield 46, 3) := by decide +kernel
theorem zd_A_limits_41 : decode zb_A_limits 41 = .ok (.return_, 1) := by decide +kernel
theorem zd_A_assign_0 : decode zb_A_assign 0 = .ok (.iload_n 1, 1) := by decide +kernel
theorem zd_A_assign_1 : decode zb_A_assign 1 = .ok (.ifCond .ge 13, 3) := by decide +kernel
theorem zd_A_assign_4 : decode zb_A_assign 4 = .ok (.new 53, 3) := by decide +kernel
theorem zd_A_assign_7 : decode zb_A_assign 7 = .ok (.dup, 1) := by decide +kernel
theorem zd_A_assign_8 : decode zb_A_assign 8 = .ok (.ldc 146, 2) := by decide +kernel
theorem zd_A_assign_10 : decode zb_A_assign 10 = .ok (.invokespecial 57, 3) := by decide +kernel
theorem zd_A_assign_13 : decode zb_A_assign 13 = .ok (.athrow, 1) := by decide +kernel
theorem zd_A_assign_14 : decode zb_A_assign 14 = .ok (.aload_n 0, 1) := by decide +kernel
theorem zd_A_assign_15 : decode zb_A_assign 15 = .ok (.invokevirtual 148, 3) := by decide +kernel
theorem zd_A_assign_18 : decode zb_A_assign 18 = .ok (.aload_n 0, 1) := by decide +kernel
theorem zd_A_assign_19 : decode zb_A_assign 19 = .ok (.getfield 42, 3) := by decide +kernel
theorem zd_A_assign_22 : decode zb_A_assign 22 = .ok (.if_icmp .gt 7, 3) := by decide +kernel
theorem zd_A_assign_25 : decode zb_A_assign 25 = .ok (.iconst 1, 1) := by decide +kernel
theorem zd_A_assign_26 : decode zb_A_assign 26 = .ok (.goto 4, 3) := by decide +kernel
theorem zd_A_assign_29 : decode zb_A_assign 29 = .ok (.iconst 0, 1) := by decide +kernel
theorem zd_A_assign_30 : decode zb_A_assign 30 = .ok (.istore_n 2, 1) := by decide +kernel
theorem zd_A_assign_31 : decode zb_A_assign 31 = .ok (.iload_n 2, 1) := by decide +kernel
theorem zd_A_assign_32 : decode zb_A_assign 32 = .ok (.ifCond .eq 10, 3) := by decide +kernel
theorem zd_A_assign_35 : decode zb_A_assign 35 = .ok (.aload_n 0, 1) := by decide +kernel
theorem zd_A_assign_36 : decode zb_A_assign 36 = .ok (.invokevirtual 152, 3) := by decide +kernel
theorem zd_A_assign_39 : decode zb_A_assign 39 = .ok (.goto 7, 3) := by decide +kernel
theorem zd_A_assign_42 : decode zb_A_assign 42 = .ok (.aload_n 0, 1) := by decide +kernel
theorem zd_A_assign_43 : decode zb_A_assign 43 = .ok (.invokevirtual 155, 3) := by decide +kernel
theorem zd_A_assign_46 : decode zb_A_assign 46 = .ok (.istore_n 3, 1) := by decide +kernel
theorem zd_A_assign_47 : decode zb_A_assign 47 = .ok (.iload_n 3, 1) := by decide +kernel
theorem zd_A_assign_48 : decode zb_A_assign 48 = .ok (.iload_n 1, 1) := by decide +kernel
theorem zd_A_assign_49 : decode zb_A_assign 49 = .ok (.if_icmp .le 5, 3) := by decide +kernel
theorem zd_A_assign_52 : decode zb_A_assign 52 = .ok (.iconst (-1), 1) := by decide +kernel
theorem zd_A_assign_53 : decode zb_A_assign 53 = .ok (.ireturn, 1) := by decide +kernel
theorem zd_A_assign_54 : decode zb_A_assign 54 = .ok (.aload_n 0, 1) := by decide +kernel
theorem zd_A_assign_55 : decode zb_A_assign 55 = .ok (.invokevirtual 158, 3) := by decide +kernel
theorem zd_A_assign_58 : decode zb_A_assign 58 = .ok (.aload_n 0, 1) := by decide +kernel
theorem zd_A_assign_59 : decode zb_A_assign 59 = .ok (.iload_n 2, 1) := by decide +kernel
theorem zd_A_assign_60 : decode zb_A_assign 60 = .ok (.putfield 161, 3) := by decide +kernel
theorem zd_A_assign_63 : decode zb_A_assign 63 = .ok (.iload_n 3, 1) := by decide +kernel
theorem zd_A_assign_64 : decode zb_A_assign 64 = .ok (.ireturn, 1) := by decide +kernel
theorem zd_A_at_0 : decode zb_A_at 0 = .ok (.aload_n 0, 1) := by decide +kernel
theorem zd_A_at_1 : decode zb_A_at 1 = .ok (.iload_n 1, 1) := by decide +kernel
theorem zd_A_at_2 : decode zb_A_at 2 = .ok (.invokevirtual 85, 3) := by decide +kernel
theorem zd_A_at_5 : decode zb_A_at 5 = .ok (.getfield 164, 3) := by decide +kernel
theorem zd_A_at_8 : decode zb_A_at 8 = .ok (.ireturn, 1) := by decide +kernel
theorem zd_A_exact_0 : decode zb_A_exact 0 = .ok (.aload_n 0, 1) := by decide +kernel
theorem zd_A_exact_1 : decode zb_A_exact 1 = .ok (.getfield 161, 3) := by decide +kernel
theorem zd_A_exact_4 : decode zb_A_exact 4 = .ok (.ireturn, 1) := by decide +kernel
theorem zd_A_bound_0 : decode zb_A_bound 0 = .ok (.iconst 0, 1) := by decide +kernel
theorem zd_A_bound_1 : decode zb_A_bound 1 = .ok (.istore_n 1, 1) := by decide +kernel
theorem zd_A_bound_2 : decode zb_A_bound 2 = .ok (.iconst 0, 1) := by decide +kernel
theorem zd_A_bound_3 : decode zb_A_bound 3 = .ok (.istore_n 2, 1) := by decide +kernel
theorem zd_A_bound_4 : decode zb_A_bound 4 = .ok (.iload_n 2, 1) := by decide +kernel
theorem zd_A_bound_5 : decode zb_A_bound 5 = .ok (.aload_n 0, 1) := by decide +kernel
theorem zd_A_bound_6 : decode zb_A_bound 6 = .ok (.getfield 60, 3) := by decide +kernel
theorem zd_A_bound_9 : decode zb_A_bound 9 = .ok (.if_icmp .ge 49, 3) := by decide +kernel
theorem zd_A_bound_12 : decode zb_A_bound 12 = .ok (.aload_n 0, 1) := by decide +kernel
theorem zd_A_bound_13 : decode zb_A_bound 13 = .ok (.iload_n 2, 1) := by decide +kernel
theorem zd_A_bound_14 : decode zb_A_bound 14 = .ok (.invokevirtual 167, 3) := by decide +kernel
theorem zd_A_bound_17 : decode zb_A_bound 17 = .ok (.ifCond .eq 35, 3) := by decide +kernel
theorem zd_A_bound_20 : decode zb_A_bound 20 = .ok (.aload_n 0, 1) := by decide +kernel
theorem zd_A_bound_21 : decode zb_A_bound 21 = .ok (.iload_n 2, 1) := by decide +kernel
theorem zd_A_bound_22 : decode zb_A_bound 22 = .ok (.invokevirtual 132, 3) := by decide +kernel
theorem zd_A_bound_25 : decode zb_A_bound 25 = .ok (.astore_n 3, 1) := by decide +kernel
theorem zd_A_bound_26 : decode zb_A_bound 26 = .ok (.aload_n 0, 1) := by decide +kernel
theorem zd_A_bound_27 : decode zb_A_bound 27 = .ok (.aload_n 3, 1) := by decide +kernel
theorem zd_A_bound_28 : decode zb_A_bound 28 = .ok (.iconst 0, 1) := by decide +kernel
theorem zd_A_bound_29 : decode zb_A_bound 29 = .ok (.invokevirtual 171, 3) := by decide +kernel
theorem zd_A_bound_32 : decode zb_A_bound 32 = .ok (.istore 4, 2) := by decide +kernel
theorem zd_A_bound_34 : decode zb_A_bound 34 = .ok (.iload 4, 2) := by decide +kernel
theorem zd_A_bound_36 : decode zb_A_bound 36 = .ok (.iconst (-1), 1) := by decide +kernel
theorem zd_A_bound_37 : decode zb_A_bound 37 = .ok (.if_icmp .ne 5, 3) := by decide +kernel
theorem zd_A_bound_40 : decode zb_A_bound 40 = .ok (.iconst (-1), 1) := by decide +kernel
theorem zd_A_bound_41 : decode zb_A_bound 41 = .ok (.ireturn, 1) := by decide +kernel
theorem zd_A_bound_42 : decode zb_A_bound 42 = .ok (.iload_n 1, 1) := by decide +kernel
theorem zd_A_bound_43 : decode zb_A_bound 43 = .ok (.aload_n 0, 1) := by decide +kernel
theorem zd_A_bound_44 : decode zb_A_bound 44 = .ok (.aload_n 3, 1) := by decide +kernel
theorem zd_A_bound_45 : decode zb_A_bound 45 = .ok (.iload 4, 2) := by decide +kernel
theorem zd_A_bound_47 : decode zb_A_bound 47 = .ok (.invokevirtual 175, 3) := by decide +kernel
theorem zd_A_bound_50 : decode zb_A_bound 50 = .ok (.iadd, 1) := by decide +kernel
theorem zd_A_bound_51 : decode zb_A_bound 51 = .ok (.istore_n 1, 1) := by decide +kernel
theorem zd_A_bound_52 : decode zb_A_bound 52 = .ok (.iinc 2 1, 3) := by decide +kernel
theorem zd_A_bound_55 : decode zb_A_bound 55 = .ok (.goto (-51), 3) := by decide +kernel
theorem zd_A_bound_58 : decode zb_A_bound 58 = .ok (.iload_n 1, 1) := by decide +kernel
theorem zd_A_bound_59 : decode zb_A_bound 59 = .ok (.ireturn, 1) := by decide +kernel
theorem zd_A_barred_0 : decode zb_A_barred 0 = .ok (.aload_n 0, 1) := by decide +kernel
theorem zd_A_barred_1 : decode zb_A_barred 1 = .ok (.iload_n 1, 1) := by decide +kernel
theorem zd_A_barred_2 : decode zb_A_barred 2 = .ok (.invokevirtual 85, 3) := by decide +kernel
theorem zd_A_barred_5 : decode zb_A_barred 5 = .ok (.astore_n 2, 1) := by decide +kernel
theorem zd_A_barred_6 : decode zb_A_barred 6 = .ok (.aload_n 2, 1) := by decide +kernel
theorem zd_A_barred_7 : decode zb_A_barred 7 = .ok (.getfield 102, 3) := by decide +kernel
theorem zd_A_barred_10 : decode zb_A_barred 10 = .ok (.ifCond .eq 13, 3) := by decide +kernel
theorem zd_A_barred_13 : decode zb_A_barred 13 = .ok (.new 106, 3) := by decide +kernel
theorem zd_A_barred_16 : decode zb_A_barred 16 = .ok (.dup, 1) := by decide +kernel
theorem zd_A_barred_17 : decode zb_A_barred 17 = .ok (.ldc 139, 2) := by decide +kernel
theorem zd_A_barred_19 : decode zb_A_barred 19 = .ok (.invokespecial 110, 3) := by decide +kernel
theorem zd_A_barred_22 : decode zb_A_barred 22 = .ok (.athrow, 1) := by decide +kernel
theorem zd_A_barred_23 : decode zb_A_barred 23 = .ok (.aload_n 0, 1) := by decide +kernel
theorem zd_A_barred_24 : decode zb_A_barred 24 = .ok (.aload_n 2, 1) := by decide +kernel
theorem zd_A_barred_25 : decode zb_A_barred 25 = .ok (.getfield 111, 3) := by decide +kernel
theorem zd_A_barred_28 : decode zb_A_barred 28 = .ok (.invokevirtual 132, 3) := by decide +kernel
theorem zd_A_barred_31 : decode zb_A_barred 31 = .ok (.astore_n 3, 1) := by decide +kernel
theorem zd_A_barred_32 : decode zb_A_barred 32 = .ok (.iconst 1, 1) := by decide +kernel
theorem zd_A_barred_33 : decode zb_A_barred 33 = .ok (.istore 4, 2) := by decide +kernel
theorem zd_A_barred_35 : decode zb_A_barred 35 = .ok (.iconst 0, 1) := by decide +kernel
theorem zd_A_barred_36 : decode zb_A_barred 36 = .ok (.istore 5, 2) := by decide +kernel
theorem zd_A_barred_38 : decode zb_A_barred 38 = .ok (.iload 5, 2) := by decide +kernel
theorem zd_A_barred_40 : decode zb_A_barred 40 = .ok (.aload_n 0, 1) := by decide +kernel
theorem zd_A_barred_41 : decode zb_A_barred 41 = .ok (.getfield 75, 3) := by decide +kernel
theorem zd_A_barred_44 : decode zb_A_barred 44 = .ok (.if_icmp .ge 34, 3) := by decide +kernel
theorem zd_A_barred_47 : decode zb_A_barred 47 = .ok (.aload_n 0, 1) := by decide +kernel
theorem zd_A_barred_48 : decode zb_A_barred 48 = .ok (.aload_n 3, 1) := by decide +kernel
theorem zd_A_barred_49 : decode zb_A_barred 49 = .ok (.iload 5, 2) := by decide +kernel
theorem zd_A_barred_51 : decode zb_A_barred 51 = .ok (.invokevirtual 178, 3) := by decide +kernel
theorem zd_A_barred_54 : decode zb_A_barred 54 = .ok (.istore 6, 2) := by decide +kernel
theorem zd_A_barred_56 : decode zb_A_barred 56 = .ok (.iload 6, 2) := by decide +kernel
theorem zd_A_barred_58 : decode zb_A_barred 58 = .ok (.ifCond .ne 5, 3) := by decide +kernel
theorem zd_A_barred_61 : decode zb_A_barred 61 = .ok (.iconst 0, 1) := by decide +kernel
theorem zd_A_barred_62 : decode zb_A_barred 62 = .ok (.ireturn, 1) := by decide +kernel
theorem zd_A_barred_63 : decode zb_A_barred 63 = .ok (.iload 4, 2) := by decide +kernel
theorem zd_A_barred_65 : decode zb_A_barred 65 = .ok (.iload 6, 2) := by decide +kernel
theorem zd_A_barred_67 : decode zb_A_barred 67 = .ok (.invokestatic 122, 3) := by decide +kernel
theorem zd_A_barred_70 : decode zb_A_barred 70 = .ok (.istore 4, 2) := by decide +kernel
theorem zd_A_barred_72 : decode zb_A_barred 72 = .ok (.iinc 5 1, 3) := by decide +kernel
theorem zd_A_barred_75 : decode zb_A_barred 75 = .ok (.goto (-37), 3) := by decide +kernel
theorem zd_A_barred_78 : decode zb_A_barred 78 = .ok (.iload 4, 2) := by decide +kernel
theorem zd_A_barred_80 : decode zb_A_barred 80 = .ok (.ireturn, 1) := by decide +kernel
theorem zd_A_put_0 : decode zb_A_put 0 = .ok (.aload_n 0, 1) := by decide +kernel
theorem zd_A_put_1 : decode zb_A_put 1 = .ok (.iload_n 1, 1) := by decide +kernel
theorem zd_A_put_2 : decode zb_A_put 2 = .ok (.invokevirtual 85, 3) := by decide +kernel
theorem zd_A_put_5 : decode zb_A_put 5 = .ok (.astore_n 2, 1) := by decide +kernel
theorem zd_A_put_6 : decode zb_A_put 6 = .ok (.aload_n 2, 1) := by decide +kernel
theorem zd_A_put_7 : decode zb_A_put 7 = .ok (.invokestatic 181, 3) := by decide +kernel
theorem zd_A_put_10 : decode zb_A_put 10 = .ok (.ifCond .ne 13, 3) := by decide +kernel
theorem zd_A_put_13 : decode zb_A_put 13 = .ok (.new 106, 3) := by decide +kernel
theorem zd_A_put_16 : decode zb_A_put 16 = .ok (.dup, 1) := by decide +kernel
theorem zd_A_put_17 : decode zb_A_put 17 = .ok (.ldc 185, 2) := by decide +kernel
theorem zd_A_put_19 : decode zb_A_put 19 = .ok (.invokespecial 110, 3) := by decide +kernel
theorem zd_A_put_22 : decode zb_A_put 22 = .ok (.athrow, 1) := by decide +kernel
theorem zd_A_put_23 : decode zb_A_put 23 = .ok (.aload_n 0, 1) := by decide +kernel
theorem zd_A_put_24 : decode zb_A_put 24 = .ok (.aload_n 2, 1) := by decide +kernel
theorem zd_A_put_25 : decode zb_A_put 25 = .ok (.getfield 111, 3) := by decide +kernel
theorem zd_A_put_28 : decode zb_A_put 28 = .ok (.invokevirtual 132, 3) := by decide +kernel
theorem zd_A_put_31 : decode zb_A_put 31 = .ok (.astore_n 3, 1) := by decide +kernel
theorem zd_A_put_32 : decode zb_A_put 32 = .ok (.aload_n 0, 1) := by decide +kernel
theorem zd_A_put_33 : decode zb_A_put 33 = .ok (.aload_n 3, 1) := by decide +kernel
theorem zd_A_put_34 : decode zb_A_put 34 = .ok (.aload_n 2, 1) := by decide +kernel
theorem zd_A_put_35 : decode zb_A_put 35 = .ok (.getfield 164, 3) := by decide +kernel
theorem zd_A_put_38 : decode zb_A_put 38 = .ok (.invokevirtual 178, 3) := by decide +kernel
theorem zd_A_put_41 : decode zb_A_put 41 = .ok (.ifCond .eq 13, 3) := by decide +kernel
theorem zd_A_put_44 : decode zb_A_put 44 = .ok (.new 106, 3) := by decide +kernel
theorem zd_A_put_47 : decode zb_A_put 47 = .ok (.dup, 1) := by decide +kernel
theorem zd_A_put_48 : decode zb_A_put 48 = .ok (.ldc 187, 2) := by decide +kernel
theorem zd_A_put_50 : decode zb_A_put 50 = .ok (.invokespecial 110, 3) := by decide +kernel
theorem zd_A_put_53 : decode zb_A_put 53 = .ok (.athrow, 1) := by decide +kernel
theorem zd_A_put_54 : decode zb_A_put 54 = .ok (.aload_n 0, 1) := by decide +kernel
theorem zd_A_put_55 : decode zb_A_put 55 = .ok (.getfield 17, 3) := by decide +kernel
theorem zd_A_put_58 : decode zb_A_put 58 = .ok (.aload_n 2, 1) := by decide +kernel
theorem zd_A_put_59 : decode zb_A_put 59 = .ok (.getfield 164, 3) := by decide +kernel
theorem zd_A_put_62 : decode zb_A_put 62 = .ok (.aaload, 1) := by decide +kernel
theorem zd_A_put_63 : decode zb_A_put 63 = .ok (.dup, 1) := by decide +kernel
theorem zd_A_put_64 : decode zb_A_put 64 = .ok (.getfield 189, 3) := by decide +kernel
theorem zd_A_put_67 : decode zb_A_put 67 = .ok (.aload_n 3, 1) := by decide +kernel
theorem zd_A_put_68 : decode zb_A_put 68 = .ok (.getfield 192, 3) := by decide +kernel
theorem zd_A_put_71 : decode zb_A_put 71 = .ok (.isub, 1) := by decide +kernel
theorem zd_A_put_72 : decode zb_A_put 72 = .ok (.putfield 189, 3) := by decide +kernel
theorem zd_A_put_75 : decode zb_A_put 75 = .ok (.aload_n 0, 1) := by decide +kernel
theorem zd_A_put_76 : decode zb_A_put 76 = .ok (.aload_n 3, 1) := by decide +kernel
theorem zd_A_put_77 : decode zb_A_put 77 = .ok (.getfield 195, 3) := by decide +kernel
theorem zd_A_put_80 : decode zb_A_put 80 = .ok (.invokevirtual 198, 3) := by decide +kernel
theorem zd_A_put_83 : decode zb_A_put 83 = .ok (.aload_n 3, 1) := by decide +kernel
theorem zd_A_put_84 : decode zb_A_put 84 = .ok (.getfield 136, 3) := by decide +kernel
theorem zd_A_put_87 : decode zb_A_put 87 = .ok (.ireturn, 1) := by decide +kernel
theorem zd_A_block_0 : decode zb_A_block 0 = .ok (.aload_n 0, 1) := by decide +kernel
theorem zd_A_block_1 : decode zb_A_block 1 = .ok (.iload_n 1, 1) := by decide +kernel
theorem zd_A_block_2 : decode zb_A_block 2 = .ok (.invokevirtual 89, 3) := by decide +kernel
theorem zd_A_block_5 : decode zb_A_block 5 = .ok (.astore_n 2, 1) := by decide +kernel
theorem zd_A_block_6 : decode zb_A_block 6 = .ok (.aload_n 2, 1) := by decide +kernel
theorem zd_A_block_7 : decode zb_A_block 7 = .ok (.getfield 202, 3) := by decide +kernel
theorem zd_A_block_10 : decode zb_A_block 10 = .ok (.ifCond .eq 13, 3) := by decide +kernel
theorem zd_A_block_13 : decode zb_A_block 13 = .ok (.new 106, 3) := by decide +kernel
theorem zd_A_block_16 : decode zb_A_block 16 = .ok (.dup, 1) := by decide +kernel
theorem zd_A_block_17 : decode zb_A_block 17 = .ok (.ldc 205, 2) := by decide +kernel
theorem zd_A_block_19 : decode zb_A_block 19 = .ok (.invokespecial 110, 3) := by decide +kernel
theorem zd_A_block_22 : decode zb_A_block 22 = .ok (.athrow, 1) := by decide +kernel
theorem zd_A_block_23 : decode zb_A_block 23 = .ok (.aload_n 2, 1) := by decide +kernel
theorem zd_A_block_24 : decode zb_A_block 24 = .ok (.iconst 1, 1) := by decide +kernel
theorem zd_A_block_25 : decode zb_A_block 25 = .ok (.putfield 202, 3) := by decide +kernel
theorem zd_A_block_28 : decode zb_A_block 28 = .ok (.aload_n 0, 1) := by decide +kernel
theorem zd_A_block_29 : decode zb_A_block 29 = .ok (.iload_n 1, 1) := by decide +kernel
theorem zd_A_block_30 : decode zb_A_block 30 = .ok (.invokevirtual 207, 3) := by decide +kernel
theorem zd_A_block_33 : decode zb_A_block 33 = .ok (.istore_n 3, 1) := by decide +kernel
theorem zd_A_block_34 : decode zb_A_block 34 = .ok (.iload_n 3, 1) := by decide +kernel
theorem zd_A_block_35 : decode zb_A_block 35 = .ok (.iconst (-1), 1) := by decide +kernel
theorem zd_A_block_36 : decode zb_A_block 36 = .ok (.if_icmp .ne 5, 3) := by decide +kernel
theorem zd_A_block_39 : decode zb_A_block 39 = .ok (.iconst 0, 1) := by decide +kernel
theorem zd_A_block_40 : decode zb_A_block 40 = .ok (.ireturn, 1) := by decide +kernel
theorem zd_A_block_41 : decode zb_A_block 41 = .ok (.aload_n 0, 1) := by decide +kernel
theorem zd_A_block_42 : decode zb_A_block 42 = .ok (.aload_n 0, 1) := by decide +kernel
theorem zd_A_block_43 : decode zb_A_block 43 = .ok (.iload_n 3, 1) := by decide +kernel
theorem zd_A_block_44 : decode zb_A_block 44 = .ok (.invokevirtual 132, 3) := by decide +kernel
theorem zd_A_block_47 : decode zb_A_block 47 = .ok (.aload_n 0, 1) := by decide +kernel
theorem zd_A_block_48 : decode zb_A_block 48 = .ok (.invokevirtual 211, 3) := by decide +kernel
theorem zd_A_block_51 : decode zb_A_block 51 = .ok (.invokevirtual 171, 3) := by decide +kernel
theorem zd_A_block_54 : decode zb_A_block 54 = .ok (.istore 4, 2) := by decide +kernel
theorem zd_A_block_56 : decode zb_A_block 56 = .ok (.aload_n 0, 1) := by decide +kernel
theorem zd_A_block_57 : decode zb_A_block 57 = .ok (.iload_n 3, 1) := by decide +kernel
theorem zd_A_block_58 : decode zb_A_block 58 = .ok (.iload 4, 2) := by decide +kernel
theorem zd_A_block_60 : decode zb_A_block 60 = .ok (.invokevirtual 129, 3) := by decide +kernel
theorem zd_A_block_63 : decode zb_A_block 63 = .ok (.iload 4, 2) := by decide +kernel
theorem zd_A_block_65 : decode zb_A_block 65 = .ok (.iconst (-1), 1) := by decide +kernel
theorem zd_A_block_66 : decode zb_A_block 66 = .ok (.if_icmp .ne 7, 3) := by decide +kernel
theorem zd_A_block_69 : decode zb_A_block 69 = .ok (.iconst 0, 1) := by decide +kernel
theorem zd_A_block_70 : decode zb_A_block 70 = .ok (.goto 4, 3) := by decide +kernel
theorem zd_A_block_73 : decode zb_A_block 73 = .ok (.iconst 1, 1) := by decide +kernel
theorem zd_A_block_74 : decode zb_A_block 74 = .ok (.ireturn, 1) := by decide +kernel
theorem zd_A_open_0 : decode zb_A_open 0 = .ok (.aload_n 0, 1) := by decide +kernel
theorem zd_A_open_1 : decode zb_A_open 1 = .ok (.iload_n 1, 1) := by decide +kernel
theorem zd_A_open_2 : decode zb_A_open 2 = .ok (.invokevirtual 89, 3) := by decide +kernel
theorem zd_A_open_5 : decode zb_A_open 5 = .ok (.astore_n 2, 1) := by decide +kernel
theorem zd_A_open_6 : decode zb_A_open 6 = .ok (.aload_n 2, 1) := by decide +kernel
theorem zd_A_open_7 : decode zb_A_open 7 = .ok (.getfield 202, 3) := by decide +kernel
theorem zd_A_open_10 : decode zb_A_open 10 = .ok (.ifCond .ne 13, 3) := by decide +kernel
theorem zd_A_open_13 : decode zb_A_open 13 = .ok (.new 106, 3) := by decide +kernel
theorem zd_A_open_16 : decode zb_A_open 16 = .ok (.dup, 1) := by decide +kernel
theorem zd_A_open_17 : decode zb_A_open 17 = .ok (.ldc 214, 2) := by decide +kernel
theorem zd_A_open_19 : decode zb_A_open 19 = .ok (.invokespecial 110, 3) := by decide +kernel
theorem zd_A_open_22 : decode zb_A_open 22 = .ok (.athrow, 1) := by decide +kernel
theorem zd_A_open_23 : decode zb_A_open 23 = .ok (.aload_n 2, 1) := by decide +kernel
theorem zd_A_open_24 : decode zb_A_open 24 = .ok (.iconst 0, 1) := by decide +kernel
theorem zd_A_open_25 : decode zb_A_open 25 = .ok (.putfield 202, 3) := by decide +kernel
theorem zd_A_open_28 : decode zb_A_open 28 = .ok (.return_, 1) := by decide +kernel
theorem zd_A_share_0 : decode zb_A_share 0 = .ok (.aload_n 0, 1) := by decide +kernel
theorem zd_A_share_1 : decode zb_A_share 1 = .ok (.iload_n 1, 1) := by decide +kernel
theorem zd_A_share_2 : decode zb_A_share 2 = .ok (.invokevirtual 85, 3) := by decide +kernel
theorem zd_A_share_5 : decode zb_A_share 5 = .ok (.astore_n 2, 1) := by decide +kernel
theorem zd_A_share_6 : decode zb_A_share 6 = .ok (.aload_n 2, 1) := by decide +kernel
theorem zd_A_share_7 : decode zb_A_share 7 = .ok (.invokestatic 181, 3) := by decide +kernel
theorem zd_A_share_10 : decode zb_A_share 10 = .ok (.ifCond .ne 13, 3) := by decide +kernel
theorem zd_A_share_13 : decode zb_A_share 13 = .ok (.new 106, 3) := by decide +kernel
theorem zd_A_share_16 : decode zb_A_share 16 = .ok (.dup, 1) := by decide +kernel
theorem zd_A_share_17 : decode zb_A_share 17 = .ok (.ldc 185, 2) := by decide +kernel
theorem zd_A_share_19 : decode zb_A_share 19 = .ok (.invokespecial 110, 3) := by decide +kernel
theorem zd_A_share_22 : decode zb_A_share 22 = .ok (.athrow, 1) := by decide +kernel
theorem zd_A_share_23 : decode zb_A_share 23 = .ok (.aload_n 0, 1) := by decide +kernel
theorem zd_A_share_24 : decode zb_A_share 24 = .ok (.invokevirtual 216, 3) := by decide +kernel
theorem zd_A_share_27 : decode zb_A_share 27 = .ok (.istore_n 3, 1) := by decide +kernel
theorem zd_A_share_28 : decode zb_A_share 28 = .ok (.iload_n 3, 1) := by decide +kernel
theorem zd_A_share_29 : decode zb_A_share 29 = .ok (.ifCond .ne 13, 3) := by decide +kernel
theorem zd_A_share_32 : decode zb_A_share 32 = .ok (.new 219, 3) := by decide +kernel
theorem zd_A_share_35 : decode zb_A_share 35 = .ok (.dup, 1) := by decide +kernel
theorem zd_A_share_36 : decode zb_A_share 36 = .ok (.ldc 221, 2) := by decide +kernel
theorem zd_A_share_38 : decode zb_A_share 38 = .ok (.invokespecial 223, 3) := by decide +kernel
theorem zd_A_share_41 : decode zb_A_share 41 = .ok (.athrow, 1) := by decide +kernel
theorem zd_A_share_42 : decode zb_A_share 42 = .ok (.bipush 100, 2) := by decide +kernel
theorem zd_A_share_44 : decode zb_A_share 44 = .ok (.aload_n 0, 1) := by decide +kernel
theorem zd_A_share_45 : decode zb_A_share 45 = .ok (.aload_n 0, 1) := by decide +kernel
theorem zd_A_share_46 : decode zb_A_share 46 = .ok (.aload_n 2, 1) := by decide +kernel
theorem zd_A_share_47 : decode zb_A_share 47 = .ok (.getfield 111, 3) := by decide +kernel
theorem zd_A_share_50 : decode zb_A_share 50 = .ok (.invokevirtual 132, 3) := by decide +kernel
theorem zd_A_share_53 : decode zb_A_share 53 = .ok (.aload_n 2, 1) := by decide +kernel
theorem zd_A_share_54 : decode zb_A_share 54 = .ok (.getfield 164, 3) := by decide +kernel
theorem zd_A_share_57 : decode zb_A_share 57 = .ok (.invokevirtual 175, 3) := by decide +kernel
theorem zd_A_share_60 : decode zb_A_share 60 = .ok (.imul, 1) := by decide +kernel
theorem zd_A_share_61 : decode zb_A_share 61 = .ok (.iload_n 3, 1) := by decide +kernel
theorem zd_A_share_62 : decode zb_A_share 62 = .ok (.idiv, 1) := by decide +kernel
theorem zd_A_share_63 : decode zb_A_share 63 = .ok (.ireturn, 1) := by decide +kernel
theorem zd_A_trip_0 : decode zb_A_trip 0 = .ok (.aload_n 0, 1) := by decide +kernel
theorem zd_A_trip_1 : decode zb_A_trip 1 = .ok (.iload_n 1, 1) := by decide +kernel
theorem zd_A_trip_2 : decode zb_A_trip 2 = .ok (.invokevirtual 85, 3) := by decide +kernel
theorem zd_A_trip_5 : decode zb_A_trip 5 = .ok (.pop, 1) := by decide +kernel
theorem zd_A_trip_6 : decode zb_A_trip 6 = .ok (.iconst (-1), 1) := by decide +kernel
theorem zd_A_trip_7 : decode zb_A_trip 7 = .ok (.istore_n 2, 1) := by decide +kernel
theorem zd_A_trip_8 : decode zb_A_trip 8 = .ok (.iconst 0, 1) := by decide +kernel
theorem zd_A_trip_9 : decode zb_A_trip 9 = .ok (.istore_n 3, 1) := by decide +kernel
theorem zd_A_trip_10 : decode zb_A_trip 10 = .ok (.iload_n 3, 1) := by decide +kernel
theorem zd_A_trip_11 : decode zb_A_trip 11 = .ok (.iconst 4, 1) := by decide +kernel
theorem zd_A_trip_12 : decode zb_A_trip 12 = .ok (.if_icmp .ge 105, 3) := by decide +kernel
theorem zd_A_trip_15 : decode zb_A_trip 15 = .ok (.iconst 0, 1) := by decide +kernel
theorem zd_A_trip_16 : decode zb_A_trip 16 = .ok (.istore 4, 2) := by decide +kernel
theorem zd_A_trip_18 : decode zb_A_trip 18 = .ok (.iconst 0, 1) := by decide +kernel
theorem zd_A_trip_19 : decode zb_A_trip 19 = .ok (.istore 5, 2) := by decide +kernel
theorem zd_A_trip_21 : decode zb_A_trip 21 = .ok (.iconst 0, 1) := by decide +kernel
theorem zd_A_trip_22 : decode zb_A_trip 22 = .ok (.istore 6, 2) := by decide +kernel
theorem zd_A_trip_24 : decode zb_A_trip 24 = .ok (.iload 6, 2) := by decide +kernel
theorem zd_A_trip_26 : decode zb_A_trip 26 = .ok (.aload_n 0, 1) := by decide +kernel
theorem zd_A_trip_27 : decode zb_A_trip 27 = .ok (.getfield 60, 3) := by decide +kernel
theorem zd_A_trip_30 : decode zb_A_trip 30 = .ok (.if_icmp .ge 81, 3) := by decide +kernel
theorem zd_A_trip_33 : decode zb_A_trip 33 = .ok (.aload_n 0, 1) := by decide +kernel
theorem zd_A_trip_34 : decode zb_A_trip 34 = .ok (.aload_n 0, 1) := by decide +kernel
theorem zd_A_trip_35 : decode zb_A_trip 35 = .ok (.getfield 11, 3) := by decide +kernel
theorem zd_A_trip_38 : decode zb_A_trip 38 = .ok (.iload 6, 2) := by decide +kernel
theorem zd_A_trip_40 : decode zb_A_trip 40 = .ok (.aaload, 1) := by decide +kernel
theorem zd_A_trip_41 : decode zb_A_trip 41 = .ok (.iload_n 3, 1) := by decide +kernel
theorem zd_A_trip_42 : decode zb_A_trip 42 = .ok (.invokevirtual 224, 3) := by decide +kernel
theorem zd_A_trip_45 : decode zb_A_trip 45 = .ok (.ifCond .eq 60, 3) := by decide +kernel
theorem zd_A_trip_48 : decode zb_A_trip 48 = .ok (.iload 4, 2) := by decide +kernel
theorem zd_A_trip_50 : decode zb_A_trip 50 = .ok (.ifCond .eq 23, 3) := by decide +kernel
theorem zd_A_trip_53 : decode zb_A_trip 53 = .ok (.iload 5, 2) := by decide +kernel
theorem zd_A_trip_55 : decode zb_A_trip 55 = .ok (.aload_n 0, 1) := by decide +kernel
theorem zd_A_trip_56 : decode zb_A_trip 56 = .ok (.getfield 11, 3) := by decide +kernel
theorem zd_A_trip_59 : decode zb_A_trip 59 = .ok (.iload 6, 2) := by decide +kernel
theorem zd_A_trip_61 : decode zb_A_trip 61 = .ok (.aaload, 1) := by decide +kernel
theorem zd_A_trip_62 : decode zb_A_trip 62 = .ok (.getfield 228, 3) := by decide +kernel
theorem zd_A_trip_65 : decode zb_A_trip 65 = .ok (.iadd, 1) := by decide +kernel
theorem zd_A_trip_66 : decode zb_A_trip 66 = .ok (.aload_n 0, 1) := by decide +kernel
theorem zd_A_trip_67 : decode zb_A_trip 67 = .ok (.getfield 46, 3) := by decide +kernel
theorem zd_A_trip_70 : decode zb_A_trip 70 = .ok (.if_icmp .le 9, 3) := by decide +kernel
theorem zd_A_trip_73 : decode zb_A_trip 73 = .ok (.iinc 2 1, 3) := by decide +kernel
theorem zd_A_trip_76 : decode zb_A_trip 76 = .ok (.iconst 0, 1) := by decide +kernel
theorem zd_A_trip_77 : decode zb_A_trip 77 = .ok (.istore 5, 2) := by decide +kernel
theorem zd_A_trip_79 : decode zb_A_trip 79 = .ok (.iconst 1, 1) := by decide +kernel
theorem zd_A_trip_80 : decode zb_A_trip 80 = .ok (.istore 4, 2) := by decide +kernel
theorem zd_A_trip_82 : decode zb_A_trip 82 = .ok (.iload 5, 2) := by decide +kernel
theorem zd_A_trip_84 : decode zb_A_trip 84 = .ok (.aload_n 0, 1) := by decide +kernel
theorem zd_A_trip_85 : decode zb_A_trip 85 = .ok (.getfield 11, 3) := by decide +kernel
theorem zd_A_trip_88 : decode zb_A_trip 88 = .ok (.iload 6, 2) := by decide +kernel
theorem zd_A_trip_90 : decode zb_A_trip 90 = .ok (.aaload, 1) := by decide +kernel
theorem zd_A_trip_91 : decode zb_A_trip 91 = .ok (.getfield 228, 3) := by decide +kernel
theorem zd_A_trip_94 : decode zb_A_trip 94 = .ok (.iadd, 1) := by decide +kernel
theorem zd_A_trip_95 : decode zb_A_trip 95 = .ok (.istore 5, 2) := by decide +kernel
theorem zd_A_trip_97 : decode zb_A_trip 97 = .ok (.iload 6, 2) := by decide +kernel
theorem zd_A_trip_99 : decode zb_A_trip 99 = .ok (.iload_n 1, 1) := by decide +kernel
theorem zd_A_trip_100 : decode zb_A_trip 100 = .ok (.if_icmp .ne 5, 3) := by decide +kernel
theorem zd_A_trip_103 : decode zb_A_trip 103 = .ok (.iload_n 2, 1) := by decide +kernel
theorem zd_A_trip_104 : decode zb_A_trip 104 = .ok (.ireturn, 1) := by decide +kernel
theorem zd_A_trip_105 : decode zb_A_trip 105 = .ok (.iinc 6 1, 3) := by decide +kernel
theorem zd_A_trip_108 : decode zb_A_trip 108 = .ok (.goto (-84), 3) := by decide +kernel
theorem zd_A_trip_111 : decode zb_A_trip 111 = .ok (.iinc 3 1, 3) := by decide +kernel
theorem zd_A_trip_114 : decode zb_A_trip 114 = .ok (.goto (-104), 3) := by decide +kernel
theorem zd_A_trip_117 : decode zb_A_trip 117 = .ok (.iconst (-1), 1) := by decide +kernel
theorem zd_A_trip_118 : decode zb_A_trip 118 = .ok (.ireturn, 1) := by decide +kernel
theorem zd_A_told_0 : decode zb_A_told 0 = .ok (.aload_n 0, 1) := by decide +kernel
theorem zd_A_told_1 : decode zb_A_told 1 = .ok (.iload_n 1, 1) := by decide +kernel
theorem zd_A_told_2 : decode zb_A_told 2 = .ok (.invokevirtual 89, 3) := by decide +kernel
theorem zd_A_told_5 : decode zb_A_told 5 = .ok (.astore_n 3, 1) := by decide +kernel
theorem zd_A_told_6 : decode zb_A_told 6 = .ok (.iload_n 2, 1) := by decide +kernel
theorem zd_A_told_7 : decode zb_A_told 7 = .ok (.tableswitch 58 0 3 #[29, 34, 39, 52], 29) := by decide +kernel
theorem zd_A_told_36 : decode zb_A_told 36 = .ok (.aload_n 3, 1) := by decide +kernel
theorem zd_A_told_37 : decode zb_A_told 37 = .ok (.getfield 189, 3) := by decide +kernel
theorem zd_A_told_40 : decode zb_A_told 40 = .ok (.ireturn, 1) := by decide +kernel
theorem zd_A_told_41 : decode zb_A_told 41 = .ok (.aload_n 3, 1) := by decide +kernel
theorem zd_A_told_42 : decode zb_A_told 42 = .ok (.getfield 229, 3) := by decide +kernel
theorem zd_A_told_45 : decode zb_A_told 45 = .ok (.ireturn, 1) := by decide +kernel
theorem zd_A_told_46 : decode zb_A_told 46 = .ok (.aload_n 3, 1) := by decide +kernel
theorem zd_A_told_47 : decode zb_A_told 47 = .ok (.getfield 202, 3) := by decide +kernel
theorem zd_A_told_50 : decode zb_A_told 50 = .ok (.ifCond .eq 7, 3) := by decide +kernel
theorem zd_A_told_53 : decode zb_A_told 53 = .ok (.iconst 1, 1) := by decide +kernel
theorem zd_A_told_54 : decode zb_A_told 54 = .ok (.goto 4, 3) := by decide +kernel
theorem zd_A_told_57 : decode zb_A_told 57 = .ok (.iconst 0, 1) := by decide +kernel
theorem zd_A_told_58 : decode zb_A_told 58 = .ok (.ireturn, 1) := by decide +kernel
theorem zd_A_told_59 : decode zb_A_told 59 = .ok (.aload_n 0, 1) := by decide +kernel
theorem zd_A_told_60 : decode zb_A_told 60 = .ok (.iload_n 1, 1) := by decide +kernel
theorem zd_A_told_61 : decode zb_A_told 61 = .ok (.invokevirtual 207, 3) := by decide +kernel
theorem zd_A_told_64 : decode zb_A_told 64 = .ok (.ireturn, 1) := by decide +kernel
theorem zd_A_told_65 : decode zb_A_told 65 = .ok (.new 53, 3) := by decide +kernel
theorem zd_A_told_68 : decode zb_A_told 68 = .ok (.dup, 1) := by decide +kernel
theorem zd_A_told_69 : decode zb_A_told 69 = .ok (.ldc 232, 2) := by decide +kernel
theorem zd_A_told_71 : decode zb_A_told 71 = .ok (.invokespecial 57, 3) := by decide +kernel
theorem zd_A_told_74 : decode zb_A_told 74 = .ok (.athrow, 1) := by decide +kernel
theorem zd_A_count_0 : decode zb_A_count 0 = .ok (.iload_n 1, 1) := by decide +kernel
theorem zd_A_count_1 : decode zb_A_count 1 = .ok (.tableswitch 51 0 3 #[31, 36, 41, 46], 31) := by decide +kernel
theorem zd_A_count_32 : decode zb_A_count 32 = .ok (.aload_n 0, 1) := by decide +kernel
theorem zd_A_count_33 : decode zb_A_count 33 = .ok (.getfield 60, 3) := by decide +kernel
theorem zd_A_count_36 : decode zb_A_count 36 = .ok (.ireturn, 1) := by decide +kernel
theorem zd_A_count_37 : decode zb_A_count 37 = .ok (.aload_n 0, 1) := by decide +kernel
theorem zd_A_count_38 : decode zb_A_count 38 = .ok (.getfield 75, 3) := by decide +kernel
theorem zd_A_count_41 : decode zb_A_count 41 = .ok (.ireturn, 1) := by decide +kernel
theorem zd_A_count_42 : decode zb_A_count 42 = .ok (.aload_n 0, 1) := by decide +kernel
theorem zd_A_count_43 : decode zb_A_count 43 = .ok (.invokevirtual 148, 3) := by decide +kernel
theorem zd_A_count_46 : decode zb_A_count 46 = .ok (.ireturn, 1) := by decide +kernel
theorem zd_A_count_47 : decode zb_A_count 47 = .ok (.aload_n 0, 1) := by decide +kernel
theorem zd_A_count_48 : decode zb_A_count 48 = .ok (.invokevirtual 234, 3) := by decide +kernel
theorem zd_A_count_51 : decode zb_A_count 51 = .ok (.ireturn, 1) := by decide +kernel
theorem zd_A_count_52 : decode zb_A_count 52 = .ok (.iconst (-1), 1) := by decide +kernel
theorem zd_A_count_53 : decode zb_A_count 53 = .ok (.ireturn, 1) := by decide +kernel
theorem zd_A_outside_0 : decode zb_A_outside 0 = .ok (.iload_n 0, 1) := by decide +kernel
theorem zd_A_outside_1 : decode zb_A_outside 1 = .ok (.iload_n 1, 1) := by decide +kernel
theorem zd_A_outside_2 : decode zb_A_outside 2 = .ok (.if_icmp .lt 8, 3) := by decide +kernel
theorem zd_A_outside_5 : decode zb_A_outside 5 = .ok (.iload_n 0, 1) := by decide +kernel
theorem zd_A_outside_6 : decode zb_A_outside 6 = .ok (.iload_n 2, 1) := by decide +kernel
theorem zd_A_outside_7 : decode zb_A_outside 7 = .ok (.if_icmp .le 7, 3) := by decide +kernel
theorem zd_A_outside_10 : decode zb_A_outside 10 = .ok (.iconst 1, 1) := by decide +kernel
theorem zd_A_outside_11 : decode zb_A_outside 11 = .ok (.goto 4, 3) := by decide +kernel
theorem zd_A_outside_14 : decode zb_A_outside 14 = .ok (.iconst 0, 1) := by decide +kernel
theorem zd_A_outside_15 : decode zb_A_outside 15 = .ok (.ireturn, 1) := by decide +kernel
theorem zd_A_unitOf_0 : decode zb_A_unitOf 0 = .ok (.iload_n 1, 1) := by decide +kernel
theorem zd_A_unitOf_1 : decode zb_A_unitOf 1 = .ok (.iconst 0, 1) := by decide +kernel
theorem zd_A_unitOf_2 : decode zb_A_unitOf 2 = .ok (.aload_n 0, 1) := by decide +kernel
theorem zd_A_unitOf_3 : decode zb_A_unitOf 3 = .ok (.getfield 60, 3) := by decide +kernel
theorem zd_A_unitOf_6 : decode zb_A_unitOf 6 = .ok (.iconst 1, 1) := by decide +kernel
theorem zd_A_unitOf_7 : decode zb_A_unitOf 7 = .ok (.isub, 1) := by decide +kernel
theorem zd_A_unitOf_8 : decode zb_A_unitOf 8 = .ok (.invokestatic 49, 3) := by decide +kernel
theorem zd_A_unitOf_11 : decode zb_A_unitOf 11 = .ok (.ifCond .eq 13, 3) := by decide +kernel
theorem zd_A_unitOf_14 : decode zb_A_unitOf 14 = .ok (.new 237, 3) := by decide +kernel
theorem zd_A_unitOf_17 : decode zb_A_unitOf 17 = .ok (.dup, 1) := by decide +kernel
theorem zd_A_unitOf_18 : decode zb_A_unitOf 18 = .ok (.ldc 239, 2) := by decide +kernel
theorem zd_A_unitOf_20 : decode zb_A_unitOf 20 = .ok (.invokespecial 241, 3) := by decide +kernel
theorem zd_A_unitOf_23 : decode zb_A_unitOf 23 = .ok (.athrow, 1) := by decide +kernel
theorem zd_A_unitOf_24 : decode zb_A_unitOf 24 = .ok (.aload_n 0, 1) := by decide +kernel
theorem zd_A_unitOf_25 : decode zb_A_unitOf 25 = .ok (.getfield 11, 3) := by decide +kernel
theorem zd_A_unitOf_28 : decode zb_A_unitOf 28 = .ok (.iload_n 1, 1) := by decide +kernel
theorem zd_A_unitOf_29 : decode zb_A_unitOf 29 = .ok (.aaload, 1) := by decide +kernel
theorem zd_A_unitOf_30 : decode zb_A_unitOf 30 = .ok (.areturn, 1) := by decide +kernel
theorem zd_A_placeOf_0 : decode zb_A_placeOf 0 = .ok (.iload_n 1, 1) := by decide +kernel
theorem zd_A_placeOf_1 : decode zb_A_placeOf 1 = .ok (.iconst 0, 1) := by decide +kernel
theorem zd_A_placeOf_2 : decode zb_A_placeOf 2 = .ok (.aload_n 0, 1) := by decide +kernel
theorem zd_A_placeOf_3 : decode zb_A_placeOf 3 = .ok (.getfield 75, 3) := by decide +kernel
theorem zd_A_placeOf_6 : decode zb_A_placeOf 6 = .ok (.iconst 1, 1) := by decide +kernel
theorem zd_A_placeOf_7 : decode zb_A_placeOf 7 = .ok (.isub, 1) := by decide +kernel
theorem zd_A_placeOf_8 : decode zb_A_placeOf 8 = .ok (.invokestatic 49, 3) := by decide +kernel
theorem zd_A_placeOf_11 : decode zb_A_placeOf 11 = .ok (.ifCond .eq 13, 3) := by decide +kernel
theorem zd_A_placeOf_14 : decode zb_A_placeOf 14 = .ok (.new 237, 3) := by decide +kernel
theorem zd_A_placeOf_17 : decode zb_A_placeOf 17 = .ok (.dup, 1) := by decide +kernel
theorem zd_A_placeOf_18 : decode zb_A_placeOf 18 = .ok (.ldc 242, 2) := by decide +kernel
theorem zd_A_placeOf_20 : decode zb_A_placeOf 20 = .ok (.invokespecial 241, 3) := by decide +kernel
theorem zd_A_placeOf_23 : decode zb_A_placeOf 23 = .ok (.athrow, 1) := by decide +kernel
theorem zd_A_placeOf_24 : decode zb_A_placeOf 24 = .ok (.aload_n 0, 1) := by decide +kernel
theorem zd_A_placeOf_25 : decode zb_A_placeOf 25 = .ok (.getfield 17, 3) := by decide +kernel
theorem zd_A_placeOf_28 : decode zb_A_placeOf 28 = .ok (.iload_n 1, 1) := by decide +kernel
theorem zd_A_placeOf_29 : decode zb_A_placeOf 29 = .ok (.aaload, 1) := by decide +kernel
theorem zd_A_placeOf_30 : decode zb_A_placeOf 30 = .ok (.areturn, 1) := by decide +kernel
theorem zd_A_isIn_0 : decode zb_A_isIn 0 = .ok (.aload_n 0, 1) := by decide +kernel
theorem zd_A_isIn_1 : decode zb_A_isIn 1 = .ok (.getfield 11, 3) := by decide +kernel
theorem zd_A_isIn_4 : decode zb_A_isIn 4 = .ok (.iload_n 1, 1) := by decide +kernel
theorem zd_A_isIn_5 : decode zb_A_isIn 5 = .ok (.aaload, 1) := by decide +kernel
theorem zd_A_isIn_6 : decode zb_A_isIn 6 = .ok (.getfield 102, 3) := by decide +kernel
theorem zd_A_isIn_9 : decode zb_A_isIn 9 = .ok (.ifCond .ne 20, 3) := by decide +kernel
theorem zd_A_isIn_12 : decode zb_A_isIn 12 = .ok (.aload_n 0, 1) := by decide +kernel
theorem zd_A_isIn_13 : decode zb_A_isIn 13 = .ok (.getfield 11, 3) := by decide +kernel
theorem zd_A_isIn_16 : decode zb_A_isIn 16 = .ok (.iload_n 1, 1) := by decide +kernel
theorem zd_A_isIn_17 : decode zb_A_isIn 17 = .ok (.aaload, 1) := by decide +kernel
theorem zd_A_isIn_18 : decode zb_A_isIn 18 = .ok (.getfield 111, 3) := by decide +kernel
theorem zd_A_isIn_21 : decode zb_A_isIn 21 = .ok (.iload_n 2, 1) := by decide +kernel
theorem zd_A_isIn_22 : decode zb_A_isIn 22 = .ok (.if_icmp .ne 7, 3) := by decide +kernel
theorem zd_A_isIn_25 : decode zb_A_isIn 25 = .ok (.iconst 1, 1) := by decide +kernel
theorem zd_A_isIn_26 : decode zb_A_isIn 26 = .ok (.goto 4, 3) := by decide +kernel
theorem zd_A_isIn_29 : decode zb_A_isIn 29 = .ok (.iconst 0, 1) := by decide +kernel
theorem zd_A_isIn_30 : decode zb_A_isIn 30 = .ok (.ireturn, 1) := by decide +kernel
theorem zd_A_isGroup_0 : decode zb_A_isGroup 0 = .ok (.aload_n 0, 1) := by decide +kernel
theorem zd_A_isGroup_1 : decode zb_A_isGroup 1 = .ok (.iload_n 1, 1) := by decide +kernel
theorem zd_A_isGroup_2 : decode zb_A_isGroup 2 = .ok (.iload_n 1, 1) := by decide +kernel
theorem zd_A_isGroup_3 : decode zb_A_isGroup 3 = .ok (.invokevirtual 244, 3) := by decide +kernel
theorem zd_A_isGroup_6 : decode zb_A_isGroup 6 = .ok (.ireturn, 1) := by decide +kernel
theorem zd_A_isPlanned_0 : decode zb_A_isPlanned 0 = .ok (.aload_n 0, 1) := by decide +kernel
theorem zd_A_isPlanned_1 : decode zb_A_isPlanned 1 = .ok (.getfield 102, 3) := by decide +kernel
theorem zd_A_isPlanned_4 : decode zb_A_isPlanned 4 = .ok (.ifCond .ne 15, 3) := by decide +kernel
theorem zd_A_isPlanned_7 : decode zb_A_isPlanned 7 = .ok (.aload_n 0, 1) := by decide +kernel
theorem zd_A_isPlanned_8 : decode zb_A_isPlanned 8 = .ok (.getfield 164, 3) := by decide +kernel
theorem zd_A_isPlanned_11 : decode zb_A_isPlanned 11 = .ok (.iconst (-1), 1) := by decide +kernel
theorem zd_A_isPlanned_12 : decode zb_A_isPlanned 12 = .ok (.if_icmp .eq 7, 3) := by decide +kernel
theorem zd_A_isPlanned_15 : decode zb_A_isPlanned 15 = .ok (.iconst 1, 1) := by decide +kernel
theorem zd_A_isPlanned_16 : decode zb_A_isPlanned 16 = .ok (.goto 4, 3) := by decide +kernel
theorem zd_A_isPlanned_19 : decode zb_A_isPlanned 19 = .ok (.iconst 0, 1) := by decide +kernel
theorem zd_A_isPlanned_20 : decode zb_A_isPlanned 20 = .ok (.ireturn, 1) := by decide +kernel
theorem zd_A_goesTo_0 : decode zb_A_goesTo 0 = .ok (.aload_n 1, 1) := by decide +kernel
theorem zd_A_goesTo_1 : decode zb_A_goesTo 1 = .ok (.invokestatic 181, 3) := by decide +kernel
theorem zd_A_goesTo_4 : decode zb_A_goesTo 4 = .ok (.ifCond .eq 23, 3) := by decide +kernel
theorem zd_A_goesTo_7 : decode zb_A_goesTo 7 = .ok (.aload_n 0, 1) := by decide +kernel
theorem zd_A_goesTo_8 : decode zb_A_goesTo 8 = .ok (.getfield 17, 3) := by decide +kernel
theorem zd_A_goesTo_11 : decode zb_A_goesTo 11 = .ok (.aload_n 1, 1) := by decide +kernel
theorem zd_A_goesTo_12 : decode zb_A_goesTo 12 = .ok (.getfield 164, 3) := by decide +kernel
theorem zd_A_goesTo_15 : decode zb_A_goesTo 15 = .ok (.aaload, 1) := by decide +kernel
theorem zd_A_goesTo_16 : decode zb_A_goesTo 16 = .ok (.getfield 229, 3) := by decide +kernel
theorem zd_A_goesTo_19 : decode zb_A_goesTo 19 = .ok (.iload_n 2, 1) := by decide +kernel
theorem zd_A_goesTo_20 : decode zb_A_goesTo 20 = .ok (.if_icmp .ne 7, 3) := by decide +kernel
theorem zd_A_goesTo_23 : decode zb_A_goesTo 23 = .ok (.iconst 1, 1) := by decide +kernel
theorem zd_A_goesTo_24 : decode zb_A_goesTo 24 = .ok (.goto 4, 3) := by decide +kernel
theorem zd_A_goesTo_27 : decode zb_A_goesTo 27 = .ok (.iconst 0, 1) := by decide +kernel
theorem zd_A_goesTo_28 : decode zb_A_goesTo 28 = .ok (.ireturn, 1) := by decide +kernel
theorem zd_A_groupCount_0 : decode zb_A_groupCount 0 = .ok (.iconst 0, 1) := by decide +kernel
theorem zd_A_groupCount_1 : decode zb_A_groupCount 1 = .ok (.istore_n 1, 1) := by decide +kernel
theorem zd_A_groupCount_2 : decode zb_A_groupCount 2 = .ok (.iconst 0, 1) := by decide +kernel
theorem zd_A_groupCount_3 : decode zb_A_groupCount 3 = .ok (.istore_n 2, 1) := by decide +kernel
theorem zd_A_groupCount_4 : decode zb_A_groupCount 4 = .ok (.iload_n 2, 1) := by decide +kernel
theorem zd_A_groupCount_5 : decode zb_A_groupCount 5 = .ok (.aload_n 0, 1) := by decide +kernel
theorem zd_A_groupCount_6 : decode zb_A_groupCount 6 = .ok (.getfield 60, 3) := by decide +kernel
theorem zd_A_groupCount_9 : decode zb_A_groupCount 9 = .ok (.if_icmp .ge 20, 3) := by decide +kernel
theorem zd_A_groupCount_12 : decode zb_A_groupCount 12 = .ok (.aload_n 0, 1) := by decide +kernel
theorem zd_A_groupCount_13 : decode zb_A_groupCount 13 = .ok (.iload_n 2, 1) := by decide +kernel
theorem zd_A_groupCount_14 : decode zb_A_groupCount 14 = .ok (.invokevirtual 167, 3) := by decide +kernel
theorem zd_A_groupCount_17 : decode zb_A_groupCount 17 = .ok (.ifCond .eq 6, 3) := by decide +kernel
theorem zd_A_groupCount_20 : decode zb_A_groupCount 20 = .ok (.iinc 1 1, 3) := by decide +kernel
theorem zd_A_groupCount_23 : decode zb_A_groupCount 23 = .ok (.iinc 2 1, 3) := by decide +kernel
theorem zd_A_groupCount_26 : decode zb_A_groupCount 26 = .ok (.goto (-22), 3) := by decide +kernel
theorem zd_A_groupCount_29 : decode zb_A_groupCount 29 = .ok (.iload_n 1, 1) := by decide +kernel
theorem zd_A_groupCount_30 : decode zb_A_groupCount 30 = .ok (.ireturn, 1) := by decide +kernel
theorem zd_A_doneCount_0 : decode zb_A_doneCount 0 = .ok (.iconst 0, 1) := by decide +kernel
theorem zd_A_doneCount_1 : decode zb_A_doneCount 1 = .ok (.istore_n 1, 1) := by decide +kernel
theorem zd_A_doneCount_2 : decode zb_A_doneCount 2 = .ok (.iconst 0, 1) := by decide +kernel
theorem zd_A_doneCount_3 : decode zb_A_doneCount 3 = .ok (.istore_n 2, 1) := by decide +kernel
theorem zd_A_doneCount_4 : decode zb_A_doneCount 4 = .ok (.iload_n 2, 1) := by decide +kernel
theorem zd_A_doneCount_5 : decode zb_A_doneCount 5 = .ok (.aload_n 0, 1) := by decide +kernel
theorem zd_A_doneCount_6 : decode zb_A_doneCount 6 = .ok (.getfield 60, 3) := by decide +kernel
theorem zd_A_doneCount_9 : decode zb_A_doneCount 9 = .ok (.if_icmp .ge 24, 3) := by decide +kernel
theorem zd_A_doneCount_12 : decode zb_A_doneCount 12 = .ok (.aload_n 0, 1) := by decide +kernel
theorem zd_A_doneCount_13 : decode zb_A_doneCount 13 = .ok (.getfield 11, 3) := by decide +kernel
theorem zd_A_doneCount_16 : decode zb_A_doneCount 16 = .ok (.iload_n 2, 1) := by decide +kernel
theorem zd_A_doneCount_17 : decode zb_A_doneCount 17 = .ok (.aaload, 1) := by decide +kernel
theorem zd_A_doneCount_18 : decode zb_A_doneCount 18 = .ok (.getfield 102, 3) := by decide +kernel
theorem zd_A_doneCount_21 : decode zb_A_doneCount 21 = .ok (.ifCond .eq 6, 3) := by decide +kernel
theorem zd_A_doneCount_24 : decode zb_A_doneCount 24 = .ok (.iinc 1 1, 3) := by decide +kernel
theorem zd_A_doneCount_27 : decode zb_A_doneCount 27 = .ok (.iinc 2 1, 3) := by decide +kernel
theorem zd_A_doneCount_30 : decode zb_A_doneCount 30 = .ok (.goto (-26), 3) := by decide +kernel
theorem zd_A_doneCount_33 : decode zb_A_doneCount 33 = .ok (.iload_n 1, 1) := by decide +kernel
theorem zd_A_doneCount_34 : decode zb_A_doneCount 34 = .ok (.ireturn, 1) := by decide +kernel
theorem zd_A_gather_0 : decode zb_A_gather 0 = .ok (.aload_n 0, 1) := by decide +kernel
theorem zd_A_gather_1 : decode zb_A_gather 1 = .ok (.getfield 28, 3) := by decide +kernel
theorem zd_A_gather_4 : decode zb_A_gather 4 = .ok (.iload_n 1, 1) := by decide +kernel
theorem zd_A_gather_5 : decode zb_A_gather 5 = .ok (.invokevirtual 248, 3) := by decide +kernel
theorem zd_A_gather_8 : decode zb_A_gather 8 = .ok (.iconst 0, 1) := by decide +kernel
theorem zd_A_gather_9 : decode zb_A_gather 9 = .ok (.istore_n 2, 1) := by decide +kernel
theorem zd_A_gather_10 : decode zb_A_gather 10 = .ok (.iload_n 2, 1) := by decide +kernel
theorem zd_A_gather_11 : decode zb_A_gather 11 = .ok (.aload_n 0, 1) := by decide +kernel
theorem zd_A_gather_12 : decode zb_A_gather 12 = .ok (.getfield 60, 3) := by decide +kernel
theorem zd_A_gather_15 : decode zb_A_gather 15 = .ok (.if_icmp .ge 45, 3) := by decide +kernel
theorem zd_A_gather_18 : decode zb_A_gather 18 = .ok (.aload_n 0, 1) := by decide +kernel
theorem zd_A_gather_19 : decode zb_A_gather 19 = .ok (.iload_n 2, 1) := by decide +kernel
theorem zd_A_gather_20 : decode zb_A_gather 20 = .ok (.iload_n 1, 1) := by decide +kernel
theorem zd_A_gather_21 : decode zb_A_gather 21 = .ok (.invokevirtual 244, 3) := by decide +kernel
theorem zd_A_gather_24 : decode zb_A_gather 24 = .ok (.ifCond .eq 30, 3) := by decide +kernel
theorem zd_A_gather_27 : decode zb_A_gather 27 = .ok (.aload_n 0, 1) := by decide +kernel
theorem zd_A_gather_28 : decode zb_A_gather 28 = .ok (.getfield 28, 3) := by decide +kernel
theorem zd_A_gather_31 : decode zb_A_gather 31 = .ok (.aload_n 0, 1) := by decide +kernel
theorem zd_A_gather_32 : decode zb_A_gather 32 = .ok (.getfield 11, 3) := by decide +kernel
theorem zd_A_gather_35 : decode zb_A_gather 35 = .ok (.iload_n 2, 1) := by decide +kernel
theorem zd_A_gather_36 : decode zb_A_gather 36 = .ok (.aaload, 1) := by decide +kernel
theorem zd_A_gather_37 : decode zb_A_gather 37 = .ok (.aload_n 0, 1) := by decide +kernel
theorem zd_A_gather_38 : decode zb_A_gather 38 = .ok (.getfield 21, 3) := by decide +kernel
theorem zd_A_gather_41 : decode zb_A_gather 41 = .ok (.aload_n 0, 1) := by decide +kernel
theorem zd_A_gather_42 : decode zb_A_gather 42 = .ok (.getfield 11, 3) := by decide +kernel
theorem zd_A_gather_45 : decode zb_A_gather 45 = .ok (.iload_n 2, 1) := by decide +kernel
theorem zd_A_gather_46 : decode zb_A_gather 46 = .ok (.aaload, 1) := by decide +kernel
theorem zd_A_gather_47 : decode zb_A_gather 47 = .ok (.getfield 251, 3) := by decide +kernel
theorem zd_A_gather_50 : decode zb_A_gather 50 = .ok (.iaload, 1) := by decide +kernel
theorem zd_A_gather_51 : decode zb_A_gather 51 = .ok (.invokevirtual 254, 3) := by decide +kernel
theorem zd_A_gather_54 : decode zb_A_gather 54 = .ok (.iinc 2 1, 3) := by decide +kernel
theorem zd_A_gather_57 : decode zb_A_gather 57 = .ok (.goto (-47), 3) := by decide +kernel
theorem zd_A_gather_60 : decode zb_A_gather 60 = .ok (.aload_n 0, 1) := by decide +kernel
theorem zd_A_gather_61 : decode zb_A_gather 61 = .ok (.getfield 28, 3) := by decide +kernel
theorem zd_A_gather_64 : decode zb_A_gather 64 = .ok (.areturn, 1) := by decide +kernel
theorem zd_A_join_0 : decode zb_A_join 0 = .ok (.iconst 0, 1) := by decide +kernel
theorem zd_A_join_1 : decode zb_A_join 1 = .ok (.istore_n 3, 1) := by decide +kernel
theorem zd_A_join_2 : decode zb_A_join 2 = .ok (.iload_n 3, 1) := by decide +kernel
theorem zd_A_join_3 : decode zb_A_join 3 = .ok (.aload_n 0, 1) := by decide +kernel
theorem zd_A_join_4 : decode zb_A_join 4 = .ok (.getfield 60, 3) := by decide +kernel
theorem zd_A_join_7 : decode zb_A_join 7 = .ok (.if_icmp .ge 28, 3) := by decide +kernel
theorem zd_A_join_10 : decode zb_A_join 10 = .ok (.aload_n 0, 1) := by decide +kernel
theorem zd_A_join_11 : decode zb_A_join 11 = .ok (.iload_n 3, 1) := by decide +kernel
theorem zd_A_join_12 : decode zb_A_join 12 = .ok (.iload_n 2, 1) := by decide +kernel
theorem zd_A_join_13 : decode zb_A_join 13 = .ok (.invokevirtual 244, 3) := by decide +kernel
theorem zd_A_join_16 : decode zb_A_join 16 = .ok (.ifCond .eq 13, 3) := by decide +kernel
theorem zd_A_join_19 : decode zb_A_join 19 = .ok (.aload_n 0, 1) := by decide +kernel
theorem zd_A_join_20 : decode zb_A_join 20 = .ok (.getfield 11, 3) := by decide +kernel
theorem zd_A_join_23 : decode zb_A_join 23 = .ok (.iload_n 3, 1) := by decide +kernel
theorem zd_A_join_24 : decode zb_A_join 24 = .ok (.aaload, 1) := by decide +kernel
theorem zd_A_join_25 : decode zb_A_join 25 = .ok (.iload_n 1, 1) := by decide +kernel
theorem zd_A_join_26 : decode zb_A_join 26 = .ok (.putfield 111, 3) := by decide +kernel
theorem zd_A_join_29 : decode zb_A_join 29 = .ok (.iinc 3 1, 3) := by decide +kernel
theorem zd_A_join_32 : decode zb_A_join 32 = .ok (.goto (-30), 3) := by decide +kernel
theorem zd_A_join_35 : decode zb_A_join 35 = .ok (.return_, 1) := by decide +kernel
theorem zd_A_planFor_0 : decode zb_A_planFor 0 = .ok (.iconst 0, 1) := by decide +kernel
theorem zd_A_planFor_1 : decode zb_A_planFor 1 = .ok (.istore_n 3, 1) := by decide +kernel
theorem zd_A_planFor_2 : decode zb_A_planFor 2 = .ok (.iload_n 3, 1) := by decide +kernel
theorem zd_A_planFor_3 : decode zb_A_planFor 3 = .ok (.aload_n 0, 1) := by decide +kernel
theorem zd_A_planFor_4 : decode zb_A_planFor 4 = .ok (.getfield 60, 3) := by decide +kernel
theorem zd_A_planFor_7 : decode zb_A_planFor 7 = .ok (.if_icmp .ge 28, 3) := by decide +kernel
theorem zd_A_planFor_10 : decode zb_A_planFor 10 = .ok (.aload_n 0, 1) := by decide +kernel
theorem zd_A_planFor_11 : decode zb_A_planFor 11 = .ok (.iload_n 3, 1) := by decide +kernel
theorem zd_A_planFor_12 : decode zb_A_planFor 12 = .ok (.iload_n 1, 1) := by decide +kernel
theorem zd_A_planFor_13 : decode zb_A_planFor 13 = .ok (.invokevirtual 244, 3) := by decide +kernel
theorem zd_A_planFor_16 : decode zb_A_planFor 16 = .ok (.ifCond .eq 13, 3) := by decide +kernel
theorem zd_A_planFor_19 : decode zb_A_planFor 19 = .ok (.aload_n 0, 1) := by decide +kernel
theorem zd_A_planFor_20 : decode zb_A_planFor 20 = .ok (.getfield 11, 3) := by decide +kernel
theorem zd_A_planFor_23 : decode zb_A_planFor 23 = .ok (.iload_n 3, 1) := by decide +kernel
theorem zd_A_planFor_24 : decode zb_A_planFor 24 = .ok (.aaload, 1) := by decide +kernel
theorem zd_A_planFor_25 : decode zb_A_planFor 25 = .ok (.iload_n 2, 1) := by decide +kernel
theorem zd_A_planFor_26 : decode zb_A_planFor 26 = .ok (.putfield 164, 3) := by decide +kernel
theorem zd_A_planFor_29 : decode zb_A_planFor 29 = .ok (.iinc 3 1, 3) := by decide +kernel
theorem zd_A_planFor_32 : decode zb_A_planFor 32 = .ok (.goto (-30), 3) := by decide +kernel
theorem zd_A_planFor_35 : decode zb_A_planFor 35 = .ok (.return_, 1) := by decide +kernel
theorem zd_A_finish_0 : decode zb_A_finish 0 = .ok (.iconst 0, 1) := by decide +kernel
theorem zd_A_finish_1 : decode zb_A_finish 1 = .ok (.istore_n 2, 1) := by decide +kernel
theorem zd_A_finish_2 : decode zb_A_finish 2 = .ok (.iload_n 2, 1) := by decide +kernel
theorem zd_A_finish_3 : decode zb_A_finish 3 = .ok (.aload_n 0, 1) := by decide +kernel
theorem zd_A_finish_4 : decode zb_A_finish 4 = .ok (.getfield 60, 3) := by decide +kernel
theorem zd_A_finish_7 : decode zb_A_finish 7 = .ok (.if_icmp .ge 28, 3) := by decide +kernel
theorem zd_A_finish_10 : decode zb_A_finish 10 = .ok (.aload_n 0, 1) := by decide +kernel
theorem zd_A_finish_11 : decode zb_A_finish 11 = .ok (.iload_n 2, 1) := by decide +kernel
theorem zd_A_finish_12 : decode zb_A_finish 12 = .ok (.iload_n 1, 1) := by decide +kernel
theorem zd_A_finish_13 : decode zb_A_finish 13 = .ok (.invokevirtual 244, 3) := by decide +kernel
theorem zd_A_finish_16 : decode zb_A_finish 16 = .ok (.ifCond .eq 13, 3) := by decide +kernel
theorem zd_A_finish_19 : decode zb_A_finish 19 = .ok (.aload_n 0, 1) := by decide +kernel
theorem zd_A_finish_20 : decode zb_A_finish 20 = .ok (.getfield 11, 3) := by decide +kernel
theorem zd_A_finish_23 : decode zb_A_finish 23 = .ok (.iload_n 2, 1) := by decide +kernel
theorem zd_A_finish_24 : decode zb_A_finish 24 = .ok (.aaload, 1) := by decide +kernel
theorem zd_A_finish_25 : decode zb_A_finish 25 = .ok (.iconst 1, 1) := by decide +kernel
theorem zd_A_finish_26 : decode zb_A_finish 26 = .ok (.putfield 102, 3) := by decide +kernel
theorem zd_A_finish_29 : decode zb_A_finish 29 = .ok (.iinc 2 1, 3) := by decide +kernel
theorem zd_A_finish_32 : decode zb_A_finish 32 = .ok (.goto (-30), 3) := by decide +kernel
theorem zd_A_finish_35 : decode zb_A_finish 35 = .ok (.return_, 1) := by decide +kernel
theorem zd_A_groupPlannedFor_0 : decode zb_A_groupPlannedFor 0 = .ok (.iconst 0, 1) := by decide +kernel
theorem zd_A_groupPlannedFor_1 : decode zb_A_groupPlannedFor 1 = .ok (.istore_n 2, 1) := by decide +kernel
theorem zd_A_groupPlannedFor_2 : decode zb_A_groupPlannedFor 2 = .ok (.iload_n 2, 1) := by decide +kernel
theorem zd_A_groupPlannedFor_3 : decode zb_A_groupPlannedFor 3 = .ok (.aload_n 0, 1) := by decide +kernel
theorem zd_A_groupPlannedFor_4 : decode zb_A_groupPlannedFor 4 = .ok (.getfield 60, 3) := by decide +kernel
theorem zd_A_groupPlannedFor_7 : decode zb_A_groupPlannedFor 7 = .ok (.if_icmp .ge 32, 3) := by decide +kernel
theorem zd_A_groupPlannedFor_10 : decode zb_A_groupPlannedFor 10 = .ok (.aload_n 0, 1) := by decide +kernel
theorem zd_A_groupPlannedFor_11 : decode zb_A_groupPlannedFor 11 = .ok (.iload_n 2, 1) := by decide +kernel
theorem zd_A_groupPlannedFor_12 : decode zb_A_groupPlannedFor 12 = .ok (.invokevirtual 167, 3) := by decide +kernel
theorem zd_A_groupPlannedFor_15 : decode zb_A_groupPlannedFor 15 = .ok (.ifCond .eq 18, 3) := by decide +kernel
theorem zd_A_groupPlannedFor_18 : decode zb_A_groupPlannedFor 18 = .ok (.aload_n 0, 1) := by decide +kernel
theorem zd_A_groupPlannedFor_19 : decode zb_A_groupPlannedFor 19 = .ok (.getfield 11, 3) := by decide +kernel
theorem zd_A_groupPlannedFor_22 : decode zb_A_groupPlannedFor 22 = .ok (.iload_n 2, 1) := by decide +kernel
theorem zd_A_groupPlannedFor_23 : decode zb_A_groupPlannedFor 23 = .ok (.aaload, 1) := by decide +kernel
theorem zd_A_groupPlannedFor_24 : decode zb_A_groupPlannedFor 24 = .ok (.getfield 164, 3) := by decide +kernel
theorem zd_A_groupPlannedFor_27 : decode zb_A_groupPlannedFor 27 = .ok (.iload_n 1, 1) := by decide +kernel
theorem zd_A_groupPlannedFor_28 : decode zb_A_groupPlannedFor 28 = .ok (.if_icmp .ne 5, 3) := by decide +kernel
theorem zd_A_groupPlannedFor_31 : decode zb_A_groupPlannedFor 31 = .ok (.iload_n 2, 1) := by decide +kernel
theorem zd_A_groupPlannedFor_32 : decode zb_A_groupPlannedFor 32 = .ok (.ireturn, 1) := by decide +kernel
theorem zd_A_groupPlannedFor_33 : decode zb_A_groupPlannedFor 33 = .ok (.iinc 2 1, 3) := by decide +kernel
theorem zd_A_groupPlannedFor_36 : decode zb_A_groupPlannedFor 36 = .ok (.goto (-34), 3) := by decide +kernel
theorem zd_A_groupPlannedFor_39 : decode zb_A_groupPlannedFor 39 = .ok (.iconst (-1), 1) := by decide +kernel
theorem zd_A_groupPlannedFor_40 : decode zb_A_groupPlannedFor 40 = .ok (.ireturn, 1) := by decide +kernel
theorem zd_A_plannedPlaces_0 : decode zb_A_plannedPlaces 0 = .ok (.iconst 0, 1) := by decide +kernel
theorem zd_A_plannedPlaces_1 : decode zb_A_plannedPlaces 1 = .ok (.istore_n 1, 1) := by decide +kernel
theorem zd_A_plannedPlaces_2 : decode zb_A_plannedPlaces 2 = .ok (.iconst 0, 1) := by decide +kernel
theorem zd_A_plannedPlaces_3 : decode zb_A_plannedPlaces 3 = .ok (.istore_n 2, 1) := by decide +kernel
theorem zd_A_plannedPlaces_4 : decode zb_A_plannedPlaces 4 = .ok (.iload_n 2, 1) := by decide +kernel
theorem zd_A_plannedPlaces_5 : decode zb_A_plannedPlaces 5 = .ok (.aload_n 0, 1) := by decide +kernel
theorem zd_A_plannedPlaces_6 : decode zb_A_plannedPlaces 6 = .ok (.getfield 60, 3) := by decide +kernel
theorem zd_A_plannedPlaces_9 : decode zb_A_plannedPlaces 9 = .ok (.if_icmp .ge 35, 3) := by decide +kernel
theorem zd_A_plannedPlaces_12 : decode zb_A_plannedPlaces 12 = .ok (.aload_n 0, 1) := by decide +kernel
theorem zd_A_plannedPlaces_13 : decode zb_A_plannedPlaces 13 = .ok (.getfield 11, 3) := by decide +kernel
theorem zd_A_plannedPlaces_16 : decode zb_A_plannedPlaces 16 = .ok (.iload_n 2, 1) := by decide +kernel
theorem zd_A_plannedPlaces_17 : decode zb_A_plannedPlaces 17 = .ok (.aaload, 1) := by decide +kernel
theorem zd_A_plannedPlaces_18 : decode zb_A_plannedPlaces 18 = .ok (.invokestatic 181, 3) := by decide +kernel
theorem zd_A_plannedPlaces_21 : decode zb_A_plannedPlaces 21 = .ok (.ifCond .eq 17, 3) := by decide +kernel
theorem zd_A_plannedPlaces_24 : decode zb_A_plannedPlaces 24 = .ok (.iload_n 1, 1) := by decide +kernel
theorem zd_A_plannedPlaces_25 : decode zb_A_plannedPlaces 25 = .ok (.iconst 1, 1) := by decide +kernel
theorem zd_A_plannedPlaces_26 : decode zb_A_plannedPlaces 26 = .ok (.aload_n 0, 1) := by decide +kernel
theorem zd_A_plannedPlaces_27 : decode zb_A_plannedPlaces 27 = .ok (.getfield 11, 3) := by decide +kernel
theorem zd_A_plannedPlaces_30 : decode zb_A_plannedPlaces 30 = .ok (.iload_n 2, 1) := by decide +kernel
theorem zd_A_plannedPlaces_31 : decode zb_A_plannedPlaces 31 = .ok (.aaload, 1) := by decide +kernel
theorem zd_A_plannedPlaces_32 : decode zb_A_plannedPlaces 32 = .ok (.getfield 164, 3) := by decide +kernel
theorem zd_A_plannedPlaces_35 : decode zb_A_plannedPlaces 35 = .ok (.ishl, 1) := by decide +kernel
theorem zd_A_plannedPlaces_36 : decode zb_A_plannedPlaces 36 = .ok (.ior, 1) := by decide +kernel
theorem zd_A_plannedPlaces_37 : decode zb_A_plannedPlaces 37 = .ok (.istore_n 1, 1) := by decide +kernel
theorem zd_A_plannedPlaces_38 : decode zb_A_plannedPlaces 38 = .ok (.iinc 2 1, 3) := by decide +kernel
theorem zd_A_plannedPlaces_41 : decode zb_A_plannedPlaces 41 = .ok (.goto (-37), 3) := by decide +kernel
theorem zd_A_plannedPlaces_44 : decode zb_A_plannedPlaces 44 = .ok (.iload_n 1, 1) := by decide +kernel
theorem zd_A_plannedPlaces_45 : decode zb_A_plannedPlaces 45 = .ok (.ireturn, 1) := by decide +kernel
theorem zd_A_plannedCosts_0 : decode zb_A_plannedCosts 0 = .ok (.iconst 0, 1) := by decide +kernel
theorem zd_A_plannedCosts_1 : decode zb_A_plannedCosts 1 = .ok (.istore_n 1, 1) := by decide +kernel
theorem zd_A_plannedCosts_2 : decode zb_A_plannedCosts 2 = .ok (.iconst 0, 1) := by decide +kernel
theorem zd_A_plannedCosts_3 : decode zb_A_plannedCosts 3 = .ok (.istore_n 2, 1) := by decide +kernel
theorem zd_A_plannedCosts_4 : decode zb_A_plannedCosts 4 = .ok (.iload_n 2, 1) := by decide +kernel
theorem zd_A_plannedCosts_5 : decode zb_A_plannedCosts 5 = .ok (.aload_n 0, 1) := by decide +kernel
theorem zd_A_plannedCosts_6 : decode zb_A_plannedCosts 6 = .ok (.getfield 60, 3) := by decide +kernel
theorem zd_A_plannedCosts_9 : decode zb_A_plannedCosts 9 = .ok (.if_icmp .ge 50, 3) := by decide +kernel
theorem zd_A_plannedCosts_12 : decode zb_A_plannedCosts 12 = .ok (.aload_n 0, 1) := by decide +kernel
theorem zd_A_plannedCosts_13 : decode zb_A_plannedCosts 13 = .ok (.iload_n 2, 1) := by decide +kernel
theorem zd_A_plannedCosts_14 : decode zb_A_plannedCosts 14 = .ok (.invokevirtual 167, 3) := by decide +kernel
theorem zd_A_plannedCosts_17 : decode zb_A_plannedCosts 17 = .ok (.ifCond .eq 36, 3) := by decide +kernel
theorem zd_A_plannedCosts_20 : decode zb_A_plannedCosts 20 = .ok (.aload_n 0, 1) := by decide +kernel
theorem zd_A_plannedCosts_21 : decode zb_A_plannedCosts 21 = .ok (.getfield 11, 3) := by decide +kernel
theorem zd_A_plannedCosts_24 : decode zb_A_plannedCosts 24 = .ok (.iload_n 2, 1) := by decide +kernel
theorem zd_A_plannedCosts_25 : decode zb_A_plannedCosts 25 = .ok (.aaload, 1) := by decide +kernel
theorem zd_A_plannedCosts_26 : decode zb_A_plannedCosts 26 = .ok (.invokestatic 181, 3) := by decide +kernel
theorem zd_A_plannedCosts_29 : decode zb_A_plannedCosts 29 = .ok (.ifCond .eq 24, 3) := by decide +kernel
theorem zd_A_plannedCosts_32 : decode zb_A_plannedCosts 32 = .ok (.iload_n 1, 1) := by decide +kernel
theorem zd_A_plannedCosts_33 : decode zb_A_plannedCosts 33 = .ok (.aload_n 0, 1) := by decide +kernel
theorem zd_A_plannedCosts_34 : decode zb_A_plannedCosts 34 = .ok (.aload_n 0, 1) := by decide +kernel
theorem zd_A_plannedCosts_35 : decode zb_A_plannedCosts 35 = .ok (.iload_n 2, 1) := by decide +kernel
theorem zd_A_plannedCosts_36 : decode zb_A_plannedCosts 36 = .ok (.invokevirtual 132, 3) := by decide +kernel
theorem zd_A_plannedCosts_39 : decode zb_A_plannedCosts 39 = .ok (.aload_n 0, 1) := by decide +kernel
theorem zd_A_plannedCosts_40 : decode zb_A_plannedCosts 40 = .ok (.getfield 11, 3) := by decide +kernel
theorem zd_A_plannedCosts_43 : decode zb_A_plannedCosts 43 = .ok (.iload_n 2, 1) := by decide +kernel
theorem zd_A_plannedCosts_44 : decode zb_A_plannedCosts 44 = .ok (.aaload, 1) := by decide +kernel
theorem zd_A_plannedCosts_45 : decode zb_A_plannedCosts 45 = .ok (.getfield 164, 3) := by decide +kernel
theorem zd_A_plannedCosts_48 : decode zb_A_plannedCosts 48 = .ok (.invokevirtual 175, 3) := by decide +kernel
theorem zd_A_plannedCosts_51 : decode zb_A_plannedCosts 51 = .ok (.iadd, 1) := by decide +kernel
theorem zd_A_plannedCosts_52 : decode zb_A_plannedCosts 52 = .ok (.istore_n 1, 1) := by decide +kernel
theorem zd_A_plannedCosts_53 : decode zb_A_plannedCosts 53 = .ok (.iinc 2 1, 3) := by decide +kernel
theorem zd_A_plannedCosts_56 : decode zb_A_plannedCosts 56 = .ok (.goto (-52), 3) := by decide +kernel
theorem zd_A_plannedCosts_59 : decode zb_A_plannedCosts 59 = .ok (.iload_n 1, 1) := by decide +kernel
theorem zd_A_plannedCosts_60 : decode zb_A_plannedCosts 60 = .ok (.ireturn, 1) := by decide +kernel
theorem zd_A_brokenRule_0 : decode zb_A_brokenRule 0 = .ok (.aload_n 0, 1) := by decide +kernel
theorem zd_A_brokenRule_1 : decode zb_A_brokenRule 1 = .ok (.getfield 17, 3) := by decide +kernel
theorem zd_A_brokenRule_4 : decode zb_A_brokenRule 4 = .ok (.iload_n 2, 1) := by decide +kernel
theorem zd_A_brokenRule_5 : decode zb_A_brokenRule 5 = .ok (.aaload, 1) := by decide +kernel
theorem zd_A_brokenRule_6 : decode zb_A_brokenRule 6 = .ok (.astore_n 3, 1) := by decide +kernel
theorem zd_A_brokenRule_7 : decode zb_A_brokenRule 7 = .ok (.aload_n 3, 1) := by decide +kernel
theorem zd_A_brokenRule_8 : decode zb_A_brokenRule 8 = .ok (.getfield 202, 3) := by decide +kernel
theorem zd_A_brokenRule_11 : decode zb_A_brokenRule 11 = .ok (.ifCond .eq 5, 3) := by decide +kernel
theorem zd_A_brokenRule_14 : decode zb_A_brokenRule 14 = .ok (.iconst 1, 1) := by decide +kernel
theorem zd_A_brokenRule_15 : decode zb_A_brokenRule 15 = .ok (.ireturn, 1) := by decide +kernel
theorem zd_A_brokenRule_16 : decode zb_A_brokenRule 16 = .ok (.aload_n 1, 1) := by decide +kernel
theorem zd_A_brokenRule_17 : decode zb_A_brokenRule 17 = .ok (.getfield 258, 3) := by decide +kernel
theorem zd_A_brokenRule_20 : decode zb_A_brokenRule 20 = .ok (.aload_n 3, 1) := by decide +kernel
theorem zd_A_brokenRule_21 : decode zb_A_brokenRule 21 = .ok (.getfield 261, 3) := by decide +kernel
theorem zd_A_brokenRule_24 : decode zb_A_brokenRule 24 = .ok (.iconst (-1), 1) := by decide +kernel
theorem zd_A_brokenRule_25 : decode zb_A_brokenRule 25 = .ok (.ixor, 1) := by decide +kernel
theorem zd_A_brokenRule_26 : decode zb_A_brokenRule 26 = .ok (.iand, 1) := by decide +kernel
theorem zd_A_brokenRule_27 : decode zb_A_brokenRule 27 = .ok (.ifCond .eq 5, 3) := by decide +kernel
theorem zd_A_brokenRule_30 : decode zb_A_brokenRule 30 = .ok (.iconst 2, 1) := by decide +kernel
theorem zd_A_brokenRule_31 : decode zb_A_brokenRule 31 = .ok (.ireturn, 1) := by decide +kernel
theorem zd_A_brokenRule_32 : decode zb_A_brokenRule 32 = .ok (.aload_n 1, 1) := by decide +kernel
theorem zd_A_brokenRule_33 : decode zb_A_brokenRule 33 = .ok (.getfield 262, 3) := by decide +kernel
theorem zd_A_brokenRule_36 : decode zb_A_brokenRule 36 = .ok (.iload_n 2, 1) := by decide +kernel
theorem zd_A_brokenRule_37 : decode zb_A_brokenRule 37 = .ok (.ishr, 1) := by decide +kernel
theorem zd_A_brokenRule_38 : decode zb_A_brokenRule 38 = .ok (.iconst 1, 1) := by decide +kernel
theorem zd_A_brokenRule_39 : decode zb_A_brokenRule 39 = .ok (.iand, 1) := by decide +kernel
theorem zd_A_brokenRule_40 : decode zb_A_brokenRule 40 = .ok (.ifCond .eq 5, 3) := by decide +kernel
theorem zd_A_brokenRule_43 : decode zb_A_brokenRule 43 = .ok (.iconst 3, 1) := by decide +kernel
theorem zd_A_brokenRule_44 : decode zb_A_brokenRule 44 = .ok (.ireturn, 1) := by decide +kernel
theorem zd_A_brokenRule_45 : decode zb_A_brokenRule 45 = .ok (.aload_n 1, 1) := by decide +kernel
theorem zd_A_brokenRule_46 : decode zb_A_brokenRule 46 = .ok (.getfield 192, 3) := by decide +kernel
theorem zd_A_brokenRule_49 : decode zb_A_brokenRule 49 = .ok (.aload_n 3, 1) := by decide +kernel
theorem zd_A_brokenRule_50 : decode zb_A_brokenRule 50 = .ok (.getfield 189, 3) := by decide +kernel
theorem zd_A_brokenRule_53 : decode zb_A_brokenRule 53 = .ok (.if_icmp .le 5, 3) := by decide +kernel
theorem zd_A_brokenRule_56 : decode zb_A_brokenRule 56 = .ok (.iconst 4, 1) := by decide +kernel
theorem zd_A_brokenRule_57 : decode zb_A_brokenRule 57 = .ok (.ireturn, 1) := by decide +kernel
theorem zd_A_brokenRule_58 : decode zb_A_brokenRule 58 = .ok (.aload_n 1, 1) := by decide +kernel
theorem zd_A_brokenRule_59 : decode zb_A_brokenRule 59 = .ok (.getfield 263, 3) := by decide +kernel
theorem zd_A_brokenRule_62 : decode zb_A_brokenRule 62 = .ok (.iconst (-1), 1) := by decide +kernel
theorem zd_A_brokenRule_63 : decode zb_A_brokenRule 63 = .ok (.if_icmp .eq 13, 3) := by decide +kernel
theorem zd_A_brokenRule_66 : decode zb_A_brokenRule 66 = .ok (.aload_n 1, 1) := by decide +kernel
theorem zd_A_brokenRule_67 : decode zb_A_brokenRule 67 = .ok (.getfield 263, 3) := by decide +kernel
theorem zd_A_brokenRule_70 : decode zb_A_brokenRule 70 = .ok (.iload_n 2, 1) := by decide +kernel
theorem zd_A_brokenRule_71 : decode zb_A_brokenRule 71 = .ok (.if_icmp .eq 5, 3) := by decide +kernel
theorem zd_A_brokenRule_74 : decode zb_A_brokenRule 74 = .ok (.iconst 5, 1) := by decide +kernel
theorem zd_A_brokenRule_75 : decode zb_A_brokenRule 75 = .ok (.ireturn, 1) := by decide +kernel
theorem zd_A_brokenRule_76 : decode zb_A_brokenRule 76 = .ok (.iconst 0, 1) := by decide +kernel
theorem zd_A_brokenRule_77 : decode zb_A_brokenRule 77 = .ok (.ireturn, 1) := by decide +kernel
theorem zd_A_costAt_0 : decode zb_A_costAt 0 = .ok (.aload_n 0, 1) := by decide +kernel
theorem zd_A_costAt_1 : decode zb_A_costAt 1 = .ok (.getfield 11, 3) := by decide +kernel
theorem zd_A_costAt_4 : decode zb_A_costAt 4 = .ok (.aload_n 1, 1) := by decide +kernel
theorem zd_A_costAt_5 : decode zb_A_costAt 5 = .ok (.getfield 195, 3) := by decide +kernel
theorem zd_A_costAt_8 : decode zb_A_costAt 8 = .ok (.aaload, 1) := by decide +kernel
theorem zd_A_costAt_9 : decode zb_A_costAt 9 = .ok (.getfield 99, 3) := by decide +kernel
theorem zd_A_costAt_12 : decode zb_A_costAt 12 = .ok (.iload_n 2, 1) := by decide +kernel
theorem zd_A_costAt_13 : decode zb_A_costAt 13 = .ok (.iaload, 1) := by decide +kernel
theorem zd_A_costAt_14 : decode zb_A_costAt 14 = .ok (.istore_n 3, 1) := by decide +kernel
theorem zd_A_costAt_15 : decode zb_A_costAt 15 = .ok (.iload_n 3, 1) := by decide +kernel
theorem zd_A_costAt_16 : decode zb_A_costAt 16 = .ok (.iconst (-1), 1) := by decide +kernel
theorem zd_A_costAt_17 : decode zb_A_costAt 17 = .ok (.if_icmp .eq 5, 3) := by decide +kernel
theorem zd_A_costAt_20 : decode zb_A_costAt 20 = .ok (.iload_n 3, 1) := by decide +kernel
theorem zd_A_costAt_21 : decode zb_A_costAt 21 = .ok (.ireturn, 1) := by decide +kernel
theorem zd_A_costAt_22 : decode zb_A_costAt 22 = .ok (.aload_n 0, 1) := by decide +kernel
theorem zd_A_costAt_23 : decode zb_A_costAt 23 = .ok (.getfield 17, 3) := by decide +kernel
theorem zd_A_costAt_26 : decode zb_A_costAt 26 = .ok (.iload_n 2, 1) := by decide +kernel
theorem zd_A_costAt_27 : decode zb_A_costAt 27 = .ok (.aaload, 1) := by decide +kernel
theorem zd_A_costAt_28 : decode zb_A_costAt 28 = .ok (.getfield 264, 3) := by decide +kernel
theorem zd_A_costAt_31 : decode zb_A_costAt 31 = .ok (.aload_n 1, 1) := by decide +kernel
theorem zd_A_costAt_32 : decode zb_A_costAt 32 = .ok (.getfield 267, 3) := by decide +kernel
theorem zd_A_costAt_35 : decode zb_A_costAt 35 = .ok (.imul, 1) := by decide +kernel
theorem zd_A_costAt_36 : decode zb_A_costAt 36 = .ok (.aload_n 0, 1) := by decide +kernel
theorem zd_A_costAt_37 : decode zb_A_costAt 37 = .ok (.getfield 17, 3) := by decide +kernel
theorem zd_A_costAt_40 : decode zb_A_costAt 40 = .ok (.iload_n 2, 1) := by decide +kernel
theorem zd_A_costAt_41 : decode zb_A_costAt 41 = .ok (.aaload, 1) := by decide +kernel
theorem zd_A_costAt_42 : decode zb_A_costAt 42 = .ok (.getfield 189, 3) := by decide +kernel
theorem zd_A_costAt_45 : decode zb_A_costAt 45 = .ok (.iadd, 1) := by decide +kernel
theorem zd_A_costAt_46 : decode zb_A_costAt 46 = .ok (.aload_n 1, 1) := by decide +kernel
theorem zd_A_costAt_47 : decode zb_A_costAt 47 = .ok (.getfield 192, 3) := by decide +kernel
theorem zd_A_costAt_50 : decode zb_A_costAt 50 = .ok (.isub, 1) := by decide +kernel
theorem zd_A_costAt_51 : decode zb_A_costAt 51 = .ok (.ireturn, 1) := by decide +kernel
theorem zd_A_cheapestPlace_0 : decode zb_A_cheapestPlace 0 = .ok (.iconst (-1), 1) := by decide +kernel
theorem zd_A_cheapestPlace_1 : decode zb_A_cheapestPlace 1 = .ok (.istore_n 3, 1) := by decide +kernel
theorem zd_A_cheapestPlace_2 : decode zb_A_cheapestPlace 2 = .ok (.iconst 0, 1) := by decide +kernel
theorem zd_A_cheapestPlace_3 : decode zb_A_cheapestPlace 3 = .ok (.istore 4, 2) := by decide +kernel
theorem zd_A_cheapestPlace_5 : decode zb_A_cheapestPlace 5 = .ok (.iconst 0, 1) := by decide +kernel
theorem zd_A_cheapestPlace_6 : decode zb_A_cheapestPlace 6 = .ok (.istore 5, 2) := by decide +kernel
theorem zd_A_cheapestPlace_8 : decode zb_A_cheapestPlace 8 = .ok (.iload 5, 2) := by decide +kernel
theorem zd_A_cheapestPlace_10 : decode zb_A_cheapestPlace 10 = .ok (.aload_n 0, 1) := by decide +kernel
theorem zd_A_cheapestPlace_11 : decode zb_A_cheapestPlace 11 = .ok (.getfield 75, 3) := by decide +kernel
theorem zd_A_cheapestPlace_14 : decode zb_A_cheapestPlace 14 = .ok (.if_icmp .ge 56, 3) := by decide +kernel
theorem zd_A_cheapestPlace_17 : decode zb_A_cheapestPlace 17 = .ok (.iload_n 2, 1) := by decide +kernel
theorem zd_A_cheapestPlace_18 : decode zb_A_cheapestPlace 18 = .ok (.iload 5, 2) := by decide +kernel
theorem zd_A_cheapestPlace_20 : decode zb_A_cheapestPlace 20 = .ok (.ishr, 1) := by decide +kernel
theorem zd_A_cheapestPlace_21 : decode zb_A_cheapestPlace 21 = .ok (.iconst 1, 1) := by decide +kernel
theorem zd_A_cheapestPlace_22 : decode zb_A_cheapestPlace 22 = .ok (.iand, 1) := by decide +kernel
theorem zd_A_cheapestPlace_23 : decode zb_A_cheapestPlace 23 = .ok (.ifCond .ne 41, 3) := by decide +kernel
theorem zd_A_cheapestPlace_26 : decode zb_A_cheapestPlace 26 = .ok (.aload_n 0, 1) := by decide +kernel
theorem zd_A_cheapestPlace_27 : decode zb_A_cheapestPlace 27 = .ok (.aload_n 1, 1) := by decide +kernel
theorem zd_A_cheapestPlace_28 : decode zb_A_cheapestPlace 28 = .ok (.iload 5, 2) := by decide +kernel
theorem zd_A_cheapestPlace_30 : decode zb_A_cheapestPlace 30 = .ok (.invokevirtual 178, 3) := by decide +kernel
theorem zd_A_cheapestPlace_33 : decode zb_A_cheapestPlace 33 = .ok (.ifCond .ne 31, 3) := by decide +kernel
theorem zd_A_cheapestPlace_36 : decode zb_A_cheapestPlace 36 = .ok (.aload_n 0, 1) := by decide +kernel
theorem zd_A_cheapestPlace_37 : decode zb_A_cheapestPlace 37 = .ok (.aload_n 1, 1) := by decide +kernel
theorem zd_A_cheapestPlace_38 : decode zb_A_cheapestPlace 38 = .ok (.iload 5, 2) := by decide +kernel
theorem zd_A_cheapestPlace_40 : decode zb_A_cheapestPlace 40 = .ok (.invokevirtual 175, 3) := by decide +kernel
theorem zd_A_cheapestPlace_43 : decode zb_A_cheapestPlace 43 = .ok (.istore 6, 2) := by decide +kernel
theorem zd_A_cheapestPlace_45 : decode zb_A_cheapestPlace 45 = .ok (.iload_n 3, 1) := by decide +kernel
theorem zd_A_cheapestPlace_46 : decode zb_A_cheapestPlace 46 = .ok (.iconst (-1), 1) := by decide +kernel
theorem zd_A_cheapestPlace_47 : decode zb_A_cheapestPlace 47 = .ok (.if_icmp .eq 10, 3) := by decide +kernel
theorem zd_A_cheapestPlace_50 : decode zb_A_cheapestPlace 50 = .ok (.iload 6, 2) := by decide +kernel
theorem zd_A_cheapestPlace_52 : decode zb_A_cheapestPlace 52 = .ok (.iload 4, 2) := by decide +kernel
theorem zd_A_cheapestPlace_54 : decode zb_A_cheapestPlace 54 = .ok (.if_icmp .ge 10, 3) := by decide +kernel
theorem zd_A_cheapestPlace_57 : decode zb_A_cheapestPlace 57 = .ok (.iload 5, 2) := by decide +kernel
theorem zd_A_cheapestPlace_59 : decode zb_A_cheapestPlace 59 = .ok (.istore_n 3, 1) := by decide +kernel
theorem zd_A_cheapestPlace_60 : decode zb_A_cheapestPlace 60 = .ok (.iload 6, 2) := by decide +kernel
theorem zd_A_cheapestPlace_62 : decode zb_A_cheapestPlace 62 = .ok (.istore 4, 2) := by decide +kernel
theorem zd_A_cheapestPlace_64 : decode zb_A_cheapestPlace 64 = .ok (.iinc 5 1, 3) := by decide +kernel
theorem zd_A_cheapestPlace_67 : decode zb_A_cheapestPlace 67 = .ok (.goto (-59), 3) := by decide +kernel
theorem zd_A_cheapestPlace_70 : decode zb_A_cheapestPlace 70 = .ok (.iload_n 3, 1) := by decide +kernel
theorem zd_A_cheapestPlace_71 : decode zb_A_cheapestPlace 71 = .ok (.ireturn, 1) := by decide +kernel
theorem zd_A_draftOneByOne_0 : decode zb_A_draftOneByOne 0 = .ok (.iconst 0, 1) := by decide +kernel
theorem zd_A_draftOneByOne_1 : decode zb_A_draftOneByOne 1 = .ok (.istore_n 1, 1) := by decide +kernel
theorem zd_A_draftOneByOne_2 : decode zb_A_draftOneByOne 2 = .ok (.iconst 0, 1) := by decide +kernel
theorem zd_A_draftOneByOne_3 : decode zb_A_draftOneByOne 3 = .ok (.istore_n 2, 1) := by decide +kernel
theorem zd_A_draftOneByOne_4 : decode zb_A_draftOneByOne 4 = .ok (.iconst 0, 1) := by decide +kernel
theorem zd_A_draftOneByOne_5 : decode zb_A_draftOneByOne 5 = .ok (.istore_n 3, 1) := by decide +kernel
theorem zd_A_draftOneByOne_6 : decode zb_A_draftOneByOne 6 = .ok (.iload_n 3, 1) := by decide +kernel
theorem zd_A_draftOneByOne_7 : decode zb_A_draftOneByOne 7 = .ok (.aload_n 0, 1) := by decide +kernel
theorem zd_A_draftOneByOne_8 : decode zb_A_draftOneByOne 8 = .ok (.getfield 60, 3) := by decide +kernel
theorem zd_A_draftOneByOne_11 : decode zb_A_draftOneByOne 11 = .ok (.if_icmp .ge 65, 3) := by decide +kernel
theorem zd_A_draftOneByOne_14 : decode zb_A_draftOneByOne 14 = .ok (.aload_n 0, 1) := by decide +kernel
theorem zd_A_draftOneByOne_15 : decode zb_A_draftOneByOne 15 = .ok (.iload_n 3, 1) := by decide +kernel
theorem zd_A_draftOneByOne_16 : decode zb_A_draftOneByOne 16 = .ok (.invokevirtual 167, 3) := by decide +kernel
theorem zd_A_draftOneByOne_19 : decode zb_A_draftOneByOne 19 = .ok (.ifCond .eq 51, 3) := by decide +kernel
theorem zd_A_draftOneByOne_22 : decode zb_A_draftOneByOne 22 = .ok (.aload_n 0, 1) := by decide +kernel
theorem zd_A_draftOneByOne_23 : decode zb_A_draftOneByOne 23 = .ok (.iload_n 3, 1) := by decide +kernel
theorem zd_A_draftOneByOne_24 : decode zb_A_draftOneByOne 24 = .ok (.invokevirtual 132, 3) := by decide +kernel
theorem zd_A_draftOneByOne_27 : decode zb_A_draftOneByOne 27 = .ok (.astore 4, 2) := by decide +kernel
theorem zd_A_draftOneByOne_29 : decode zb_A_draftOneByOne 29 = .ok (.aload_n 0, 1) := by decide +kernel
theorem zd_A_draftOneByOne_30 : decode zb_A_draftOneByOne 30 = .ok (.aload 4, 2) := by decide +kernel
theorem zd_A_draftOneByOne_32 : decode zb_A_draftOneByOne 32 = .ok (.iload_n 1, 1) := by decide +kernel
theorem zd_A_draftOneByOne_33 : decode zb_A_draftOneByOne 33 = .ok (.invokevirtual 171, 3) := by decide +kernel
theorem zd_A_draftOneByOne_36 : decode zb_A_draftOneByOne 36 = .ok (.istore 5, 2) := by decide +kernel
theorem zd_A_draftOneByOne_38 : decode zb_A_draftOneByOne 38 = .ok (.aload_n 0, 1) := by decide +kernel
theorem zd_A_draftOneByOne_39 : decode zb_A_draftOneByOne 39 = .ok (.getfield 39, 3) := by decide +kernel
theorem zd_A_draftOneByOne_42 : decode zb_A_draftOneByOne 42 = .ok (.iload_n 3, 1) := by decide +kernel
theorem zd_A_draftOneByOne_43 : decode zb_A_draftOneByOne 43 = .ok (.iload 5, 2) := by decide +kernel
theorem zd_A_draftOneByOne_45 : decode zb_A_draftOneByOne 45 = .ok (.iastore, 1) := by decide +kernel
theorem zd_A_draftOneByOne_46 : decode zb_A_draftOneByOne 46 = .ok (.iload 5, 2) := by decide +kernel
theorem zd_A_draftOneByOne_48 : decode zb_A_draftOneByOne 48 = .ok (.iconst (-1), 1) := by decide +kernel
theorem zd_A_draftOneByOne_49 : decode zb_A_draftOneByOne 49 = .ok (.if_icmp .eq 21, 3) := by decide +kernel
theorem zd_A_draftOneByOne_52 : decode zb_A_draftOneByOne 52 = .ok (.iload_n 1, 1) := by decide +kernel
theorem zd_A_draftOneByOne_53 : decode zb_A_draftOneByOne 53 = .ok (.iconst 1, 1) := by decide +kernel
theorem zd_A_draftOneByOne_54 : decode zb_A_draftOneByOne 54 = .ok (.iload 5, 2) := by decide +kernel
theorem zd_A_draftOneByOne_56 : decode zb_A_draftOneByOne 56 = .ok (.ishl, 1) := by decide +kernel
theorem zd_A_draftOneByOne_57 : decode zb_A_draftOneByOne 57 = .ok (.ior, 1) := by decide +kernel
theorem zd_A_draftOneByOne_58 : decode zb_A_draftOneByOne 58 = .ok (.istore_n 1, 1) := by decide +kernel
theorem zd_A_draftOneByOne_59 : decode zb_A_draftOneByOne 59 = .ok (.iload_n 2, 1) := by decide +kernel
theorem zd_A_draftOneByOne_60 : decode zb_A_draftOneByOne 60 = .ok (.aload_n 0, 1) := by decide +kernel
theorem zd_A_draftOneByOne_61 : decode zb_A_draftOneByOne 61 = .ok (.aload 4, 2) := by decide +kernel
theorem zd_A_draftOneByOne_63 : decode zb_A_draftOneByOne 63 = .ok (.iload 5, 2) := by decide +kernel
theorem zd_A_draftOneByOne_65 : decode zb_A_draftOneByOne 65 = .ok (.invokevirtual 175, 3) := by decide +kernel
theorem zd_A_draftOneByOne_68 : decode zb_A_draftOneByOne 68 = .ok (.iadd, 1) := by decide +kernel
theorem zd_A_draftOneByOne_69 : decode zb_A_draftOneByOne 69 = .ok (.istore_n 2, 1) := by decide +kernel
theorem zd_A_draftOneByOne_70 : decode zb_A_draftOneByOne 70 = .ok (.iinc 3 1, 3) := by decide +kernel
theorem zd_A_draftOneByOne_73 : decode zb_A_draftOneByOne 73 = .ok (.goto (-67), 3) := by decide +kernel
theorem zd_A_draftOneByOne_76 : decode zb_A_draftOneByOne 76 = .ok (.iload_n 2, 1) := by decide +kernel
theorem zd_A_draftOneByOne_77 : decode zb_A_draftOneByOne 77 = .ok (.ireturn, 1) := by decide +kernel
theorem zd_A_draftBest_0 : decode zb_A_draftBest 0 = .ok (.aload_n 0, 1) := by decide +kernel
theorem zd_A_draftBest_1 : decode zb_A_draftBest 1 = .ok (.getfield 35, 3) := by decide +kernel
theorem zd_A_draftBest_4 : decode zb_A_draftBest 4 = .ok (.invokevirtual 270, 3) := by decide +kernel
theorem zd_A_draftBest_7 : decode zb_A_draftBest 7 = .ok (.iconst 0, 1) := by decide +kernel
theorem zd_A_draftBest_8 : decode zb_A_draftBest 8 = .ok (.istore_n 1, 1) := by decide +kernel
theorem zd_A_draftBest_9 : decode zb_A_draftBest 9 = .ok (.iload_n 1, 1) := by decide +kernel
theorem zd_A_draftBest_10 : decode zb_A_draftBest 10 = .ok (.aload_n 0, 1) := by decide +kernel
theorem zd_A_draftBest_11 : decode zb_A_draftBest 11 = .ok (.getfield 60, 3) := by decide +kernel
theorem zd_A_draftBest_14 : decode zb_A_draftBest 14 = .ok (.if_icmp .ge 26, 3) := by decide +kernel
theorem zd_A_draftBest_17 : decode zb_A_draftBest 17 = .ok (.aload_n 0, 1) := by decide +kernel
theorem zd_A_draftBest_18 : decode zb_A_draftBest 18 = .ok (.iload_n 1, 1) := by decide +kernel
theorem zd_A_draftBest_19 : decode zb_A_draftBest 19 = .ok (.invokevirtual 167, 3) := by decide +kernel
theorem zd_A_draftBest_22 : decode zb_A_draftBest 22 = .ok (.ifCond .eq 12, 3) := by decide +kernel
theorem zd_A_draftBest_25 : decode zb_A_draftBest 25 = .ok (.aload_n 0, 1) := by decide +kernel
theorem zd_A_draftBest_26 : decode zb_A_draftBest 26 = .ok (.aload_n 0, 1) := by decide +kernel
theorem zd_A_draftBest_27 : decode zb_A_draftBest 27 = .ok (.iload_n 1, 1) := by decide +kernel
theorem zd_A_draftBest_28 : decode zb_A_draftBest 28 = .ok (.invokevirtual 132, 3) := by decide +kernel
theorem zd_A_draftBest_31 : decode zb_A_draftBest 31 = .ok (.invokevirtual 272, 3) := by decide +kernel
theorem zd_A_draftBest_34 : decode zb_A_draftBest 34 = .ok (.iinc 1 1, 3) := by decide +kernel
theorem zd_A_draftBest_37 : decode zb_A_draftBest 37 = .ok (.goto (-28), 3) := by decide +kernel
theorem zd_A_draftBest_40 : decode zb_A_draftBest 40 = .ok (.aload_n 0, 1) := by decide +kernel
theorem zd_A_draftBest_41 : decode zb_A_draftBest 41 = .ok (.getfield 35, 3) := by decide +kernel
theorem zd_A_draftBest_44 : decode zb_A_draftBest 44 = .ok (.invokevirtual 276, 3) := by decide +kernel
theorem zd_A_draftBest_47 : decode zb_A_draftBest 47 = .ok (.iconst 0, 1) := by decide +kernel
theorem zd_A_draftBest_48 : decode zb_A_draftBest 48 = .ok (.istore_n 1, 1) := by decide +kernel
theorem zd_A_draftBest_49 : decode zb_A_draftBest 49 = .ok (.iconst 0, 1) := by decide +kernel
theorem zd_A_draftBest_50 : decode zb_A_draftBest 50 = .ok (.istore_n 2, 1) := by decide +kernel
theorem zd_A_draftBest_51 : decode zb_A_draftBest 51 = .ok (.iconst 0, 1) := by decide +kernel
theorem zd_A_draftBest_52 : decode zb_A_draftBest 52 = .ok (.istore_n 3, 1) := by decide +kernel
theorem zd_A_draftBest_53 : decode zb_A_draftBest 53 = .ok (.iload_n 3, 1) := by decide +kernel
theorem zd_A_draftBest_54 : decode zb_A_draftBest 54 = .ok (.aload_n 0, 1) := by decide +kernel
theorem zd_A_draftBest_55 : decode zb_A_draftBest 55 = .ok (.getfield 60, 3) := by decide +kernel
theorem zd_A_draftBest_58 : decode zb_A_draftBest 58 = .ok (.if_icmp .ge 62, 3) := by decide +kernel
theorem zd_A_draftBest_61 : decode zb_A_draftBest 61 = .ok (.aload_n 0, 1) := by decide +kernel
theorem zd_A_draftBest_62 : decode zb_A_draftBest 62 = .ok (.iload_n 3, 1) := by decide +kernel
theorem zd_A_draftBest_63 : decode zb_A_draftBest 63 = .ok (.invokevirtual 167, 3) := by decide +kernel
theorem zd_A_draftBest_66 : decode zb_A_draftBest 66 = .ok (.ifCond .eq 48, 3) := by decide +kernel
theorem zd_A_draftBest_69 : decode zb_A_draftBest 69 = .ok (.iinc 2 1, 3) := by decide +kernel
theorem zd_A_draftBest_72 : decode zb_A_draftBest 72 = .ok (.aload_n 0, 1) := by decide +kernel
theorem zd_A_draftBest_73 : decode zb_A_draftBest 73 = .ok (.getfield 39, 3) := by decide +kernel
theorem zd_A_draftBest_76 : decode zb_A_draftBest 76 = .ok (.iload_n 3, 1) := by decide +kernel
theorem zd_A_draftBest_77 : decode zb_A_draftBest 77 = .ok (.aload_n 0, 1) := by decide +kernel
theorem zd_A_draftBest_78 : decode zb_A_draftBest 78 = .ok (.getfield 35, 3) := by decide +kernel
theorem zd_A_draftBest_81 : decode zb_A_draftBest 81 = .ok (.iload_n 2, 1) := by decide +kernel
theorem zd_A_draftBest_82 : decode zb_A_draftBest 82 = .ok (.invokevirtual 279, 3) := by decide +kernel
theorem zd_A_draftBest_85 : decode zb_A_draftBest 85 = .ok (.iastore, 1) := by decide +kernel
theorem zd_A_draftBest_86 : decode zb_A_draftBest 86 = .ok (.aload_n 0, 1) := by decide +kernel
theorem zd_A_draftBest_87 : decode zb_A_draftBest 87 = .ok (.getfield 39, 3) := by decide +kernel
theorem zd_A_draftBest_90 : decode zb_A_draftBest 90 = .ok (.iload_n 3, 1) := by decide +kernel
theorem zd_A_draftBest_91 : decode zb_A_draftBest 91 = .ok (.iaload, 1) := by decide +kernel
theorem zd_A_draftBest_92 : decode zb_A_draftBest 92 = .ok (.iconst (-1), 1) := by decide +kernel
theorem zd_A_draftBest_93 : decode zb_A_draftBest 93 = .ok (.if_icmp .eq 21, 3) := by decide +kernel
theorem zd_A_draftBest_96 : decode zb_A_draftBest 96 = .ok (.iload_n 1, 1) := by decide +kernel
theorem zd_A_draftBest_97 : decode zb_A_draftBest 97 = .ok (.aload_n 0, 1) := by decide +kernel
theorem zd_A_draftBest_98 : decode zb_A_draftBest 98 = .ok (.aload_n 0, 1) := by decide +kernel
theorem zd_A_draftBest_99 : decode zb_A_draftBest 99 = .ok (.iload_n 3, 1) := by decide +kernel
theorem zd_A_draftBest_100 : decode zb_A_draftBest 100 = .ok (.invokevirtual 132, 3) := by decide +kernel
theorem zd_A_draftBest_103 : decode zb_A_draftBest 103 = .ok (.aload_n 0, 1) := by decide +kernel
theorem zd_A_draftBest_104 : decode zb_A_draftBest 104 = .ok (.getfield 39, 3) := by decide +kernel
theorem zd_A_draftBest_107 : decode zb_A_draftBest 107 = .ok (.iload_n 3, 1) := by decide +kernel
theorem zd_A_draftBest_108 : decode zb_A_draftBest 108 = .ok (.iaload, 1) := by decide +kernel
theorem zd_A_draftBest_109 : decode zb_A_draftBest 109 = .ok (.invokevirtual 175, 3) := by decide +kernel
theorem zd_A_draftBest_112 : decode zb_A_draftBest 112 = .ok (.iadd, 1) := by decide +kernel
theorem zd_A_draftBest_113 : decode zb_A_draftBest 113 = .ok (.istore_n 1, 1) := by decide +kernel
theorem zd_A_draftBest_114 : decode zb_A_draftBest 114 = .ok (.iinc 3 1, 3) := by decide +kernel
theorem zd_A_draftBest_117 : decode zb_A_draftBest 117 = .ok (.goto (-64), 3) := by decide +kernel
theorem zd_A_draftBest_120 : decode zb_A_draftBest 120 = .ok (.iload_n 1, 1) := by decide +kernel
theorem zd_A_draftBest_121 : decode zb_A_draftBest 121 = .ok (.ireturn, 1) := by decide +kernel
theorem zd_A_offerPlaces_0 : decode zb_A_offerPlaces 0 = .ok (.aload_n 0, 1) := by decide +kernel
theorem zd_A_offerPlaces_1 : decode zb_A_offerPlaces 1 = .ok (.getfield 35, 3) := by decide +kernel
theorem zd_A_offerPlaces_4 : decode zb_A_offerPlaces 4 = .ok (.invokevirtual 282, 3) := by decide +kernel
theorem zd_A_offerPlaces_7 : decode zb_A_offerPlaces 7 = .ok (.iconst 0, 1) := by decide +kernel
theorem zd_A_offerPlaces_8 : decode zb_A_offerPlaces 8 = .ok (.istore_n 2, 1) := by decide +kernel
theorem zd_A_offerPlaces_9 : decode zb_A_offerPlaces 9 = .ok (.iload_n 2, 1) := by decide +kernel
theorem zd_A_offerPlaces_10 : decode zb_A_offerPlaces 10 = .ok (.aload_n 0, 1) := by decide +kernel
theorem zd_A_offerPlaces_11 : decode zb_A_offerPlaces 11 = .ok (.getfield 75, 3) := by decide +kernel
theorem zd_A_offerPlaces_14 : decode zb_A_offerPlaces 14 = .ok (.if_icmp .ge 32, 3) := by decide +kernel
theorem zd_A_offerPlaces_17 : decode zb_A_offerPlaces 17 = .ok (.aload_n 0, 1) := by decide +kernel
theorem zd_A_offerPlaces_18 : decode zb_A_offerPlaces 18 = .ok (.aload_n 1, 1) := by decide +kernel
theorem zd_A_offerPlaces_19 : decode zb_A_offerPlaces 19 = .ok (.iload_n 2, 1) := by decide +kernel
theorem zd_A_offerPlaces_20 : decode zb_A_offerPlaces 20 = .ok (.invokevirtual 178, 3) := by decide +kernel
theorem zd_A_offerPlaces_23 : decode zb_A_offerPlaces 23 = .ok (.ifCond .ne 17, 3) := by decide +kernel
theorem zd_A_offerPlaces_26 : decode zb_A_offerPlaces 26 = .ok (.aload_n 0, 1) := by decide +kernel
theorem zd_A_offerPlaces_27 : decode zb_A_offerPlaces 27 = .ok (.getfield 35, 3) := by decide +kernel
theorem zd_A_offerPlaces_30 : decode zb_A_offerPlaces 30 = .ok (.iload_n 2, 1) := by decide +kernel
theorem zd_A_offerPlaces_31 : decode zb_A_offerPlaces 31 = .ok (.aload_n 0, 1) := by decide +kernel
theorem zd_A_offerPlaces_32 : decode zb_A_offerPlaces 32 = .ok (.aload_n 1, 1) := by decide +kernel
theorem zd_A_offerPlaces_33 : decode zb_A_offerPlaces 33 = .ok (.iload_n 2, 1) := by decide +kernel
theorem zd_A_offerPlaces_34 : decode zb_A_offerPlaces 34 = .ok (.invokevirtual 175, 3) := by decide +kernel
theorem zd_A_offerPlaces_37 : decode zb_A_offerPlaces 37 = .ok (.invokevirtual 285, 3) := by decide +kernel
theorem zd_A_offerPlaces_40 : decode zb_A_offerPlaces 40 = .ok (.iinc 2 1, 3) := by decide +kernel
theorem zd_A_offerPlaces_43 : decode zb_A_offerPlaces 43 = .ok (.goto (-34), 3) := by decide +kernel
theorem zd_A_offerPlaces_46 : decode zb_A_offerPlaces 46 = .ok (.return_, 1) := by decide +kernel
theorem zd_A_takeDraft_0 : decode zb_A_takeDraft 0 = .ok (.iconst 0, 1) := by decide +kernel
theorem zd_A_takeDraft_1 : decode zb_A_takeDraft 1 = .ok (.istore_n 1, 1) := by decide +kernel
theorem zd_A_takeDraft_2 : decode zb_A_takeDraft 2 = .ok (.iload_n 1, 1) := by decide +kernel
theorem zd_A_takeDraft_3 : decode zb_A_takeDraft 3 = .ok (.aload_n 0, 1) := by decide +kernel
theorem zd_A_takeDraft_4 : decode zb_A_takeDraft 4 = .ok (.getfield 60, 3) := by decide +kernel
theorem zd_A_takeDraft_7 : decode zb_A_takeDraft 7 = .ok (.if_icmp .ge 28, 3) := by decide +kernel
theorem zd_A_takeDraft_10 : decode zb_A_takeDraft 10 = .ok (.aload_n 0, 1) := by decide +kernel
theorem zd_A_takeDraft_11 : decode zb_A_takeDraft 11 = .ok (.iload_n 1, 1) := by decide +kernel
theorem zd_A_takeDraft_12 : decode zb_A_takeDraft 12 = .ok (.invokevirtual 167, 3) := by decide +kernel
theorem zd_A_takeDraft_15 : decode zb_A_takeDraft 15 = .ok (.ifCond .eq 14, 3) := by decide +kernel
theorem zd_A_takeDraft_18 : decode zb_A_takeDraft 18 = .ok (.aload_n 0, 1) := by decide +kernel
theorem zd_A_takeDraft_19 : decode zb_A_takeDraft 19 = .ok (.iload_n 1, 1) := by decide +kernel
theorem zd_A_takeDraft_20 : decode zb_A_takeDraft 20 = .ok (.aload_n 0, 1) := by decide +kernel
theorem zd_A_takeDraft_21 : decode zb_A_takeDraft 21 = .ok (.getfield 39, 3) := by decide +kernel
theorem zd_A_takeDraft_24 : decode zb_A_takeDraft 24 = .ok (.iload_n 1, 1) := by decide +kernel
theorem zd_A_takeDraft_25 : decode zb_A_takeDraft 25 = .ok (.iaload, 1) := by decide +kernel
theorem zd_A_takeDraft_26 : decode zb_A_takeDraft 26 = .ok (.invokevirtual 129, 3) := by decide +kernel
theorem zd_A_takeDraft_29 : decode zb_A_takeDraft 29 = .ok (.iinc 1 1, 3) := by decide +kernel
theorem zd_A_takeDraft_32 : decode zb_A_takeDraft 32 = .ok (.goto (-30), 3) := by decide +kernel
theorem zd_A_takeDraft_35 : decode zb_A_takeDraft 35 = .ok (.return_, 1) := by decide +kernel
theorem zd_M_init_0 : decode zb_M_init 0 = .ok (.aload_n 0, 1) := by decide +kernel
theorem zd_M_init_1 : decode zb_M_init 1 = .ok (.invokespecial 1, 3) := by decide +kernel
theorem zd_M_init_4 : decode zb_M_init 4 = .ok (.aload_n 0, 1) := by decide +kernel
theorem zd_M_init_5 : decode zb_M_init 5 = .ok (.bipush 12, 2) := by decide +kernel
theorem zd_M_init_7 : decode zb_M_init 7 = .ok (.newarray .int, 2) := by decide +kernel
theorem zd_M_init_9 : decode zb_M_init 9 = .ok (.putfield 7, 3) := by decide +kernel
theorem zd_M_init_12 : decode zb_M_init 12 = .ok (.aload_n 0, 1) := by decide +kernel
theorem zd_M_init_13 : decode zb_M_init 13 = .ok (.bipush 12, 2) := by decide +kernel
theorem zd_M_init_15 : decode zb_M_init 15 = .ok (.newarray .int, 2) := by decide +kernel
theorem zd_M_init_17 : decode zb_M_init 17 = .ok (.putfield 13, 3) := by decide +kernel
theorem zd_M_init_20 : decode zb_M_init 20 = .ok (.aload_n 0, 1) := by decide +kernel
theorem zd_M_init_21 : decode zb_M_init 21 = .ok (.bipush 12, 2) := by decide +kernel
theorem zd_M_init_23 : decode zb_M_init 23 = .ok (.newarray .int, 2) := by decide +kernel
theorem zd_M_init_25 : decode zb_M_init 25 = .ok (.putfield 16, 3) := by decide +kernel
theorem zd_M_init_28 : decode zb_M_init 28 = .ok (.aload_n 0, 1) := by decide +kernel
theorem zd_M_init_29 : decode zb_M_init 29 = .ok (.bipush 12, 2) := by decide +kernel
theorem zd_M_init_31 : decode zb_M_init 31 = .ok (.newarray .int, 2) := by decide +kernel
theorem zd_M_init_33 : decode zb_M_init 33 = .ok (.putfield 19, 3) := by decide +kernel
theorem zd_M_init_36 : decode zb_M_init 36 = .ok (.aload_n 0, 1) := by decide +kernel
theorem zd_M_init_37 : decode zb_M_init 37 = .ok (.bipush 12, 2) := by decide +kernel
theorem zd_M_init_39 : decode zb_M_init 39 = .ok (.newarray .int, 2) := by decide +kernel
theorem zd_M_init_41 : decode zb_M_init 41 = .ok (.putfield 22, 3) := by decide +kernel
theorem zd_M_init_44 : decode zb_M_init 44 = .ok (.aload_n 0, 1) := by decide +kernel
theorem zd_M_init_45 : decode zb_M_init 45 = .ok (.bipush 12, 2) := by decide +kernel
theorem zd_M_init_47 : decode zb_M_init 47 = .ok (.newarray .boolean, 2) := by decide +kernel
theorem zd_M_init_49 : decode zb_M_init 49 = .ok (.putfield 25, 3) := by decide +kernel
theorem zd_M_init_52 : decode zb_M_init 52 = .ok (.aload_n 0, 1) := by decide +kernel
theorem zd_M_init_53 : decode zb_M_init 53 = .ok (.sipush 144, 3) := by decide +kernel
theorem zd_M_init_56 : decode zb_M_init 56 = .ok (.newarray .boolean, 2) := by decide +kernel
theorem zd_M_init_58 : decode zb_M_init 58 = .ok (.putfield 29, 3) := by decide +kernel
theorem zd_M_init_61 : decode zb_M_init 61 = .ok (.aload_n 0, 1) := by decide +kernel
theorem zd_M_init_62 : decode zb_M_init 62 = .ok (.sipush 144, 3) := by decide +kernel
theorem zd_M_init_65 : decode zb_M_init 65 = .ok (.newarray .int, 2) := by decide +kernel
theorem zd_M_init_67 : decode zb_M_init 67 = .ok (.putfield 32, 3) := by decide +kernel
theorem zd_M_init_70 : decode zb_M_init 70 = .ok (.aload_n 0, 1) := by decide +kernel
theorem zd_M_init_71 : decode zb_M_init 71 = .ok (.bipush 12, 2) := by decide +kernel
theorem zd_M_init_73 : decode zb_M_init 73 = .ok (.newarray .int, 2) := by decide +kernel
theorem zd_M_init_75 : decode zb_M_init 75 = .ok (.putfield 35, 3) := by decide +kernel
theorem zd_M_init_78 : decode zb_M_init 78 = .ok (.aload_n 0, 1) := by decide +kernel
theorem zd_M_init_79 : decode zb_M_init 79 = .ok (.bipush 12, 2) := by decide +kernel
theorem zd_M_init_81 : decode zb_M_init 81 = .ok (.newarray .int, 2) := by decide +kernel
theorem zd_M_init_83 : decode zb_M_init 83 = .ok (.putfield 38, 3) := by decide +kernel
theorem zd_M_init_86 : decode zb_M_init 86 = .ok (.aload_n 0, 1) := by decide +kernel
theorem zd_M_init_87 : decode zb_M_init 87 = .ok (.bipush 12, 2) := by decide +kernel
theorem zd_M_init_89 : decode zb_M_init 89 = .ok (.newarray .int, 2) := by decide +kernel
theorem zd_M_init_91 : decode zb_M_init 91 = .ok (.putfield 41, 3) := by decide +kernel
theorem zd_M_init_94 : decode zb_M_init 94 = .ok (.aload_n 0, 1) := by decide +kernel
theorem zd_M_init_95 : decode zb_M_init 95 = .ok (.bipush 12, 2) := by decide +kernel
theorem zd_M_init_97 : decode zb_M_init 97 = .ok (.newarray .int, 2) := by decide +kernel
theorem zd_M_init_99 : decode zb_M_init 99 = .ok (.putfield 44, 3) := by decide +kernel
theorem zd_M_init_102 : decode zb_M_init 102 = .ok (.aload_n 0, 1) := by decide +kernel
theorem zd_M_init_103 : decode zb_M_init 103 = .ok (.bipush 12, 2) := by decide +kernel
theorem zd_M_init_105 : decode zb_M_init 105 = .ok (.newarray .boolean, 2) := by decide +kernel
theorem zd_M_init_107 : decode zb_M_init 107 = .ok (.putfield 47, 3) := by decide +kernel
theorem zd_M_init_110 : decode zb_M_init 110 = .ok (.aload_n 0, 1) := by decide +kernel
theorem zd_M_init_111 : decode zb_M_init 111 = .ok (.bipush 8, 2) := by decide +kernel
theorem zd_M_init_113 : decode zb_M_init 113 = .ok (.newarray .int, 2) := by decide +kernel
theorem zd_M_init_115 : decode zb_M_init 115 = .ok (.dup, 1) := by decide +kernel
theorem zd_M_init_116 : decode zb_M_init 116 = .ok (.iconst 0, 1) := by decide +kernel
theorem zd_M_init_117 : decode zb_M_init 117 = .ok (.iconst 1, 1) := by decide +kernel
theorem zd_M_init_118 : decode zb_M_init 118 = .ok (.iastore, 1) := by decide +kernel
theorem zd_M_init_119 : decode zb_M_init 119 = .ok (.dup, 1) := by decide +kernel
theorem zd_M_init_120 : decode zb_M_init 120 = .ok (.iconst 1, 1) := by decide +kernel
theorem zd_M_init_121 : decode zb_M_init 121 = .ok (.iconst 1, 1) := by decide +kernel
theorem zd_M_init_122 : decode zb_M_init 122 = .ok (.iastore, 1) := by decide +kernel
theorem zd_M_init_123 : decode zb_M_init 123 = .ok (.dup, 1) := by decide +kernel
theorem zd_M_init_124 : decode zb_M_init 124 = .ok (.iconst 2, 1) := by decide +kernel
theorem zd_M_init_125 : decode zb_M_init 125 = .ok (.iconst 1, 1) := by decide +kernel
theorem zd_M_init_126 : decode zb_M_init 126 = .ok (.iastore, 1) := by decide +kernel
theorem zd_M_init_127 : decode zb_M_init 127 = .ok (.dup, 1) := by decide +kernel
theorem zd_M_init_128 : decode zb_M_init 128 = .ok (.iconst 3, 1) := by decide +kernel
theorem zd_M_init_129 : decode zb_M_init 129 = .ok (.iconst 1, 1) := by decide +kernel
theorem zd_M_init_130 : decode zb_M_init 130 = .ok (.iastore, 1) := by decide +kernel
theorem zd_M_init_131 : decode zb_M_init 131 = .ok (.dup, 1) := by decide +kernel
theorem zd_M_init_132 : decode zb_M_init 132 = .ok (.iconst 4, 1) := by decide +kernel
theorem zd_M_init_133 : decode zb_M_init 133 = .ok (.iconst 1, 1) := by decide +kernel
theorem zd_M_init_134 : decode zb_M_init 134 = .ok (.iastore, 1) := by decide +kernel
theorem zd_M_init_135 : decode zb_M_init 135 = .ok (.dup, 1) := by decide +kernel
theorem zd_M_init_136 : decode zb_M_init 136 = .ok (.iconst 5, 1) := by decide +kernel
theorem zd_M_init_137 : decode zb_M_init 137 = .ok (.iconst 1, 1) := by decide +kernel
theorem zd_M_init_138 : decode zb_M_init 138 = .ok (.iastore, 1) := by decide +kernel
theorem zd_M_init_139 : decode zb_M_init 139 = .ok (.dup, 1) := by decide +kernel
theorem zd_M_init_140 : decode zb_M_init 140 = .ok (.bipush 6, 2) := by decide +kernel
theorem zd_M_init_142 : decode zb_M_init 142 = .ok (.iconst 1, 1) := by decide +kernel
theorem zd_M_init_143 : decode zb_M_init 143 = .ok (.iastore, 1) := by decide +kernel
theorem zd_M_init_144 : decode zb_M_init 144 = .ok (.dup, 1) := by decide +kernel
theorem zd_M_init_145 : decode zb_M_init 145 = .ok (.bipush 7, 2) := by decide +kernel
theorem zd_M_init_147 : decode zb_M_init 147 = .ok (.iconst 1, 1) := by decide +kernel
theorem zd_M_init_148 : decode zb_M_init 148 = .ok (.iastore, 1) := by decide +kernel
theorem zd_M_init_149 : decode zb_M_init 149 = .ok (.putfield 50, 3) := by decide +kernel
theorem zd_M_init_152 : decode zb_M_init 152 = .ok (.aload_n 0, 1) := by decide +kernel
theorem zd_M_init_153 : decode zb_M_init 153 = .ok (.bipush 6, 2) := by decide +kernel
theorem zd_M_init_155 : decode zb_M_init 155 = .ok (.putfield 53, 3) := by decide +kernel
theorem zd_M_init_158 : decode zb_M_init 158 = .ok (.aload_n 0, 1) := by decide +kernel
theorem zd_M_init_159 : decode zb_M_init 159 = .ok (.bipush 100, 2) := by decide +kernel
theorem zd_M_init_161 : decode zb_M_init 161 = .ok (.putfield 57, 3) := by decide +kernel
theorem zd_M_init_164 : decode zb_M_init 164 = .ok (.aload_n 0, 1) := by decide +kernel
theorem zd_M_init_165 : decode zb_M_init 165 = .ok (.bipush 12, 2) := by decide +kernel
theorem zd_M_init_167 : decode zb_M_init 167 = .ok (.newarray .int, 2) := by decide +kernel
theorem zd_M_init_169 : decode zb_M_init 169 = .ok (.putfield 60, 3) := by decide +kernel
theorem zd_M_init_172 : decode zb_M_init 172 = .ok (.aload_n 0, 1) := by decide +kernel
theorem zd_M_init_173 : decode zb_M_init 173 = .ok (.bipush 12, 2) := by decide +kernel
theorem zd_M_init_175 : decode zb_M_init 175 = .ok (.newarray .int, 2) := by decide +kernel
theorem zd_M_init_177 : decode zb_M_init 177 = .ok (.putfield 63, 3) := by decide +kernel
theorem zd_M_init_180 : decode zb_M_init 180 = .ok (.aload_n 0, 1) := by decide +kernel
theorem zd_M_init_181 : decode zb_M_init 181 = .ok (.sipush 144, 3) := by decide +kernel
theorem zd_M_init_184 : decode zb_M_init 184 = .ok (.newarray .int, 2) := by decide +kernel
theorem zd_M_init_186 : decode zb_M_init 186 = .ok (.putfield 66, 3) := by decide +kernel
theorem zd_M_init_189 : decode zb_M_init 189 = .ok (.aload_n 0, 1) := by decide +kernel
theorem zd_M_init_190 : decode zb_M_init 190 = .ok (.sipush 4096, 3) := by decide +kernel
theorem zd_M_init_193 : decode zb_M_init 193 = .ok (.newarray .long, 2) := by decide +kernel
theorem zd_M_init_195 : decode zb_M_init 195 = .ok (.putfield 69, 3) := by decide +kernel
theorem zd_M_init_198 : decode zb_M_init 198 = .ok (.aload_n 0, 1) := by decide +kernel
theorem zd_M_init_199 : decode zb_M_init 199 = .ok (.sipush 4096, 3) := by decide +kernel
theorem zd_M_init_202 : decode zb_M_init 202 = .ok (.newarray .long, 2) := by decide +kernel
theorem zd_M_init_204 : decode zb_M_init 204 = .ok (.putfield 73, 3) := by decide +kernel
theorem zd_M_init_207 : decode zb_M_init 207 = .ok (.iconst 0, 1) := by decide +kernel
theorem zd_M_init_208 : decode zb_M_init 208 = .ok (.istore_n 1, 1) := by decide +kernel
theorem zd_M_init_209 : decode zb_M_init 209 = .ok (.iload_n 1, 1) := by decide +kernel
theorem zd_M_init_210 : decode zb_M_init 210 = .ok (.sipush 144, 3) := by decide +kernel
theorem zd_M_init_213 : decode zb_M_init 213 = .ok (.if_icmp .ge 16, 3) := by decide +kernel
theorem zd_M_init_216 : decode zb_M_init 216 = .ok (.aload_n 0, 1) := by decide +kernel
theorem zd_M_init_217 : decode zb_M_init 217 = .ok (.getfield 32, 3) := by decide +kernel
theorem zd_M_init_220 : decode zb_M_init 220 = .ok (.iload_n 1, 1) := by decide +kernel
theorem zd_M_init_221 : decode zb_M_init 221 = .ok (.iconst (-1), 1) := by decide +kernel
theorem zd_M_init_222 : decode zb_M_init 222 = .ok (.iastore, 1) := by decide +kernel
theorem zd_M_init_223 : decode zb_M_init 223 = .ok (.iinc 1 1, 3) := by decide +kernel
theorem zd_M_init_226 : decode zb_M_init 226 = .ok (.goto (-17), 3) := by decide +kernel
theorem zd_M_init_229 : decode zb_M_init 229 = .ok (.return_, 1) := by decide +kernel
theorem zd_M_thrown_0 : decode zb_M_thrown 0 = .ok (.aload_n 0, 1) := by decide +kernel
theorem zd_M_thrown_1 : decode zb_M_thrown 1 = .ok (.getfield 76, 3) := by decide +kernel
theorem zd_M_thrown_4 : decode zb_M_thrown 4 = .ok (.ireturn, 1) := by decide +kernel
theorem zd_M_in_0 : decode zb_M_in 0 = .ok (.iload_n 0, 1) := by decide +kernel
theorem zd_M_in_1 : decode zb_M_in 1 = .ok (.iload_n 1, 1) := by decide +kernel
theorem zd_M_in_2 : decode zb_M_in 2 = .ok (.if_icmp .lt 12, 3) := by decide +kernel
theorem zd_M_in_5 : decode zb_M_in 5 = .ok (.iload_n 0, 1) := by decide +kernel
theorem zd_M_in_6 : decode zb_M_in 6 = .ok (.iload_n 2, 1) := by decide +kernel
theorem zd_M_in_7 : decode zb_M_in 7 = .ok (.if_icmp .gt 7, 3) := by decide +kernel
theorem zd_M_in_10 : decode zb_M_in 10 = .ok (.iconst 1, 1) := by decide +kernel
theorem zd_M_in_11 : decode zb_M_in 11 = .ok (.goto 4, 3) := by decide +kernel
theorem zd_M_in_14 : decode zb_M_in 14 = .ok (.iconst 0, 1) := by decide +kernel
theorem zd_M_in_15 : decode zb_M_in 15 = .ok (.ireturn, 1) := by decide +kernel
theorem zd_M_isUnit_0 : decode zb_M_isUnit 0 = .ok (.iload_n 1, 1) := by decide +kernel
theorem zd_M_isUnit_1 : decode zb_M_isUnit 1 = .ok (.iconst 0, 1) := by decide +kernel
theorem zd_M_isUnit_2 : decode zb_M_isUnit 2 = .ok (.aload_n 0, 1) := by decide +kernel
theorem zd_M_isUnit_3 : decode zb_M_isUnit 3 = .ok (.getfield 79, 3) := by decide +kernel
theorem zd_M_isUnit_6 : decode zb_M_isUnit 6 = .ok (.iconst 1, 1) := by decide +kernel
theorem zd_M_isUnit_7 : decode zb_M_isUnit 7 = .ok (.isub, 1) := by decide +kernel
theorem zd_M_isUnit_8 : decode zb_M_isUnit 8 = .ok (.invokestatic 82, 3) := by decide +kernel
theorem zd_M_isUnit_11 : decode zb_M_isUnit 11 = .ok (.ireturn, 1) := by decide +kernel
theorem zd_M_isPlace_0 : decode zb_M_isPlace 0 = .ok (.iload_n 1, 1) := by decide +kernel
theorem zd_M_isPlace_1 : decode zb_M_isPlace 1 = .ok (.iconst 0, 1) := by decide +kernel
theorem zd_M_isPlace_2 : decode zb_M_isPlace 2 = .ok (.aload_n 0, 1) := by decide +kernel
theorem zd_M_isPlace_3 : decode zb_M_isPlace 3 = .ok (.getfield 86, 3) := by decide +kernel
theorem zd_M_isPlace_6 : decode zb_M_isPlace 6 = .ok (.iconst 1, 1) := by decide +kernel
theorem zd_M_isPlace_7 : decode zb_M_isPlace 7 = .ok (.isub, 1) := by decide +kernel
theorem zd_M_isPlace_8 : decode zb_M_isPlace 8 = .ok (.invokestatic 82, 3) := by decide +kernel
theorem zd_M_isPlace_11 : decode zb_M_isPlace 11 = .ok (.ireturn, 1) := by decide +kernel
theorem zd_M_unit_0 : decode zb_M_unit 0 = .ok (.aload_n 0, 1) := by decide +kernel
theorem zd_M_unit_1 : decode zb_M_unit 1 = .ok (.iload_n 1, 1) := by decide +kernel
theorem zd_M_unit_2 : decode zb_M_unit 2 = .ok (.iconst 0, 1) := by decide +kernel
theorem zd_M_unit_3 : decode zb_M_unit 3 = .ok (.bipush 7, 2) := by decide +kernel
theorem zd_M_unit_5 : decode zb_M_unit 5 = .ok (.invokestatic 82, 3) := by decide +kernel
theorem zd_M_unit_8 : decode zb_M_unit 8 = .ok (.ifCond .eq 13, 3) := by decide +kernel
theorem zd_M_unit_11 : decode zb_M_unit 11 = .ok (.iload_n 2, 1) := by decide +kernel
theorem zd_M_unit_12 : decode zb_M_unit 12 = .ok (.iconst 1, 1) := by decide +kernel
theorem zd_M_unit_13 : decode zb_M_unit 13 = .ok (.bipush 100, 2) := by decide +kernel
theorem zd_M_unit_15 : decode zb_M_unit 15 = .ok (.invokestatic 82, 3) := by decide +kernel
theorem zd_M_unit_18 : decode zb_M_unit 18 = .ok (.ifCond .ne 7, 3) := by decide +kernel
theorem zd_M_unit_21 : decode zb_M_unit 21 = .ok (.iconst 1, 1) := by decide +kernel
theorem zd_M_unit_22 : decode zb_M_unit 22 = .ok (.goto 17, 3) := by decide +kernel
theorem zd_M_unit_25 : decode zb_M_unit 25 = .ok (.aload_n 0, 1) := by decide +kernel
theorem zd_M_unit_26 : decode zb_M_unit 26 = .ok (.getfield 79, 3) := by decide +kernel
theorem zd_M_unit_29 : decode zb_M_unit 29 = .ok (.bipush 12, 2) := by decide +kernel
theorem zd_M_unit_31 : decode zb_M_unit 31 = .ok (.if_icmp .ne 7, 3) := by decide +kernel
theorem zd_M_unit_34 : decode zb_M_unit 34 = .ok (.iconst 2, 1) := by decide +kernel
theorem zd_M_unit_35 : decode zb_M_unit 35 = .ok (.goto 4, 3) := by decide +kernel
theorem zd_M_unit_38 : decode zb_M_unit 38 = .ok (.iconst 0, 1) := by decide +kernel
theorem zd_M_unit_39 : decode zb_M_unit 39 = .ok (.putfield 76, 3) := by decide +kernel
theorem zd_M_unit_42 : decode zb_M_unit 42 = .ok (.aload_n 0, 1) := by decide +kernel
theorem zd_M_unit_43 : decode zb_M_unit 43 = .ok (.getfield 76, 3) := by decide +kernel
theorem zd_M_unit_46 : decode zb_M_unit 46 = .ok (.ifCond .le 5, 3) := by decide +kernel
theorem zd_M_unit_49 : decode zb_M_unit 49 = .ok (.iconst 0, 1) := by decide +kernel
theorem zd_M_unit_50 : decode zb_M_unit 50 = .ok (.ireturn, 1) := by decide +kernel
theorem zd_M_unit_51 : decode zb_M_unit 51 = .ok (.aload_n 0, 1) := by decide +kernel
theorem zd_M_unit_52 : decode zb_M_unit 52 = .ok (.getfield 7, 3) := by decide +kernel
theorem zd_M_unit_55 : decode zb_M_unit 55 = .ok (.aload_n 0, 1) := by decide +kernel
theorem zd_M_unit_56 : decode zb_M_unit 56 = .ok (.getfield 79, 3) := by decide +kernel
theorem zd_M_unit_59 : decode zb_M_unit 59 = .ok (.iload_n 1, 1) := by decide +kernel
theorem zd_M_unit_60 : decode zb_M_unit 60 = .ok (.iastore, 1) := by decide +kernel
theorem zd_M_unit_61 : decode zb_M_unit 61 = .ok (.aload_n 0, 1) := by decide +kernel
theorem zd_M_unit_62 : decode zb_M_unit 62 = .ok (.getfield 13, 3) := by decide +kernel
theorem zd_M_unit_65 : decode zb_M_unit 65 = .ok (.aload_n 0, 1) := by decide +kernel
theorem zd_M_unit_66 : decode zb_M_unit 66 = .ok (.getfield 79, 3) := by decide +kernel
theorem zd_M_unit_69 : decode zb_M_unit 69 = .ok (.iload_n 2, 1) := by decide +kernel
theorem zd_M_unit_70 : decode zb_M_unit 70 = .ok (.iastore, 1) := by decide +kernel
theorem zd_M_unit_71 : decode zb_M_unit 71 = .ok (.aload_n 0, 1) := by decide +kernel
theorem zd_M_unit_72 : decode zb_M_unit 72 = .ok (.getfield 16, 3) := by decide +kernel
theorem zd_M_unit_75 : decode zb_M_unit 75 = .ok (.aload_n 0, 1) := by decide +kernel
theorem zd_M_unit_76 : decode zb_M_unit 76 = .ok (.getfield 79, 3) := by decide +kernel
theorem zd_M_unit_79 : decode zb_M_unit 79 = .ok (.aload_n 0, 1) := by decide +kernel
theorem zd_M_unit_80 : decode zb_M_unit 80 = .ok (.getfield 79, 3) := by decide +kernel
theorem zd_M_unit_83 : decode zb_M_unit 83 = .ok (.iastore, 1) := by decide +kernel
theorem zd_M_unit_84 : decode zb_M_unit 84 = .ok (.aload_n 0, 1) := by decide +kernel
theorem zd_M_unit_85 : decode zb_M_unit 85 = .ok (.getfield 19, 3) := by decide +kernel
theorem zd_M_unit_88 : decode zb_M_unit 88 = .ok (.aload_n 0, 1) := by decide +kernel
theorem zd_M_unit_89 : decode zb_M_unit 89 = .ok (.getfield 79, 3) := by decide +kernel
theorem zd_M_unit_92 : decode zb_M_unit 92 = .ok (.iconst (-1), 1) := by decide +kernel
theorem zd_M_unit_93 : decode zb_M_unit 93 = .ok (.iastore, 1) := by decide +kernel
theorem zd_M_unit_94 : decode zb_M_unit 94 = .ok (.aload_n 0, 1) := by decide +kernel
theorem zd_M_unit_95 : decode zb_M_unit 95 = .ok (.getfield 22, 3) := by decide +kernel
theorem zd_M_unit_98 : decode zb_M_unit 98 = .ok (.aload_n 0, 1) := by decide +kernel
theorem zd_M_unit_99 : decode zb_M_unit 99 = .ok (.getfield 79, 3) := by decide +kernel
theorem zd_M_unit_102 : decode zb_M_unit 102 = .ok (.iconst (-1), 1) := by decide +kernel
theorem zd_M_unit_103 : decode zb_M_unit 103 = .ok (.iastore, 1) := by decide +kernel
theorem zd_M_unit_104 : decode zb_M_unit 104 = .ok (.aload_n 0, 1) := by decide +kernel
theorem zd_M_unit_105 : decode zb_M_unit 105 = .ok (.dup, 1) := by decide +kernel
theorem zd_M_unit_106 : decode zb_M_unit 106 = .ok (.getfield 79, 3) := by decide +kernel
theorem zd_M_unit_109 : decode zb_M_unit 109 = .ok (.iconst 1, 1) := by decide +kernel
theorem zd_M_unit_110 : decode zb_M_unit 110 = .ok (.iadd, 1) := by decide +kernel
theorem zd_M_unit_111 : decode zb_M_unit 111 = .ok (.putfield 79, 3) := by decide +kernel
theorem zd_M_unit_114 : decode zb_M_unit 114 = .ok (.aload_n 0, 1) := by decide +kernel
theorem zd_M_unit_115 : decode zb_M_unit 115 = .ok (.getfield 79, 3) := by decide +kernel
theorem zd_M_unit_118 : decode zb_M_unit 118 = .ok (.iconst 1, 1) := by decide +kernel
theorem zd_M_unit_119 : decode zb_M_unit 119 = .ok (.isub, 1) := by decide +kernel
theorem zd_M_unit_120 : decode zb_M_unit 120 = .ok (.ireturn, 1) := by decide +kernel
theorem zd_M_place_0 : decode zb_M_place 0 = .ok (.aload_n 0, 1) := by decide +kernel
theorem zd_M_place_1 : decode zb_M_place 1 = .ok (.iload_n 1, 1) := by decide +kernel
theorem zd_M_place_2 : decode zb_M_place 2 = .ok (.iconst 0, 1) := by decide +kernel
theorem zd_M_place_3 : decode zb_M_place 3 = .ok (.sipush 255, 3) := by decide +kernel
theorem zd_M_place_6 : decode zb_M_place 6 = .ok (.invokestatic 82, 3) := by decide +kernel
theorem zd_M_place_9 : decode zb_M_place 9 = .ok (.ifCond .eq 35, 3) := by decide +kernel
theorem zd_M_place_12 : decode zb_M_place 12 = .ok (.iload_n 2, 1) := by decide +kernel
theorem zd_M_place_13 : decode zb_M_place 13 = .ok (.iconst 0, 1) := by decide +kernel
theorem zd_M_place_14 : decode zb_M_place 14 = .ok (.iconst 3, 1) := by decide +kernel
theorem zd_M_place_15 : decode zb_M_place 15 = .ok (.invokestatic 82, 3) := by decide +kernel
theorem zd_M_place_18 : decode zb_M_place 18 = .ok (.ifCond .eq 26, 3) := by decide +kernel
theorem zd_M_place_21 : decode zb_M_place 21 = .ok (.iload_n 3, 1) := by decide +kernel
theorem zd_M_place_22 : decode zb_M_place 22 = .ok (.iconst 0, 1) := by decide +kernel
theorem zd_M_place_23 : decode zb_M_place 23 = .ok (.sipush 1000, 3) := by decide +kernel
theorem zd_M_place_26 : decode zb_M_place 26 = .ok (.invokestatic 82, 3) := by decide +kernel
theorem zd_M_place_29 : decode zb_M_place 29 = .ok (.ifCond .eq 15, 3) := by decide +kernel
theorem zd_M_place_32 : decode zb_M_place 32 = .ok (.iload 4, 2) := by decide +kernel
theorem zd_M_place_34 : decode zb_M_place 34 = .ok (.iconst 0, 1) := by decide +kernel
theorem zd_M_place_35 : decode zb_M_place 35 = .ok (.sipush 1000, 3) := by decide +kernel
theorem zd_M_place_38 : decode zb_M_place 38 = .ok (.invokestatic 82, 3) := by decide +kernel
theorem zd_M_place_41 : decode zb_M_place 41 = .ok (.ifCond .ne 7, 3) := by decide +kernel
theorem zd_M_place_44 : decode zb_M_place 44 = .ok (.iconst 1, 1) := by decide +kernel
theorem zd_M_place_45 : decode zb_M_place 45 = .ok (.goto 17, 3) := by decide +kernel
theorem zd_M_place_48 : decode zb_M_place 48 = .ok (.aload_n 0, 1) := by decide +kernel
theorem zd_M_place_49 : decode zb_M_place 49 = .ok (.getfield 86, 3) := by decide +kernel
theorem zd_M_place_52 : decode zb_M_place 52 = .ok (.bipush 12, 2) := by decide +kernel
theorem zd_M_place_54 : decode zb_M_place 54 = .ok (.if_icmp .ne 7, 3) := by decide +kernel
theorem zd_M_place_57 : decode zb_M_place 57 = .ok (.iconst 2, 1) := by decide +kernel
theorem zd_M_place_58 : decode zb_M_place 58 = .ok (.goto 4, 3) := by decide +kernel
theorem zd_M_place_61 : decode zb_M_place 61 = .ok (.iconst 0, 1) := by decide +kernel
theorem zd_M_place_62 : decode zb_M_place 62 = .ok (.putfield 76, 3) := by decide +kernel
theorem zd_M_place_65 : decode zb_M_place 65 = .ok (.aload_n 0, 1) := by decide +kernel
theorem zd_M_place_66 : decode zb_M_place 66 = .ok (.getfield 76, 3) := by decide +kernel
theorem zd_M_place_69 : decode zb_M_place 69 = .ok (.ifCond .le 5, 3) := by decide +kernel
theorem zd_M_place_72 : decode zb_M_place 72 = .ok (.iconst 0, 1) := by decide +kernel
theorem zd_M_place_73 : decode zb_M_place 73 = .ok (.ireturn, 1) := by decide +kernel
theorem zd_M_place_74 : decode zb_M_place 74 = .ok (.aload_n 0, 1) := by decide +kernel
theorem zd_M_place_75 : decode zb_M_place 75 = .ok (.getfield 35, 3) := by decide +kernel
theorem zd_M_place_78 : decode zb_M_place 78 = .ok (.aload_n 0, 1) := by decide +kernel
theorem zd_M_place_79 : decode zb_M_place 79 = .ok (.getfield 86, 3) := by decide +kernel
theorem zd_M_place_82 : decode zb_M_place 82 = .ok (.iload_n 1, 1) := by decide +kernel
theorem zd_M_place_83 : decode zb_M_place 83 = .ok (.iastore, 1) := by decide +kernel
theorem zd_M_place_84 : decode zb_M_place 84 = .ok (.aload_n 0, 1) := by decide +kernel
theorem zd_M_place_85 : decode zb_M_place 85 = .ok (.getfield 38, 3) := by decide +kernel
theorem zd_M_place_88 : decode zb_M_place 88 = .ok (.aload_n 0, 1) := by decide +kernel
theorem zd_M_place_89 : decode zb_M_place 89 = .ok (.getfield 86, 3) := by decide +kernel
theorem zd_M_place_92 : decode zb_M_place 92 = .ok (.iload_n 2, 1) := by decide +kernel
theorem zd_M_place_93 : decode zb_M_place 93 = .ok (.iastore, 1) := by decide +kernel
theorem zd_M_place_94 : decode zb_M_place 94 = .ok (.aload_n 0, 1) := by decide +kernel
theorem zd_M_place_95 : decode zb_M_place 95 = .ok (.getfield 41, 3) := by decide +kernel
theorem zd_M_place_98 : decode zb_M_place 98 = .ok (.aload_n 0, 1) := by decide +kernel
theorem zd_M_place_99 : decode zb_M_place 99 = .ok (.getfield 86, 3) := by decide +kernel
theorem zd_M_place_102 : decode zb_M_place 102 = .ok (.iload_n 3, 1) := by decide +kernel
theorem zd_M_place_103 : decode zb_M_place 103 = .ok (.iastore, 1) := by decide +kernel
theorem zd_M_place_104 : decode zb_M_place 104 = .ok (.aload_n 0, 1) := by decide +kernel
theorem zd_M_place_105 : decode zb_M_place 105 = .ok (.getfield 44, 3) := by decide +kernel
theorem zd_M_place_108 : decode zb_M_place 108 = .ok (.aload_n 0, 1) := by decide +kernel
theorem zd_M_place_109 : decode zb_M_place 109 = .ok (.getfield 86, 3) := by decide +kernel
theorem zd_M_place_112 : decode zb_M_place 112 = .ok (.iload 4, 2) := by decide +kernel
theorem zd_M_place_114 : decode zb_M_place 114 = .ok (.iastore, 1) := by decide +kernel
theorem zd_M_place_115 : decode zb_M_place 115 = .ok (.aload_n 0, 1) := by decide +kernel
theorem zd_M_place_116 : decode zb_M_place 116 = .ok (.dup, 1) := by decide +kernel
theorem zd_M_place_117 : decode zb_M_place 117 = .ok (.getfield 86, 3) := by decide +kernel
theorem zd_M_place_120 : decode zb_M_place 120 = .ok (.iconst 1, 1) := by decide +kernel
theorem zd_M_place_121 : decode zb_M_place 121 = .ok (.iadd, 1) := by decide +kernel
theorem zd_M_place_122 : decode zb_M_place 122 = .ok (.putfield 86, 3) := by decide +kernel
theorem zd_M_place_125 : decode zb_M_place 125 = .ok (.aload_n 0, 1) := by decide +kernel
theorem zd_M_place_126 : decode zb_M_place 126 = .ok (.getfield 86, 3) := by decide +kernel
theorem zd_M_place_129 : decode zb_M_place 129 = .ok (.iconst 1, 1) := by decide +kernel
theorem zd_M_place_130 : decode zb_M_place 130 = .ok (.isub, 1) := by decide +kernel
theorem zd_M_place_131 : decode zb_M_place 131 = .ok (.ireturn, 1) := by decide +kernel
theorem zd_M_weight_0 : decode zb_M_weight 0 = .ok (.aload_n 0, 1) := by decide +kernel
theorem zd_M_weight_1 : decode zb_M_weight 1 = .ok (.iload_n 1, 1) := by decide +kernel
theorem zd_M_weight_2 : decode zb_M_weight 2 = .ok (.iconst 0, 1) := by decide +kernel
theorem zd_M_weight_3 : decode zb_M_weight 3 = .ok (.bipush 7, 2) := by decide +kernel
theorem zd_M_weight_5 : decode zb_M_weight 5 = .ok (.invokestatic 82, 3) := by decide +kernel
theorem zd_M_weight_8 : decode zb_M_weight 8 = .ok (.ifCond .eq 17, 3) := by decide +kernel
theorem zd_M_weight_11 : decode zb_M_weight 11 = .ok (.iload_n 2, 1) := by decide +kernel
theorem zd_M_weight_12 : decode zb_M_weight 12 = .ok (.iconst 0, 1) := by decide +kernel
theorem zd_M_weight_13 : decode zb_M_weight 13 = .ok (.bipush 100, 2) := by decide +kernel
theorem zd_M_weight_15 : decode zb_M_weight 15 = .ok (.invokestatic 82, 3) := by decide +kernel
theorem zd_M_weight_18 : decode zb_M_weight 18 = .ok (.ifCond .eq 7, 3) := by decide +kernel
theorem zd_M_weight_21 : decode zb_M_weight 21 = .ok (.iconst 0, 1) := by decide +kernel
theorem zd_M_weight_22 : decode zb_M_weight 22 = .ok (.goto 4, 3) := by decide +kernel
theorem zd_M_weight_25 : decode zb_M_weight 25 = .ok (.iconst 1, 1) := by decide +kernel
theorem zd_M_weight_26 : decode zb_M_weight 26 = .ok (.putfield 76, 3) := by decide +kernel
theorem zd_M_weight_29 : decode zb_M_weight 29 = .ok (.aload_n 0, 1) := by decide +kernel
theorem zd_M_weight_30 : decode zb_M_weight 30 = .ok (.getfield 76, 3) := by decide +kernel
theorem zd_M_weight_33 : decode zb_M_weight 33 = .ok (.ifCond .ne 10, 3) := by decide +kernel
theorem zd_M_weight_36 : decode zb_M_weight 36 = .ok (.aload_n 0, 1) := by decide +kernel
theorem zd_M_weight_37 : decode zb_M_weight 37 = .ok (.getfield 50, 3) := by decide +kernel
theorem zd_M_weight_40 : decode zb_M_weight 40 = .ok (.iload_n 1, 1) := by decide +kernel
theorem zd_M_weight_41 : decode zb_M_weight 41 = .ok (.iload_n 2, 1) := by decide +kernel
theorem zd_M_weight_42 : decode zb_M_weight 42 = .ok (.iastore, 1) := by decide +kernel
theorem zd_M_weight_43 : decode zb_M_weight 43 = .ok (.return_, 1) := by decide +kernel
theorem zd_M_fits_0 : decode zb_M_fits 0 = .ok (.aload_n 0, 1) := by decide +kernel
theorem zd_M_fits_1 : decode zb_M_fits 1 = .ok (.aload_n 0, 1) := by decide +kernel
theorem zd_M_fits_2 : decode zb_M_fits 2 = .ok (.iload_n 1, 1) := by decide +kernel
theorem zd_M_fits_3 : decode zb_M_fits 3 = .ok (.invokevirtual 89, 3) := by decide +kernel
theorem zd_M_fits_6 : decode zb_M_fits 6 = .ok (.ifCond .eq 15, 3) := by decide +kernel
theorem zd_M_fits_9 : decode zb_M_fits 9 = .ok (.aload_n 0, 1) := by decide +kernel
theorem zd_M_fits_10 : decode zb_M_fits 10 = .ok (.iload_n 2, 1) := by decide +kernel
theorem zd_M_fits_11 : decode zb_M_fits 11 = .ok (.invokevirtual 93, 3) := by decide +kernel
theorem zd_M_fits_14 : decode zb_M_fits 14 = .ok (.ifCond .eq 7, 3) := by decide +kernel
theorem zd_M_fits_17 : decode zb_M_fits 17 = .ok (.iconst 0, 1) := by decide +kernel
theorem zd_M_fits_18 : decode zb_M_fits 18 = .ok (.goto 4, 3) := by decide +kernel
theorem zd_M_fits_21 : decode zb_M_fits 21 = .ok (.iconst 1, 1) := by decide +kernel
theorem zd_M_fits_22 : decode zb_M_fits 22 = .ok (.putfield 76, 3) := by decide +kernel
theorem zd_M_fits_25 : decode zb_M_fits 25 = .ok (.aload_n 0, 1) := by decide +kernel
theorem zd_M_fits_26 : decode zb_M_fits 26 = .ok (.getfield 76, 3) := by decide +kernel
theorem zd_M_fits_29 : decode zb_M_fits 29 = .ok (.ifCond .ne 23, 3) := by decide +kernel
theorem zd_M_fits_32 : decode zb_M_fits 32 = .ok (.aload_n 0, 1) := by decide +kernel
theorem zd_M_fits_33 : decode zb_M_fits 33 = .ok (.getfield 29, 3) := by decide +kernel
theorem zd_M_fits_36 : decode zb_M_fits 36 = .ok (.bipush 12, 2) := by decide +kernel
theorem zd_M_fits_38 : decode zb_M_fits 38 = .ok (.iload_n 1, 1) := by decide +kernel
theorem zd_M_fits_39 : decode zb_M_fits 39 = .ok (.imul, 1) := by decide +kernel
theorem zd_M_fits_40 : decode zb_M_fits 40 = .ok (.iload_n 2, 1) := by decide +kernel
theorem zd_M_fits_41 : decode zb_M_fits 41 = .ok (.iadd, 1) := by decide +kernel
theorem zd_M_fits_42 : decode zb_M_fits 42 = .ok (.iload_n 3, 1) := by decide +kernel
theorem zd_M_fits_43 : decode zb_M_fits 43 = .ok (.ifCond .ne 7, 3) := by decide +kernel
theorem zd_M_fits_46 : decode zb_M_fits 46 = .ok (.iconst 1, 1) := by decide +kernel
theorem zd_M_fits_47 : decode zb_M_fits 47 = .ok (.goto 4, 3) := by decide +kernel
theorem zd_M_fits_50 : decode zb_M_fits 50 = .ok (.iconst 0, 1) := by decide +kernel
theorem zd_M_fits_51 : decode zb_M_fits 51 = .ok (.bastore, 1) := by decide +kernel
theorem zd_M_fits_52 : decode zb_M_fits 52 = .ok (.return_, 1) := by decide +kernel
theorem zd_M_cost_0 : decode zb_M_cost 0 = .ok (.aload_n 0, 1) := by decide +kernel
theorem zd_M_cost_1 : decode zb_M_cost 1 = .ok (.aload_n 0, 1) := by decide +kernel
theorem zd_M_cost_2 : decode zb_M_cost 2 = .ok (.iload_n 1, 1) := by decide +kernel
theorem zd_M_cost_3 : decode zb_M_cost 3 = .ok (.invokevirtual 89, 3) := by decide +kernel
theorem zd_M_cost_6 : decode zb_M_cost 6 = .ok (.ifCond .eq 11, 3) := by decide +kernel
theorem zd_M_cost_9 : decode zb_M_cost 9 = .ok (.aload_n 0, 1) := by decide +kernel
theorem zd_M_cost_10 : decode zb_M_cost 10 = .ok (.iload_n 2, 1) := by decide +kernel
theorem zd_M_cost_11 : decode zb_M_cost 11 = .ok (.invokevirtual 93, 3) := by decide +kernel
theorem zd_M_cost_14 : decode zb_M_cost 14 = .ok (.ifCond .ne 7, 3) := by decide +kernel
theorem zd_M_cost_17 : decode zb_M_cost 17 = .ok (.iconst 1, 1) := by decide +kernel
theorem zd_M_cost_18 : decode zb_M_cost 18 = .ok (.goto 14, 3) := by decide +kernel
theorem zd_M_cost_21 : decode zb_M_cost 21 = .ok (.iload_n 3, 1) := by decide +kernel
theorem zd_M_cost_22 : decode zb_M_cost 22 = .ok (.ldc 96, 2) := by decide +kernel
theorem zd_M_cost_24 : decode zb_M_cost 24 = .ok (.if_icmp .le 7, 3) := by decide +kernel
theorem zd_M_cost_27 : decode zb_M_cost 27 = .ok (.iconst 2, 1) := by decide +kernel
theorem zd_M_cost_28 : decode zb_M_cost 28 = .ok (.goto 4, 3) := by decide +kernel
theorem zd_M_cost_31 : decode zb_M_cost 31 = .ok (.iconst 0, 1) := by decide +kernel
theorem zd_M_cost_32 : decode zb_M_cost 32 = .ok (.putfield 76, 3) := by decide +kernel
theorem zd_M_cost_35 : decode zb_M_cost 35 = .ok (.aload_n 0, 1) := by decide +kernel
theorem zd_M_cost_36 : decode zb_M_cost 36 = .ok (.getfield 76, 3) := by decide +kernel
theorem zd_M_cost_39 : decode zb_M_cost 39 = .ok (.ifCond .ne 23, 3) := by decide +kernel
theorem zd_M_cost_42 : decode zb_M_cost 42 = .ok (.aload_n 0, 1) := by decide +kernel
theorem zd_M_cost_43 : decode zb_M_cost 43 = .ok (.getfield 32, 3) := by decide +kernel
theorem zd_M_cost_46 : decode zb_M_cost 46 = .ok (.bipush 12, 2) := by decide +kernel
theorem zd_M_cost_48 : decode zb_M_cost 48 = .ok (.iload_n 1, 1) := by decide +kernel
theorem zd_M_cost_49 : decode zb_M_cost 49 = .ok (.imul, 1) := by decide +kernel
theorem zd_M_cost_50 : decode zb_M_cost 50 = .ok (.iload_n 2, 1) := by decide +kernel
theorem zd_M_cost_51 : decode zb_M_cost 51 = .ok (.iadd, 1) := by decide +kernel
theorem zd_M_cost_52 : decode zb_M_cost 52 = .ok (.iload_n 3, 1) := by decide +kernel
theorem zd_M_cost_53 : decode zb_M_cost 53 = .ok (.ifCond .ge 7, 3) := by decide +kernel
theorem zd_M_cost_56 : decode zb_M_cost 56 = .ok (.iconst (-1), 1) := by decide +kernel
theorem zd_M_cost_57 : decode zb_M_cost 57 = .ok (.goto 4, 3) := by decide +kernel
theorem zd_M_cost_60 : decode zb_M_cost 60 = .ok (.iload_n 3, 1) := by decide +kernel
theorem zd_M_cost_61 : decode zb_M_cost 61 = .ok (.iastore, 1) := by decide +kernel
theorem zd_M_cost_62 : decode zb_M_cost 62 = .ok (.return_, 1) := by decide +kernel
theorem zd_M_together_0 : decode zb_M_together 0 = .ok (.aload_n 0, 1) := by decide +kernel
theorem zd_M_together_1 : decode zb_M_together 1 = .ok (.aload_n 0, 1) := by decide +kernel
theorem zd_M_together_2 : decode zb_M_together 2 = .ok (.iload_n 1, 1) := by decide +kernel
theorem zd_M_together_3 : decode zb_M_together 3 = .ok (.invokevirtual 89, 3) := by decide +kernel
theorem zd_M_together_6 : decode zb_M_together 6 = .ok (.ifCond .eq 11, 3) := by decide +kernel
theorem zd_M_together_9 : decode zb_M_together 9 = .ok (.aload_n 0, 1) := by decide +kernel
theorem zd_M_together_10 : decode zb_M_together 10 = .ok (.iload_n 2, 1) := by decide +kernel
theorem zd_M_together_11 : decode zb_M_together 11 = .ok (.invokevirtual 89, 3) := by decide +kernel
theorem zd_M_together_14 : decode zb_M_together 14 = .ok (.ifCond .ne 7, 3) := by decide +kernel
theorem zd_M_together_17 : decode zb_M_together 17 = .ok (.iconst 1, 1) := by decide +kernel
theorem zd_M_together_18 : decode zb_M_together 18 = .ok (.goto 4, 3) := by decide +kernel
theorem zd_M_together_21 : decode zb_M_together 21 = .ok (.iconst 0, 1) := by decide +kernel
theorem zd_M_together_22 : decode zb_M_together 22 = .ok (.putfield 76, 3) := by decide +kernel
theorem zd_M_together_25 : decode zb_M_together 25 = .ok (.aload_n 0, 1) := by decide +kernel
theorem zd_M_together_26 : decode zb_M_together 26 = .ok (.getfield 76, 3) := by decide +kernel
theorem zd_M_together_29 : decode zb_M_together 29 = .ok (.ifCond .ne 41, 3) := by decide +kernel
theorem zd_M_together_32 : decode zb_M_together 32 = .ok (.aload_n 0, 1) := by decide +kernel
theorem zd_M_together_33 : decode zb_M_together 33 = .ok (.getfield 25, 3) := by decide +kernel
theorem zd_M_together_36 : decode zb_M_together 36 = .ok (.iload_n 1, 1) := by decide +kernel
theorem zd_M_together_37 : decode zb_M_together 37 = .ok (.baload, 1) := by decide +kernel
theorem zd_M_together_38 : decode zb_M_together 38 = .ok (.ifCond .ne 27, 3) := by decide +kernel
theorem zd_M_together_41 : decode zb_M_together 41 = .ok (.aload_n 0, 1) := by decide +kernel
theorem zd_M_together_42 : decode zb_M_together 42 = .ok (.getfield 25, 3) := by decide +kernel
theorem zd_M_together_45 : decode zb_M_together 45 = .ok (.iload_n 2, 1) := by decide +kernel
theorem zd_M_together_46 : decode zb_M_together 46 = .ok (.baload, 1) := by decide +kernel
theorem zd_M_together_47 : decode zb_M_together 47 = .ok (.ifCond .ne 18, 3) := by decide +kernel
theorem zd_M_together_50 : decode zb_M_together 50 = .ok (.aload_n 0, 1) := by decide +kernel
theorem zd_M_together_51 : decode zb_M_together 51 = .ok (.getfield 16, 3) := by decide +kernel
theorem zd_M_together_54 : decode zb_M_together 54 = .ok (.iload_n 1, 1) := by decide +kernel
theorem zd_M_together_55 : decode zb_M_together 55 = .ok (.iaload, 1) := by decide +kernel
theorem zd_M_together_56 : decode zb_M_together 56 = .ok (.aload_n 0, 1) := by decide +kernel
theorem zd_M_together_57 : decode zb_M_together 57 = .ok (.getfield 16, 3) := by decide +kernel
theorem zd_M_together_60 : decode zb_M_together 60 = .ok (.iload_n 2, 1) := by decide +kernel
theorem zd_M_together_61 : decode zb_M_together 61 = .ok (.iaload, 1) := by decide +kernel
theorem zd_M_together_62 : decode zb_M_together 62 = .ok (.if_icmp .ne 8, 3) := by decide +kernel
theorem zd_M_together_65 : decode zb_M_together 65 = .ok (.aload_n 0, 1) := by decide +kernel
theorem zd_M_together_66 : decode zb_M_together 66 = .ok (.iconst 2, 1) := by decide +kernel
theorem zd_M_together_67 : decode zb_M_together 67 = .ok (.putfield 76, 3) := by decide +kernel
theorem zd_M_together_70 : decode zb_M_together 70 = .ok (.aload_n 0, 1) := by decide +kernel
theorem zd_M_together_71 : decode zb_M_together 71 = .ok (.getfield 76, 3) := by decide +kernel
theorem zd_M_together_74 : decode zb_M_together 74 = .ok (.ifCond .le 5, 3) := by decide +kernel
theorem zd_M_together_77 : decode zb_M_together 77 = .ok (.iconst 0, 1) := by decide +kernel
theorem zd_M_together_78 : decode zb_M_together 78 = .ok (.ireturn, 1) := by decide +kernel
theorem zd_M_together_79 : decode zb_M_together 79 = .ok (.aload_n 0, 1) := by decide +kernel
theorem zd_M_together_80 : decode zb_M_together 80 = .ok (.getfield 16, 3) := by decide +kernel
theorem zd_M_together_83 : decode zb_M_together 83 = .ok (.iload_n 1, 1) := by decide +kernel
theorem zd_M_together_84 : decode zb_M_together 84 = .ok (.iaload, 1) := by decide +kernel
theorem zd_M_together_85 : decode zb_M_together 85 = .ok (.aload_n 0, 1) := by decide +kernel
theorem zd_M_together_86 : decode zb_M_together 86 = .ok (.getfield 16, 3) := by decide +kernel
theorem zd_M_together_89 : decode zb_M_together 89 = .ok (.iload_n 2, 1) := by decide +kernel
theorem zd_M_together_90 : decode zb_M_together 90 = .ok (.iaload, 1) := by decide +kernel
theorem zd_M_together_91 : decode zb_M_together 91 = .ok (.if_icmp .ge 12, 3) := by decide +kernel
theorem zd_M_together_94 : decode zb_M_together 94 = .ok (.aload_n 0, 1) := by decide +kernel
theorem zd_M_together_95 : decode zb_M_together 95 = .ok (.getfield 16, 3) := by decide +kernel
theorem zd_M_together_98 : decode zb_M_together 98 = .ok (.iload_n 1, 1) := by decide +kernel
theorem zd_M_together_99 : decode zb_M_together 99 = .ok (.iaload, 1) := by decide +kernel
theorem zd_M_together_100 : decode zb_M_together 100 = .ok (.goto 9, 3) := by decide +kernel
theorem zd_M_together_103 : decode zb_M_together 103 = .ok (.aload_n 0, 1) := by decide +kernel
theorem zd_M_together_104 : decode zb_M_together 104 = .ok (.getfield 16, 3) := by decide +kernel
theorem zd_M_together_107 : decode zb_M_together 107 = .ok (.iload_n 2, 1) := by decide +kernel
theorem zd_M_together_108 : decode zb_M_together 108 = .ok (.iaload, 1) := by decide +kernel
theorem zd_M_together_109 : decode zb_M_together 109 = .ok (.istore_n 3, 1) := by decide +kernel
theorem zd_M_together_110 : decode zb_M_together 110 = .ok (.aload_n 0, 1) := by decide +kernel
theorem zd_M_together_111 : decode zb_M_together 111 = .ok (.getfield 16, 3) := by decide +kernel
theorem zd_M_together_114 : decode zb_M_together 114 = .ok (.iload_n 1, 1) := by decide +kernel
theorem zd_M_together_115 : decode zb_M_together 115 = .ok (.iaload, 1) := by decide +kernel
theorem zd_M_together_116 : decode zb_M_together 116 = .ok (.aload_n 0, 1) := by decide +kernel
theorem zd_M_together_117 : decode zb_M_together 117 = .ok (.getfield 16, 3) := by decide +kernel
theorem zd_M_together_120 : decode zb_M_together 120 = .ok (.iload_n 2, 1) := by decide +kernel
theorem zd_M_together_121 : decode zb_M_together 121 = .ok (.iaload, 1) := by decide +kernel
theorem zd_M_together_122 : decode zb_M_together 122 = .ok (.iadd, 1) := by decide +kernel
theorem zd_M_together_123 : decode zb_M_together 123 = .ok (.iload_n 3, 1) := by decide +kernel
theorem zd_M_together_124 : decode zb_M_together 124 = .ok (.isub, 1) := by decide +kernel
theorem zd_M_together_125 : decode zb_M_together 125 = .ok (.istore 4, 2) := by decide +kernel
theorem zd_M_together_127 : decode zb_M_together 127 = .ok (.iconst 0, 1) := by decide +kernel
theorem zd_M_together_128 : decode zb_M_together 128 = .ok (.istore 5, 2) := by decide +kernel
theorem zd_M_together_130 : decode zb_M_together 130 = .ok (.iconst 0, 1) := by decide +kernel
theorem zd_M_together_131 : decode zb_M_together 131 = .ok (.istore 6, 2) := by decide +kernel
theorem zd_M_together_133 : decode zb_M_together 133 = .ok (.iload 6, 2) := by decide +kernel
theorem zd_M_together_135 : decode zb_M_together 135 = .ok (.aload_n 0, 1) := by decide +kernel
theorem zd_M_together_136 : decode zb_M_together 136 = .ok (.getfield 79, 3) := by decide +kernel
theorem zd_M_together_139 : decode zb_M_together 139 = .ok (.if_icmp .ge 54, 3) := by decide +kernel
theorem zd_M_together_142 : decode zb_M_together 142 = .ok (.aload_n 0, 1) := by decide +kernel
theorem zd_M_together_143 : decode zb_M_together 143 = .ok (.getfield 16, 3) := by decide +kernel
theorem zd_M_together_146 : decode zb_M_together 146 = .ok (.iload 6, 2) := by decide +kernel
theorem zd_M_together_148 : decode zb_M_together 148 = .ok (.iaload, 1) := by decide +kernel
theorem zd_M_together_149 : decode zb_M_together 149 = .ok (.iload_n 3, 1) := by decide +kernel
theorem zd_M_together_150 : decode zb_M_together 150 = .ok (.if_icmp .eq 18, 3) := by decide +kernel
theorem zd_M_together_153 : decode zb_M_together 153 = .ok (.aload_n 0, 1) := by decide +kernel
theorem zd_M_together_154 : decode zb_M_together 154 = .ok (.getfield 16, 3) := by decide +kernel
theorem zd_M_together_157 : decode zb_M_together 157 = .ok (.iload 6, 2) := by decide +kernel
theorem zd_M_together_159 : decode zb_M_together 159 = .ok (.iaload, 1) := by decide +kernel
theorem zd_M_together_160 : decode zb_M_together 160 = .ok (.iload 4, 2) := by decide +kernel
theorem zd_M_together_162 : decode zb_M_together 162 = .ok (.if_icmp .eq 6, 3) := by decide +kernel
theorem zd_M_together_165 : decode zb_M_together 165 = .ok (.goto 22, 3) := by decide +kernel
theorem zd_M_together_168 : decode zb_M_together 168 = .ok (.aload_n 0, 1) := by decide +kernel
theorem zd_M_together_169 : decode zb_M_together 169 = .ok (.getfield 16, 3) := by decide +kernel
theorem zd_M_together_172 : decode zb_M_together 172 = .ok (.iload 6, 2) := by decide +kernel
theorem zd_M_together_174 : decode zb_M_together 174 = .ok (.iload_n 3, 1) := by decide +kernel
theorem zd_M_together_175 : decode zb_M_together 175 = .ok (.iastore, 1) := by decide +kernel
theorem zd_M_together_176 : decode zb_M_together 176 = .ok (.aload_n 0, 1) := by decide +kernel
theorem zd_M_together_177 : decode zb_M_together 177 = .ok (.getfield 22, 3) := by decide +kernel
theorem zd_M_together_180 : decode zb_M_together 180 = .ok (.iload 6, 2) := by decide +kernel
theorem zd_M_together_182 : decode zb_M_together 182 = .ok (.iconst (-1), 1) := by decide +kernel
theorem zd_M_together_183 : decode zb_M_together 183 = .ok (.iastore, 1) := by decide +kernel
theorem zd_M_together_184 : decode zb_M_together 184 = .ok (.iinc 5 1, 3) := by decide +kernel
theorem zd_M_together_187 : decode zb_M_together 187 = .ok (.iinc 6 1, 3) := by decide +kernel
theorem zd_M_together_190 : decode zb_M_together 190 = .ok (.goto (-57), 3) := by decide +kernel
theorem zd_M_together_193 : decode zb_M_together 193 = .ok (.iload 5, 2) := by decide +kernel
theorem zd_M_together_195 : decode zb_M_together 195 = .ok (.ireturn, 1) := by decide +kernel
theorem zd_M_fix_0 : decode zb_M_fix 0 = .ok (.aload_n 0, 1) := by decide +kernel
theorem zd_M_fix_1 : decode zb_M_fix 1 = .ok (.aload_n 0, 1) := by decide +kernel
theorem zd_M_fix_2 : decode zb_M_fix 2 = .ok (.iload_n 1, 1) := by decide +kernel
theorem zd_M_fix_3 : decode zb_M_fix 3 = .ok (.invokevirtual 89, 3) := by decide +kernel
theorem zd_M_fix_6 : decode zb_M_fix 6 = .ok (.ifCond .eq 16, 3) := by decide +kernel
theorem zd_M_fix_9 : decode zb_M_fix 9 = .ok (.iload_n 2, 1) := by decide +kernel
theorem zd_M_fix_10 : decode zb_M_fix 10 = .ok (.iconst (-1), 1) := by decide +kernel
theorem zd_M_fix_11 : decode zb_M_fix 11 = .ok (.if_icmp .eq 15, 3) := by decide +kernel
theorem zd_M_fix_14 : decode zb_M_fix 14 = .ok (.aload_n 0, 1) := by decide +kernel
theorem zd_M_fix_15 : decode zb_M_fix 15 = .ok (.iload_n 2, 1) := by decide +kernel
theorem zd_M_fix_16 : decode zb_M_fix 16 = .ok (.invokevirtual 93, 3) := by decide +kernel
theorem zd_M_fix_19 : decode zb_M_fix 19 = .ok (.ifCond .ne 7, 3) := by decide +kernel
theorem zd_M_fix_22 : decode zb_M_fix 22 = .ok (.iconst 1, 1) := by decide +kernel
theorem zd_M_fix_23 : decode zb_M_fix 23 = .ok (.goto 4, 3) := by decide +kernel
theorem zd_M_fix_26 : decode zb_M_fix 26 = .ok (.iconst 0, 1) := by decide +kernel
theorem zd_M_fix_27 : decode zb_M_fix 27 = .ok (.putfield 76, 3) := by decide +kernel
theorem zd_M_fix_30 : decode zb_M_fix 30 = .ok (.aload_n 0, 1) := by decide +kernel
theorem zd_M_fix_31 : decode zb_M_fix 31 = .ok (.getfield 76, 3) := by decide +kernel
theorem zd_M_fix_34 : decode zb_M_fix 34 = .ok (.ifCond .ne 21, 3) := by decide +kernel
theorem zd_M_fix_37 : decode zb_M_fix 37 = .ok (.aload_n 0, 1) := by decide +kernel
theorem zd_M_fix_38 : decode zb_M_fix 38 = .ok (.aload_n 0, 1) := by decide +kernel
theorem zd_M_fix_39 : decode zb_M_fix 39 = .ok (.getfield 25, 3) := by decide +kernel
theorem zd_M_fix_42 : decode zb_M_fix 42 = .ok (.iload_n 1, 1) := by decide +kernel
theorem zd_M_fix_43 : decode zb_M_fix 43 = .ok (.baload, 1) := by decide +kernel
theorem zd_M_fix_44 : decode zb_M_fix 44 = .ok (.ifCond .eq 7, 3) := by decide +kernel
theorem zd_M_fix_47 : decode zb_M_fix 47 = .ok (.iconst 2, 1) := by decide +kernel
theorem zd_M_fix_48 : decode zb_M_fix 48 = .ok (.goto 4, 3) := by decide +kernel
theorem zd_M_fix_51 : decode zb_M_fix 51 = .ok (.iconst 0, 1) := by decide +kernel
theorem zd_M_fix_52 : decode zb_M_fix 52 = .ok (.putfield 76, 3) := by decide +kernel
theorem zd_M_fix_55 : decode zb_M_fix 55 = .ok (.aload_n 0, 1) := by decide +kernel
theorem zd_M_fix_56 : decode zb_M_fix 56 = .ok (.getfield 76, 3) := by decide +kernel
theorem zd_M_fix_59 : decode zb_M_fix 59 = .ok (.ifCond .ne 10, 3) := by decide +kernel
theorem zd_M_fix_62 : decode zb_M_fix 62 = .ok (.aload_n 0, 1) := by decide +kernel
theorem zd_M_fix_63 : decode zb_M_fix 63 = .ok (.getfield 19, 3) := by decide +kernel
theorem zd_M_fix_66 : decode zb_M_fix 66 = .ok (.iload_n 1, 1) := by decide +kernel
theorem zd_M_fix_67 : decode zb_M_fix 67 = .ok (.iload_n 2, 1) := by decide +kernel
theorem zd_M_fix_68 : decode zb_M_fix 68 = .ok (.iastore, 1) := by decide +kernel
theorem zd_M_fix_69 : decode zb_M_fix 69 = .ok (.return_, 1) := by decide +kernel
theorem zd_M_limits_0 : decode zb_M_limits 0 = .ok (.aload_n 0, 1) := by decide +kernel
theorem zd_M_limits_1 : decode zb_M_limits 1 = .ok (.iload_n 1, 1) := by decide +kernel
theorem zd_M_limits_2 : decode zb_M_limits 2 = .ok (.iconst 0, 1) := by decide +kernel
theorem zd_M_limits_3 : decode zb_M_limits 3 = .ok (.bipush 8, 2) := by decide +kernel
theorem zd_M_limits_5 : decode zb_M_limits 5 = .ok (.invokestatic 82, 3) := by decide +kernel
theorem zd_M_limits_8 : decode zb_M_limits 8 = .ok (.ifCond .eq 18, 3) := by decide +kernel
theorem zd_M_limits_11 : decode zb_M_limits 11 = .ok (.iload_n 2, 1) := by decide +kernel
theorem zd_M_limits_12 : decode zb_M_limits 12 = .ok (.iconst 1, 1) := by decide +kernel
theorem zd_M_limits_13 : decode zb_M_limits 13 = .ok (.sipush 1000, 3) := by decide +kernel
theorem zd_M_limits_16 : decode zb_M_limits 16 = .ok (.invokestatic 82, 3) := by decide +kernel
theorem zd_M_limits_19 : decode zb_M_limits 19 = .ok (.ifCond .eq 7, 3) := by decide +kernel
theorem zd_M_limits_22 : decode zb_M_limits 22 = .ok (.iconst 0, 1) := by decide +kernel
theorem zd_M_limits_23 : decode zb_M_limits 23 = .ok (.goto 4, 3) := by decide +kernel
theorem zd_M_limits_26 : decode zb_M_limits 26 = .ok (.iconst 1, 1) := by decide +kernel
theorem zd_M_limits_27 : decode zb_M_limits 27 = .ok (.putfield 76, 3) := by decide +kernel
theorem zd_M_limits_30 : decode zb_M_limits 30 = .ok (.aload_n 0, 1) := by decide +kernel
theorem zd_M_limits_31 : decode zb_M_limits 31 = .ok (.getfield 76, 3) := by decide +kernel
theorem zd_M_limits_34 : decode zb_M_limits 34 = .ok (.ifCond .le 4, 3) := by decide +kernel
theorem zd_M_limits_37 : decode zb_M_limits 37 = .ok (.return_, 1) := by decide +kernel
theorem zd_M_limits_38 : decode zb_M_limits 38 = .ok (.aload_n 0, 1) := by decide +kernel
theorem zd_M_limits_39 : decode zb_M_limits 39 = .ok (.iload_n 1, 1) := by decide +kernel
theorem zd_M_limits_40 : decode zb_M_limits 40 = .ok (.putfield 53, 3) := by decide +kernel
theorem zd_M_limits_43 : decode zb_M_limits 43 = .ok (.aload_n 0, 1) := by decide +kernel
theorem zd_M_limits_44 : decode zb_M_limits 44 = .ok (.iload_n 2, 1) := by decide +kernel
theorem zd_M_limits_45 : decode zb_M_limits 45 = .ok (.putfield 57, 3) := by decide +kernel
theorem zd_M_limits_48 : decode zb_M_limits 48 = .ok (.return_, 1) := by decide +kernel
theorem zd_M_sizeOf_0 : decode zb_M_sizeOf 0 = .ok (.iconst 0, 1) := by decide +kernel
theorem zd_M_sizeOf_1 : decode zb_M_sizeOf 1 = .ok (.istore_n 2, 1) := by decide +kernel
theorem zd_M_sizeOf_2 : decode zb_M_sizeOf 2 = .ok (.iconst 0, 1) := by decide +kernel
theorem zd_M_sizeOf_3 : decode zb_M_sizeOf 3 = .ok (.istore_n 3, 1) := by decide +kernel
theorem zd_M_sizeOf_4 : decode zb_M_sizeOf 4 = .ok (.iload_n 3, 1) := by decide +kernel
theorem zd_M_sizeOf_5 : decode zb_M_sizeOf 5 = .ok (.aload_n 0, 1) := by decide +kernel
theorem zd_M_sizeOf_6 : decode zb_M_sizeOf 6 = .ok (.getfield 79, 3) := by decide +kernel
theorem zd_M_sizeOf_9 : decode zb_M_sizeOf 9 = .ok (.if_icmp .ge 32, 3) := by decide +kernel
theorem zd_M_sizeOf_12 : decode zb_M_sizeOf 12 = .ok (.iload_n 2, 1) := by decide +kernel
theorem zd_M_sizeOf_13 : decode zb_M_sizeOf 13 = .ok (.aload_n 0, 1) := by decide +kernel
theorem zd_M_sizeOf_14 : decode zb_M_sizeOf 14 = .ok (.getfield 16, 3) := by decide +kernel
theorem zd_M_sizeOf_17 : decode zb_M_sizeOf 17 = .ok (.iload_n 3, 1) := by decide +kernel
theorem zd_M_sizeOf_18 : decode zb_M_sizeOf 18 = .ok (.iaload, 1) := by decide +kernel
theorem zd_M_sizeOf_19 : decode zb_M_sizeOf 19 = .ok (.iload_n 1, 1) := by decide +kernel
theorem zd_M_sizeOf_20 : decode zb_M_sizeOf 20 = .ok (.if_icmp .ne 12, 3) := by decide +kernel
theorem zd_M_sizeOf_23 : decode zb_M_sizeOf 23 = .ok (.aload_n 0, 1) := by decide +kernel
theorem zd_M_sizeOf_24 : decode zb_M_sizeOf 24 = .ok (.getfield 13, 3) := by decide +kernel
theorem zd_M_sizeOf_27 : decode zb_M_sizeOf 27 = .ok (.iload_n 3, 1) := by decide +kernel
theorem zd_M_sizeOf_28 : decode zb_M_sizeOf 28 = .ok (.iaload, 1) := by decide +kernel
theorem zd_M_sizeOf_29 : decode zb_M_sizeOf 29 = .ok (.goto 4, 3) := by decide +kernel
theorem zd_M_sizeOf_32 : decode zb_M_sizeOf 32 = .ok (.iconst 0, 1) := by decide +kernel
theorem zd_M_sizeOf_33 : decode zb_M_sizeOf 33 = .ok (.iadd, 1) := by decide +kernel
theorem zd_M_sizeOf_34 : decode zb_M_sizeOf 34 = .ok (.istore_n 2, 1) := by decide +kernel
theorem zd_M_sizeOf_35 : decode zb_M_sizeOf 35 = .ok (.iinc 3 1, 3) := by decide +kernel
theorem zd_M_sizeOf_38 : decode zb_M_sizeOf 38 = .ok (.goto (-34), 3) := by decide +kernel
theorem zd_M_sizeOf_41 : decode zb_M_sizeOf 41 = .ok (.iload_n 2, 1) := by decide +kernel
theorem zd_M_sizeOf_42 : decode zb_M_sizeOf 42 = .ok (.ireturn, 1) := by decide +kernel
theorem zd_M_keeps_0 : decode zb_M_keeps 0 = .ok (.iload_n 3, 1) := by decide +kernel
theorem zd_M_keeps_1 : decode zb_M_keeps 1 = .ok (.iconst 1, 1) := by decide +kernel
theorem zd_M_keeps_2 : decode zb_M_keeps 2 = .ok (.if_icmp .ne 18, 3) := by decide +kernel
theorem zd_M_keeps_5 : decode zb_M_keeps 5 = .ok (.aload_n 0, 1) := by decide +kernel
theorem zd_M_keeps_6 : decode zb_M_keeps 6 = .ok (.getfield 47, 3) := by decide +kernel
theorem zd_M_keeps_9 : decode zb_M_keeps 9 = .ok (.iload_n 2, 1) := by decide +kernel
theorem zd_M_keeps_10 : decode zb_M_keeps 10 = .ok (.baload, 1) := by decide +kernel
theorem zd_M_keeps_11 : decode zb_M_keeps 11 = .ok (.ifCond .ne 7, 3) := by decide +kernel
theorem zd_M_keeps_14 : decode zb_M_keeps 14 = .ok (.iconst 1, 1) := by decide +kernel
theorem zd_M_keeps_15 : decode zb_M_keeps 15 = .ok (.goto 4, 3) := by decide +kernel
theorem zd_M_keeps_18 : decode zb_M_keeps 18 = .ok (.iconst 0, 1) := by decide +kernel
theorem zd_M_keeps_19 : decode zb_M_keeps 19 = .ok (.ireturn, 1) := by decide +kernel
theorem zd_M_keeps_20 : decode zb_M_keeps 20 = .ok (.iload_n 3, 1) := by decide +kernel
theorem zd_M_keeps_21 : decode zb_M_keeps 21 = .ok (.iconst 4, 1) := by decide +kernel
theorem zd_M_keeps_22 : decode zb_M_keeps 22 = .ok (.if_icmp .ne 23, 3) := by decide +kernel
theorem zd_M_keeps_25 : decode zb_M_keeps 25 = .ok (.aload_n 0, 1) := by decide +kernel
theorem zd_M_keeps_26 : decode zb_M_keeps 26 = .ok (.iload_n 1, 1) := by decide +kernel
theorem zd_M_keeps_27 : decode zb_M_keeps 27 = .ok (.invokevirtual 97, 3) := by decide +kernel
theorem zd_M_keeps_30 : decode zb_M_keeps 30 = .ok (.aload_n 0, 1) := by decide +kernel
theorem zd_M_keeps_31 : decode zb_M_keeps 31 = .ok (.getfield 41, 3) := by decide +kernel
theorem zd_M_keeps_34 : decode zb_M_keeps 34 = .ok (.iload_n 2, 1) := by decide +kernel
theorem zd_M_keeps_35 : decode zb_M_keeps 35 = .ok (.iaload, 1) := by decide +kernel
theorem zd_M_keeps_36 : decode zb_M_keeps 36 = .ok (.if_icmp .gt 7, 3) := by decide +kernel
theorem zd_M_keeps_39 : decode zb_M_keeps 39 = .ok (.iconst 1, 1) := by decide +kernel
theorem zd_M_keeps_40 : decode zb_M_keeps 40 = .ok (.goto 4, 3) := by decide +kernel
theorem zd_M_keeps_43 : decode zb_M_keeps 43 = .ok (.iconst 0, 1) := by decide +kernel
theorem zd_M_keeps_44 : decode zb_M_keeps 44 = .ok (.ireturn, 1) := by decide +kernel
theorem zd_M_keeps_45 : decode zb_M_keeps 45 = .ok (.iconst 0, 1) := by decide +kernel
theorem zd_M_keeps_46 : decode zb_M_keeps 46 = .ok (.istore 4, 2) := by decide +kernel
theorem zd_M_keeps_48 : decode zb_M_keeps 48 = .ok (.iload 4, 2) := by decide +kernel
theorem zd_M_keeps_50 : decode zb_M_keeps 50 = .ok (.aload_n 0, 1) := by decide +kernel
theorem zd_M_keeps_51 : decode zb_M_keeps 51 = .ok (.getfield 79, 3) := by decide +kernel
theorem zd_M_keeps_54 : decode zb_M_keeps 54 = .ok (.if_icmp .ge 100, 3) := by decide +kernel
theorem zd_M_keeps_57 : decode zb_M_keeps 57 = .ok (.aload_n 0, 1) := by decide +kernel
theorem zd_M_keeps_58 : decode zb_M_keeps 58 = .ok (.getfield 16, 3) := by decide +kernel
theorem zd_M_keeps_61 : decode zb_M_keeps 61 = .ok (.iload 4, 2) := by decide +kernel
theorem zd_M_keeps_63 : decode zb_M_keeps 63 = .ok (.iaload, 1) := by decide +kernel
theorem zd_M_keeps_64 : decode zb_M_keeps 64 = .ok (.iload_n 1, 1) := by decide +kernel
theorem zd_M_keeps_65 : decode zb_M_keeps 65 = .ok (.if_icmp .eq 6, 3) := by decide +kernel
theorem zd_M_keeps_68 : decode zb_M_keeps 68 = .ok (.goto 80, 3) := by decide +kernel
theorem zd_M_keeps_71 : decode zb_M_keeps 71 = .ok (.iload_n 3, 1) := by decide +kernel
theorem zd_M_keeps_72 : decode zb_M_keeps 72 = .ok (.iconst 2, 1) := by decide +kernel
theorem zd_M_keeps_73 : decode zb_M_keeps 73 = .ok (.if_icmp .ne 24, 3) := by decide +kernel
theorem zd_M_keeps_76 : decode zb_M_keeps 76 = .ok (.aload_n 0, 1) := by decide +kernel
theorem zd_M_keeps_77 : decode zb_M_keeps 77 = .ok (.getfield 35, 3) := by decide +kernel
theorem zd_M_keeps_80 : decode zb_M_keeps 80 = .ok (.iload_n 2, 1) := by decide +kernel
theorem zd_M_keeps_81 : decode zb_M_keeps 81 = .ok (.iaload, 1) := by decide +kernel
theorem zd_M_keeps_82 : decode zb_M_keeps 82 = .ok (.aload_n 0, 1) := by decide +kernel
theorem zd_M_keeps_83 : decode zb_M_keeps 83 = .ok (.getfield 7, 3) := by decide +kernel
theorem zd_M_keeps_86 : decode zb_M_keeps 86 = .ok (.iload 4, 2) := by decide +kernel
theorem zd_M_keeps_88 : decode zb_M_keeps 88 = .ok (.iaload, 1) := by decide +kernel
theorem zd_M_keeps_89 : decode zb_M_keeps 89 = .ok (.ishr, 1) := by decide +kernel
theorem zd_M_keeps_90 : decode zb_M_keeps 90 = .ok (.iconst 1, 1) := by decide +kernel
theorem zd_M_keeps_91 : decode zb_M_keeps 91 = .ok (.iand, 1) := by decide +kernel
theorem zd_M_keeps_92 : decode zb_M_keeps 92 = .ok (.ifCond .ne 5, 3) := by decide +kernel
theorem zd_M_keeps_95 : decode zb_M_keeps 95 = .ok (.iconst 0, 1) := by decide +kernel
theorem zd_M_keeps_96 : decode zb_M_keeps 96 = .ok (.ireturn, 1) := by decide +kernel
theorem zd_M_keeps_97 : decode zb_M_keeps 97 = .ok (.iload_n 3, 1) := by decide +kernel
theorem zd_M_keeps_98 : decode zb_M_keeps 98 = .ok (.iconst 3, 1) := by decide +kernel
theorem zd_M_keeps_99 : decode zb_M_keeps 99 = .ok (.if_icmp .ne 20, 3) := by decide +kernel
theorem zd_M_keeps_102 : decode zb_M_keeps 102 = .ok (.aload_n 0, 1) := by decide +kernel
theorem zd_M_keeps_103 : decode zb_M_keeps 103 = .ok (.getfield 29, 3) := by decide +kernel
theorem zd_M_keeps_106 : decode zb_M_keeps 106 = .ok (.bipush 12, 2) := by decide +kernel
theorem zd_M_keeps_108 : decode zb_M_keeps 108 = .ok (.iload 4, 2) := by decide +kernel
theorem zd_M_keeps_110 : decode zb_M_keeps 110 = .ok (.imul, 1) := by decide +kernel
theorem zd_M_keeps_111 : decode zb_M_keeps 111 = .ok (.iload_n 2, 1) := by decide +kernel
theorem zd_M_keeps_112 : decode zb_M_keeps 112 = .ok (.iadd, 1) := by decide +kernel
theorem zd_M_keeps_113 : decode zb_M_keeps 113 = .ok (.baload, 1) := by decide +kernel
theorem zd_M_keeps_114 : decode zb_M_keeps 114 = .ok (.ifCond .eq 5, 3) := by decide +kernel
theorem zd_M_keeps_117 : decode zb_M_keeps 117 = .ok (.iconst 0, 1) := by decide +kernel
theorem zd_M_keeps_118 : decode zb_M_keeps 118 = .ok (.ireturn, 1) := by decide +kernel
theorem zd_M_keeps_119 : decode zb_M_keeps 119 = .ok (.iload_n 3, 1) := by decide +kernel
theorem zd_M_keeps_120 : decode zb_M_keeps 120 = .ok (.iconst 5, 1) := by decide +kernel
theorem zd_M_keeps_121 : decode zb_M_keeps 121 = .ok (.if_icmp .ne 27, 3) := by decide +kernel
theorem zd_M_keeps_124 : decode zb_M_keeps 124 = .ok (.aload_n 0, 1) := by decide +kernel
theorem zd_M_keeps_125 : decode zb_M_keeps 125 = .ok (.getfield 19, 3) := by decide +kernel
theorem zd_M_keeps_128 : decode zb_M_keeps 128 = .ok (.iload 4, 2) := by decide +kernel
theorem zd_M_keeps_130 : decode zb_M_keeps 130 = .ok (.iaload, 1) := by decide +kernel
theorem zd_M_keeps_131 : decode zb_M_keeps 131 = .ok (.iconst (-1), 1) := by decide +kernel
theorem zd_M_keeps_132 : decode zb_M_keeps 132 = .ok (.if_icmp .eq 16, 3) := by decide +kernel
theorem zd_M_keeps_135 : decode zb_M_keeps 135 = .ok (.aload_n 0, 1) := by decide +kernel
theorem zd_M_keeps_136 : decode zb_M_keeps 136 = .ok (.getfield 19, 3) := by decide +kernel
theorem zd_M_keeps_139 : decode zb_M_keeps 139 = .ok (.iload 4, 2) := by decide +kernel
theorem zd_M_keeps_141 : decode zb_M_keeps 141 = .ok (.iaload, 1) := by decide +kernel
theorem zd_M_keeps_142 : decode zb_M_keeps 142 = .ok (.iload_n 2, 1) := by decide +kernel
theorem zd_M_keeps_143 : decode zb_M_keeps 143 = .ok (.if_icmp .eq 5, 3) := by decide +kernel
theorem zd_M_keeps_146 : decode zb_M_keeps 146 = .ok (.iconst 0, 1) := by decide +kernel
theorem zd_M_keeps_147 : decode zb_M_keeps 147 = .ok (.ireturn, 1) := by decide +kernel
theorem zd_M_keeps_148 : decode zb_M_keeps 148 = .ok (.iinc 4 1, 3) := by decide +kernel
theorem zd_M_keeps_151 : decode zb_M_keeps 151 = .ok (.goto (-103), 3) := by decide +kernel
theorem zd_M_keeps_154 : decode zb_M_keeps 154 = .ok (.iconst 1, 1) := by decide +kernel
theorem zd_M_keeps_155 : decode zb_M_keeps 155 = .ok (.ireturn, 1) := by decide +kernel
theorem zd_M_isAllowed_0 : decode zb_M_isAllowed 0 = .ok (.iconst 1, 1) := by decide +kernel
theorem zd_M_isAllowed_1 : decode zb_M_isAllowed 1 = .ok (.istore 4, 2) := by decide +kernel
theorem zd_M_isAllowed_3 : decode zb_M_isAllowed 3 = .ok (.iconst 1, 1) := by decide +kernel
theorem zd_M_isAllowed_4 : decode zb_M_isAllowed 4 = .ok (.istore 5, 2) := by decide +kernel
theorem zd_M_isAllowed_6 : decode zb_M_isAllowed 6 = .ok (.iload 5, 2) := by decide +kernel
theorem zd_M_isAllowed_8 : decode zb_M_isAllowed 8 = .ok (.iload_n 3, 1) := by decide +kernel
theorem zd_M_isAllowed_9 : decode zb_M_isAllowed 9 = .ok (.if_icmp .gt 32, 3) := by decide +kernel
theorem zd_M_isAllowed_12 : decode zb_M_isAllowed 12 = .ok (.iload 4, 2) := by decide +kernel
theorem zd_M_isAllowed_14 : decode zb_M_isAllowed 14 = .ok (.ifCond .eq 18, 3) := by decide +kernel
theorem zd_M_isAllowed_17 : decode zb_M_isAllowed 17 = .ok (.aload_n 0, 1) := by decide +kernel
theorem zd_M_isAllowed_18 : decode zb_M_isAllowed 18 = .ok (.iload_n 1, 1) := by decide +kernel
theorem zd_M_isAllowed_19 : decode zb_M_isAllowed 19 = .ok (.iload_n 2, 1) := by decide +kernel
theorem zd_M_isAllowed_20 : decode zb_M_isAllowed 20 = .ok (.iload 5, 2) := by decide +kernel
theorem zd_M_isAllowed_22 : decode zb_M_isAllowed 22 = .ok (.invokevirtual 101, 3) := by decide +kernel
theorem zd_M_isAllowed_25 : decode zb_M_isAllowed 25 = .ok (.ifCond .eq 7, 3) := by decide +kernel
theorem zd_M_isAllowed_28 : decode zb_M_isAllowed 28 = .ok (.iconst 1, 1) := by decide +kernel
theorem zd_M_isAllowed_29 : decode zb_M_isAllowed 29 = .ok (.goto 4, 3) := by decide +kernel
theorem zd_M_isAllowed_32 : decode zb_M_isAllowed 32 = .ok (.iconst 0, 1) := by decide +kernel
theorem zd_M_isAllowed_33 : decode zb_M_isAllowed 33 = .ok (.istore 4, 2) := by decide +kernel
theorem zd_M_isAllowed_35 : decode zb_M_isAllowed 35 = .ok (.iinc 5 1, 3) := by decide +kernel
theorem zd_M_isAllowed_38 : decode zb_M_isAllowed 38 = .ok (.goto (-32), 3) := by decide +kernel
theorem zd_M_isAllowed_41 : decode zb_M_isAllowed 41 = .ok (.iload 4, 2) := by decide +kernel
theorem zd_M_isAllowed_43 : decode zb_M_isAllowed 43 = .ok (.ireturn, 1) := by decide +kernel
theorem zd_M_costOf_0 : decode zb_M_costOf 0 = .ok (.aload_n 0, 1) := by decide +kernel
theorem zd_M_costOf_1 : decode zb_M_costOf 1 = .ok (.getfield 32, 3) := by decide +kernel
theorem zd_M_costOf_4 : decode zb_M_costOf 4 = .ok (.bipush 12, 2) := by decide +kernel
theorem zd_M_costOf_6 : decode zb_M_costOf 6 = .ok (.iload_n 1, 1) := by decide +kernel
theorem zd_M_costOf_7 : decode zb_M_costOf 7 = .ok (.imul, 1) := by decide +kernel
theorem zd_M_costOf_8 : decode zb_M_costOf 8 = .ok (.iload_n 2, 1) := by decide +kernel
theorem zd_M_costOf_9 : decode zb_M_costOf 9 = .ok (.iadd, 1) := by decide +kernel
theorem zd_M_costOf_10 : decode zb_M_costOf 10 = .ok (.iaload, 1) := by decide +kernel
theorem zd_M_costOf_11 : decode zb_M_costOf 11 = .ok (.iconst (-1), 1) := by decide +kernel
theorem zd_M_costOf_12 : decode zb_M_costOf 12 = .ok (.if_icmp .eq 15, 3) := by decide +kernel
theorem zd_M_costOf_15 : decode zb_M_costOf 15 = .ok (.aload_n 0, 1) := by decide +kernel
theorem zd_M_costOf_16 : decode zb_M_costOf 16 = .ok (.getfield 32, 3) := by decide +kernel
theorem zd_M_costOf_19 : decode zb_M_costOf 19 = .ok (.bipush 12, 2) := by decide +kernel
theorem zd_M_costOf_21 : decode zb_M_costOf 21 = .ok (.iload_n 1, 1) := by decide +kernel
theorem zd_M_costOf_22 : decode zb_M_costOf 22 = .ok (.imul, 1) := by decide +kernel
theorem zd_M_costOf_23 : decode zb_M_costOf 23 = .ok (.iload_n 2, 1) := by decide +kernel
theorem zd_M_costOf_24 : decode zb_M_costOf 24 = .ok (.iadd, 1) := by decide +kernel
theorem zd_M_costOf_25 : decode zb_M_costOf 25 = .ok (.iaload, 1) := by decide +kernel
theorem zd_M_costOf_26 : decode zb_M_costOf 26 = .ok (.ireturn, 1) := by decide +kernel
theorem zd_M_costOf_27 : decode zb_M_costOf 27 = .ok (.iconst 0, 1) := by decide +kernel
theorem zd_M_costOf_28 : decode zb_M_costOf 28 = .ok (.istore_n 3, 1) := by decide +kernel
theorem zd_M_costOf_29 : decode zb_M_costOf 29 = .ok (.iconst 0, 1) := by decide +kernel
theorem zd_M_costOf_30 : decode zb_M_costOf 30 = .ok (.istore 4, 2) := by decide +kernel
theorem zd_M_costOf_32 : decode zb_M_costOf 32 = .ok (.iload 4, 2) := by decide +kernel
theorem zd_M_costOf_34 : decode zb_M_costOf 34 = .ok (.aload_n 0, 1) := by decide +kernel
theorem zd_M_costOf_35 : decode zb_M_costOf 35 = .ok (.getfield 79, 3) := by decide +kernel
theorem zd_M_costOf_38 : decode zb_M_costOf 38 = .ok (.if_icmp .ge 49, 3) := by decide +kernel
theorem zd_M_costOf_41 : decode zb_M_costOf 41 = .ok (.aload_n 0, 1) := by decide +kernel
theorem zd_M_costOf_42 : decode zb_M_costOf 42 = .ok (.getfield 16, 3) := by decide +kernel
theorem zd_M_costOf_45 : decode zb_M_costOf 45 = .ok (.iload 4, 2) := by decide +kernel
theorem zd_M_costOf_47 : decode zb_M_costOf 47 = .ok (.iaload, 1) := by decide +kernel
theorem zd_M_costOf_48 : decode zb_M_costOf 48 = .ok (.iload_n 1, 1) := by decide +kernel
theorem zd_M_costOf_49 : decode zb_M_costOf 49 = .ok (.if_icmp .ne 32, 3) := by decide +kernel
theorem zd_M_costOf_52 : decode zb_M_costOf 52 = .ok (.aload_n 0, 1) := by decide +kernel
theorem zd_M_costOf_53 : decode zb_M_costOf 53 = .ok (.getfield 50, 3) := by decide +kernel
theorem zd_M_costOf_56 : decode zb_M_costOf 56 = .ok (.aload_n 0, 1) := by decide +kernel
theorem zd_M_costOf_57 : decode zb_M_costOf 57 = .ok (.getfield 7, 3) := by decide +kernel
theorem zd_M_costOf_60 : decode zb_M_costOf 60 = .ok (.iload 4, 2) := by decide +kernel
theorem zd_M_costOf_62 : decode zb_M_costOf 62 = .ok (.iaload, 1) := by decide +kernel
theorem zd_M_costOf_63 : decode zb_M_costOf 63 = .ok (.iaload, 1) := by decide +kernel
theorem zd_M_costOf_64 : decode zb_M_costOf 64 = .ok (.iload_n 3, 1) := by decide +kernel
theorem zd_M_costOf_65 : decode zb_M_costOf 65 = .ok (.if_icmp .le 16, 3) := by decide +kernel
theorem zd_M_costOf_68 : decode zb_M_costOf 68 = .ok (.aload_n 0, 1) := by decide +kernel
theorem zd_M_costOf_69 : decode zb_M_costOf 69 = .ok (.getfield 50, 3) := by decide +kernel
theorem zd_M_costOf_72 : decode zb_M_costOf 72 = .ok (.aload_n 0, 1) := by decide +kernel
theorem zd_M_costOf_73 : decode zb_M_costOf 73 = .ok (.getfield 7, 3) := by decide +kernel
theorem zd_M_costOf_76 : decode zb_M_costOf 76 = .ok (.iload 4, 2) := by decide +kernel
theorem zd_M_costOf_78 : decode zb_M_costOf 78 = .ok (.iaload, 1) := by decide +kernel
theorem zd_M_costOf_79 : decode zb_M_costOf 79 = .ok (.iaload, 1) := by decide +kernel
theorem zd_M_costOf_80 : decode zb_M_costOf 80 = .ok (.istore_n 3, 1) := by decide +kernel
theorem zd_M_costOf_81 : decode zb_M_costOf 81 = .ok (.iinc 4 1, 3) := by decide +kernel
theorem zd_M_costOf_84 : decode zb_M_costOf 84 = .ok (.goto (-52), 3) := by decide +kernel
theorem zd_M_costOf_87 : decode zb_M_costOf 87 = .ok (.aload_n 0, 1) := by decide +kernel
theorem zd_M_costOf_88 : decode zb_M_costOf 88 = .ok (.getfield 44, 3) := by decide +kernel
theorem zd_M_costOf_91 : decode zb_M_costOf 91 = .ok (.iload_n 2, 1) := by decide +kernel
theorem zd_M_costOf_92 : decode zb_M_costOf 92 = .ok (.iaload, 1) := by decide +kernel
theorem zd_M_costOf_93 : decode zb_M_costOf 93 = .ok (.iload_n 3, 1) := by decide +kernel
theorem zd_M_costOf_94 : decode zb_M_costOf 94 = .ok (.imul, 1) := by decide +kernel
theorem zd_M_costOf_95 : decode zb_M_costOf 95 = .ok (.aload_n 0, 1) := by decide +kernel
theorem zd_M_costOf_96 : decode zb_M_costOf 96 = .ok (.getfield 41, 3) := by decide +kernel
theorem zd_M_costOf_99 : decode zb_M_costOf 99 = .ok (.iload_n 2, 1) := by decide +kernel
theorem zd_M_costOf_100 : decode zb_M_costOf 100 = .ok (.iaload, 1) := by decide +kernel
theorem zd_M_costOf_101 : decode zb_M_costOf 101 = .ok (.iadd, 1) := by decide +kernel
theorem zd_M_costOf_102 : decode zb_M_costOf 102 = .ok (.aload_n 0, 1) := by decide +kernel
theorem zd_M_costOf_103 : decode zb_M_costOf 103 = .ok (.iload_n 1, 1) := by decide +kernel
theorem zd_M_costOf_104 : decode zb_M_costOf 104 = .ok (.invokevirtual 97, 3) := by decide +kernel
theorem zd_M_costOf_107 : decode zb_M_costOf 107 = .ok (.isub, 1) := by decide +kernel
theorem zd_M_costOf_108 : decode zb_M_costOf 108 = .ok (.ireturn, 1) := by decide +kernel
theorem zd_M_isGroup_0 : decode zb_M_isGroup 0 = .ok (.aload_n 0, 1) := by decide +kernel
theorem zd_M_isGroup_1 : decode zb_M_isGroup 1 = .ok (.getfield 16, 3) := by decide +kernel
theorem zd_M_isGroup_4 : decode zb_M_isGroup 4 = .ok (.iload_n 1, 1) := by decide +kernel
theorem zd_M_isGroup_5 : decode zb_M_isGroup 5 = .ok (.iaload, 1) := by decide +kernel
theorem zd_M_isGroup_6 : decode zb_M_isGroup 6 = .ok (.iload_n 1, 1) := by decide +kernel
theorem zd_M_isGroup_7 : decode zb_M_isGroup 7 = .ok (.if_icmp .ne 16, 3) := by decide +kernel
theorem zd_M_isGroup_10 : decode zb_M_isGroup 10 = .ok (.aload_n 0, 1) := by decide +kernel
theorem zd_M_isGroup_11 : decode zb_M_isGroup 11 = .ok (.getfield 25, 3) := by decide +kernel
theorem zd_M_isGroup_14 : decode zb_M_isGroup 14 = .ok (.iload_n 1, 1) := by decide +kernel
theorem zd_M_isGroup_15 : decode zb_M_isGroup 15 = .ok (.baload, 1) := by decide +kernel
theorem zd_M_isGroup_16 : decode zb_M_isGroup 16 = .ok (.ifCond .ne 7, 3) := by decide +kernel
theorem zd_M_isGroup_19 : decode zb_M_isGroup 19 = .ok (.iconst 1, 1) := by decide +kernel
theorem zd_M_isGroup_20 : decode zb_M_isGroup 20 = .ok (.goto 4, 3) := by decide +kernel
theorem zd_M_isGroup_23 : decode zb_M_isGroup 23 = .ok (.iconst 0, 1) := by decide +kernel
theorem zd_M_isGroup_24 : decode zb_M_isGroup 24 = .ok (.ireturn, 1) := by decide +kernel
theorem zd_M_collect_0 : decode zb_M_collect 0 = .ok (.aload_n 0, 1) := by decide +kernel
theorem zd_M_collect_1 : decode zb_M_collect 1 = .ok (.iconst 0, 1) := by decide +kernel
theorem zd_M_collect_2 : decode zb_M_collect 2 = .ok (.putfield 104, 3) := by decide +kernel
theorem zd_M_collect_5 : decode zb_M_collect 5 = .ok (.iconst 0, 1) := by decide +kernel
theorem zd_M_collect_6 : decode zb_M_collect 6 = .ok (.istore_n 1, 1) := by decide +kernel
theorem zd_M_collect_7 : decode zb_M_collect 7 = .ok (.iload_n 1, 1) := by decide +kernel
theorem zd_M_collect_8 : decode zb_M_collect 8 = .ok (.aload_n 0, 1) := by decide +kernel
theorem zd_M_collect_9 : decode zb_M_collect 9 = .ok (.getfield 79, 3) := by decide +kernel
theorem zd_M_collect_12 : decode zb_M_collect 12 = .ok (.if_icmp .ge 90, 3) := by decide +kernel
theorem zd_M_collect_15 : decode zb_M_collect 15 = .ok (.aload_n 0, 1) := by decide +kernel
theorem zd_M_collect_16 : decode zb_M_collect 16 = .ok (.iload_n 1, 1) := by decide +kernel
theorem zd_M_collect_17 : decode zb_M_collect 17 = .ok (.invokevirtual 107, 3) := by decide +kernel
theorem zd_M_collect_20 : decode zb_M_collect 20 = .ok (.ifCond .ne 6, 3) := by decide +kernel
theorem zd_M_collect_23 : decode zb_M_collect 23 = .ok (.goto 73, 3) := by decide +kernel
theorem zd_M_collect_26 : decode zb_M_collect 26 = .ok (.aload_n 0, 1) := by decide +kernel
theorem zd_M_collect_27 : decode zb_M_collect 27 = .ok (.getfield 60, 3) := by decide +kernel
theorem zd_M_collect_30 : decode zb_M_collect 30 = .ok (.aload_n 0, 1) := by decide +kernel
theorem zd_M_collect_31 : decode zb_M_collect 31 = .ok (.getfield 104, 3) := by decide +kernel
theorem zd_M_collect_34 : decode zb_M_collect 34 = .ok (.iload_n 1, 1) := by decide +kernel
theorem zd_M_collect_35 : decode zb_M_collect 35 = .ok (.iastore, 1) := by decide +kernel
theorem zd_M_collect_36 : decode zb_M_collect 36 = .ok (.iconst 0, 1) := by decide +kernel
theorem zd_M_collect_37 : decode zb_M_collect 37 = .ok (.istore_n 2, 1) := by decide +kernel
theorem zd_M_collect_38 : decode zb_M_collect 38 = .ok (.iload_n 2, 1) := by decide +kernel
theorem zd_M_collect_39 : decode zb_M_collect 39 = .ok (.aload_n 0, 1) := by decide +kernel
theorem zd_M_collect_40 : decode zb_M_collect 40 = .ok (.getfield 86, 3) := by decide +kernel
theorem zd_M_collect_43 : decode zb_M_collect 43 = .ok (.if_icmp .ge 43, 3) := by decide +kernel
theorem zd_M_collect_46 : decode zb_M_collect 46 = .ok (.aload_n 0, 1) := by decide +kernel
theorem zd_M_collect_47 : decode zb_M_collect 47 = .ok (.getfield 66, 3) := by decide +kernel
theorem zd_M_collect_50 : decode zb_M_collect 50 = .ok (.bipush 12, 2) := by decide +kernel
theorem zd_M_collect_52 : decode zb_M_collect 52 = .ok (.aload_n 0, 1) := by decide +kernel
theorem zd_M_collect_53 : decode zb_M_collect 53 = .ok (.getfield 104, 3) := by decide +kernel
theorem zd_M_collect_56 : decode zb_M_collect 56 = .ok (.imul, 1) := by decide +kernel
theorem zd_M_collect_57 : decode zb_M_collect 57 = .ok (.iload_n 2, 1) := by decide +kernel
theorem zd_M_collect_58 : decode zb_M_collect 58 = .ok (.iadd, 1) := by decide +kernel
theorem zd_M_collect_59 : decode zb_M_collect 59 = .ok (.aload_n 0, 1) := by decide +kernel
theorem zd_M_collect_60 : decode zb_M_collect 60 = .ok (.iload_n 1, 1) := by decide +kernel
theorem zd_M_collect_61 : decode zb_M_collect 61 = .ok (.iload_n 2, 1) := by decide +kernel
theorem zd_M_collect_62 : decode zb_M_collect 62 = .ok (.iconst 5, 1) := by decide +kernel
theorem zd_M_collect_63 : decode zb_M_collect 63 = .ok (.invokevirtual 110, 3) := by decide +kernel
theorem zd_M_collect_66 : decode zb_M_collect 66 = .ok (.ifCond .eq 12, 3) := by decide +kernel
theorem zd_M_collect_69 : decode zb_M_collect 69 = .ok (.aload_n 0, 1) := by decide +kernel
theorem zd_M_collect_70 : decode zb_M_collect 70 = .ok (.iload_n 1, 1) := by decide +kernel
theorem zd_M_collect_71 : decode zb_M_collect 71 = .ok (.iload_n 2, 1) := by decide +kernel
theorem zd_M_collect_72 : decode zb_M_collect 72 = .ok (.invokevirtual 113, 3) := by decide +kernel
theorem zd_M_collect_75 : decode zb_M_collect 75 = .ok (.goto 4, 3) := by decide +kernel
theorem zd_M_collect_78 : decode zb_M_collect 78 = .ok (.iconst (-1), 1) := by decide +kernel
theorem zd_M_collect_79 : decode zb_M_collect 79 = .ok (.iastore, 1) := by decide +kernel
theorem zd_M_collect_80 : decode zb_M_collect 80 = .ok (.iinc 2 1, 3) := by decide +kernel
theorem zd_M_collect_83 : decode zb_M_collect 83 = .ok (.goto (-45), 3) := by decide +kernel
theorem zd_M_collect_86 : decode zb_M_collect 86 = .ok (.aload_n 0, 1) := by decide +kernel
theorem zd_M_collect_87 : decode zb_M_collect 87 = .ok (.dup, 1) := by decide +kernel
theorem zd_M_collect_88 : decode zb_M_collect 88 = .ok (.getfield 104, 3) := by decide +kernel
theorem zd_M_collect_91 : decode zb_M_collect 91 = .ok (.iconst 1, 1) := by decide +kernel
theorem zd_M_collect_92 : decode zb_M_collect 92 = .ok (.iadd, 1) := by decide +kernel
theorem zd_M_collect_93 : decode zb_M_collect 93 = .ok (.putfield 104, 3) := by decide +kernel
theorem zd_M_collect_96 : decode zb_M_collect 96 = .ok (.iinc 1 1, 3) := by decide +kernel
theorem zd_M_collect_99 : decode zb_M_collect 99 = .ok (.goto (-92), 3) := by decide +kernel
theorem zd_M_collect_102 : decode zb_M_collect 102 = .ok (.return_, 1) := by decide +kernel
theorem zd_M_lay_0 : decode zb_M_lay 0 = .ok (.iconst 1, 1) := by decide +kernel
theorem zd_M_lay_1 : decode zb_M_lay 1 = .ok (.aload_n 0, 1) := by decide +kernel
theorem zd_M_lay_2 : decode zb_M_lay 2 = .ok (.getfield 86, 3) := by decide +kernel
theorem zd_M_lay_5 : decode zb_M_lay 5 = .ok (.ishl, 1) := by decide +kernel
theorem zd_M_lay_6 : decode zb_M_lay 6 = .ok (.istore_n 2, 1) := by decide +kernel
theorem zd_M_lay_7 : decode zb_M_lay 7 = .ok (.iconst 0, 1) := by decide +kernel
theorem zd_M_lay_8 : decode zb_M_lay 8 = .ok (.istore_n 3, 1) := by decide +kernel
theorem zd_M_lay_9 : decode zb_M_lay 9 = .ok (.iload_n 3, 1) := by decide +kernel
theorem zd_M_lay_10 : decode zb_M_lay 10 = .ok (.iload_n 2, 1) := by decide +kernel
theorem zd_M_lay_11 : decode zb_M_lay 11 = .ok (.if_icmp .ge 16, 3) := by decide +kernel
theorem zd_M_lay_14 : decode zb_M_lay 14 = .ok (.aload_n 0, 1) := by decide +kernel
theorem zd_M_lay_15 : decode zb_M_lay 15 = .ok (.getfield 69, 3) := by decide +kernel
theorem zd_M_lay_18 : decode zb_M_lay 18 = .ok (.iload_n 3, 1) := by decide +kernel
theorem zd_M_lay_19 : decode zb_M_lay 19 = .ok (.lconst 0, 1) := by decide +kernel
theorem zd_M_lay_20 : decode zb_M_lay 20 = .ok (.lastore, 1) := by decide +kernel
theorem zd_M_lay_21 : decode zb_M_lay 21 = .ok (.iinc 3 1, 3) := by decide +kernel
theorem zd_M_lay_24 : decode zb_M_lay 24 = .ok (.goto (-15), 3) := by decide +kernel
theorem zd_M_lay_27 : decode zb_M_lay 27 = .ok (.aload_n 0, 1) := by decide +kernel
theorem zd_M_lay_28 : decode zb_M_lay 28 = .ok (.getfield 104, 3) := by decide +kernel
theorem zd_M_lay_31 : decode zb_M_lay 31 = .ok (.iconst 1, 1) := by decide +kernel
theorem zd_M_lay_32 : decode zb_M_lay 32 = .ok (.isub, 1) := by decide +kernel
theorem zd_M_lay_33 : decode zb_M_lay 33 = .ok (.istore_n 3, 1) := by decide +kernel
theorem zd_M_lay_34 : decode zb_M_lay 34 = .ok (.iload_n 3, 1) := by decide +kernel
theorem zd_M_lay_35 : decode zb_M_lay 35 = .ok (.iload_n 1, 1) := by decide +kernel
theorem zd_M_lay_36 : decode zb_M_lay 36 = .ok (.if_icmp .lt 184, 3) := by decide +kernel
theorem zd_M_lay_39 : decode zb_M_lay 39 = .ok (.iconst 0, 1) := by decide +kernel
theorem zd_M_lay_40 : decode zb_M_lay 40 = .ok (.istore 4, 2) := by decide +kernel
theorem zd_M_lay_42 : decode zb_M_lay 42 = .ok (.iload 4, 2) := by decide +kernel
theorem zd_M_lay_44 : decode zb_M_lay 44 = .ok (.iload_n 2, 1) := by decide +kernel
theorem zd_M_lay_45 : decode zb_M_lay 45 = .ok (.if_icmp .ge 23, 3) := by decide +kernel
theorem zd_M_lay_48 : decode zb_M_lay 48 = .ok (.aload_n 0, 1) := by decide +kernel
theorem zd_M_lay_49 : decode zb_M_lay 49 = .ok (.getfield 73, 3) := by decide +kernel
theorem zd_M_lay_52 : decode zb_M_lay 52 = .ok (.iload 4, 2) := by decide +kernel
theorem zd_M_lay_54 : decode zb_M_lay 54 = .ok (.aload_n 0, 1) := by decide +kernel
theorem zd_M_lay_55 : decode zb_M_lay 55 = .ok (.getfield 69, 3) := by decide +kernel
theorem zd_M_lay_58 : decode zb_M_lay 58 = .ok (.iload 4, 2) := by decide +kernel
theorem zd_M_lay_60 : decode zb_M_lay 60 = .ok (.laload, 1) := by decide +kernel
theorem zd_M_lay_61 : decode zb_M_lay 61 = .ok (.lastore, 1) := by decide +kernel
theorem zd_M_lay_62 : decode zb_M_lay 62 = .ok (.iinc 4 1, 3) := by decide +kernel
theorem zd_M_lay_65 : decode zb_M_lay 65 = .ok (.goto (-23), 3) := by decide +kernel
theorem zd_M_lay_68 : decode zb_M_lay 68 = .ok (.iconst 0, 1) := by decide +kernel
theorem zd_M_lay_69 : decode zb_M_lay 69 = .ok (.istore 4, 2) := by decide +kernel
theorem zd_M_lay_71 : decode zb_M_lay 71 = .ok (.iload 4, 2) := by decide +kernel
theorem zd_M_lay_73 : decode zb_M_lay 73 = .ok (.iload_n 2, 1) := by decide +kernel
theorem zd_M_lay_74 : decode zb_M_lay 74 = .ok (.if_icmp .ge 111, 3) := by decide +kernel
theorem zd_M_lay_77 : decode zb_M_lay 77 = .ok (.iconst 0, 1) := by decide +kernel
theorem zd_M_lay_78 : decode zb_M_lay 78 = .ok (.istore 5, 2) := by decide +kernel
theorem zd_M_lay_80 : decode zb_M_lay 80 = .ok (.iload 5, 2) := by decide +kernel
theorem zd_M_lay_82 : decode zb_M_lay 82 = .ok (.aload_n 0, 1) := by decide +kernel
theorem zd_M_lay_83 : decode zb_M_lay 83 = .ok (.getfield 86, 3) := by decide +kernel
theorem zd_M_lay_86 : decode zb_M_lay 86 = .ok (.if_icmp .ge 93, 3) := by decide +kernel
theorem zd_M_lay_89 : decode zb_M_lay 89 = .ok (.iload 4, 2) := by decide +kernel
theorem zd_M_lay_91 : decode zb_M_lay 91 = .ok (.iload 5, 2) := by decide +kernel
theorem zd_M_lay_93 : decode zb_M_lay 93 = .ok (.ishr, 1) := by decide +kernel
theorem zd_M_lay_94 : decode zb_M_lay 94 = .ok (.iconst 1, 1) := by decide +kernel
theorem zd_M_lay_95 : decode zb_M_lay 95 = .ok (.iand, 1) := by decide +kernel
theorem zd_M_lay_96 : decode zb_M_lay 96 = .ok (.iconst 1, 1) := by decide +kernel
theorem zd_M_lay_97 : decode zb_M_lay 97 = .ok (.if_icmp .eq 76, 3) := by decide +kernel
theorem zd_M_lay_100 : decode zb_M_lay 100 = .ok (.aload_n 0, 1) := by decide +kernel
theorem zd_M_lay_101 : decode zb_M_lay 101 = .ok (.getfield 66, 3) := by decide +kernel
theorem zd_M_lay_104 : decode zb_M_lay 104 = .ok (.bipush 12, 2) := by decide +kernel
theorem zd_M_lay_106 : decode zb_M_lay 106 = .ok (.iload_n 3, 1) := by decide +kernel
theorem zd_M_lay_107 : decode zb_M_lay 107 = .ok (.imul, 1) := by decide +kernel
theorem zd_M_lay_108 : decode zb_M_lay 108 = .ok (.iload 5, 2) := by decide +kernel
theorem zd_M_lay_110 : decode zb_M_lay 110 = .ok (.iadd, 1) := by decide +kernel
theorem zd_M_lay_111 : decode zb_M_lay 111 = .ok (.iaload, 1) := by decide +kernel
theorem zd_M_lay_112 : decode zb_M_lay 112 = .ok (.iconst (-1), 1) := by decide +kernel
theorem zd_M_lay_113 : decode zb_M_lay 113 = .ok (.if_icmp .ne 6, 3) := by decide +kernel
theorem zd_M_lay_116 : decode zb_M_lay 116 = .ok (.goto 57, 3) := by decide +kernel
theorem zd_M_lay_119 : decode zb_M_lay 119 = .ok (.aload_n 0, 1) := by decide +kernel
theorem zd_M_lay_120 : decode zb_M_lay 120 = .ok (.getfield 69, 3) := by decide +kernel
theorem zd_M_lay_123 : decode zb_M_lay 123 = .ok (.iload 4, 2) := by decide +kernel
theorem zd_M_lay_125 : decode zb_M_lay 125 = .ok (.iconst 1, 1) := by decide +kernel
theorem zd_M_lay_126 : decode zb_M_lay 126 = .ok (.iload 5, 2) := by decide +kernel
theorem zd_M_lay_128 : decode zb_M_lay 128 = .ok (.ishl, 1) := by decide +kernel
theorem zd_M_lay_129 : decode zb_M_lay 129 = .ok (.ior, 1) := by decide +kernel
theorem zd_M_lay_130 : decode zb_M_lay 130 = .ok (.laload, 1) := by decide +kernel
theorem zd_M_lay_131 : decode zb_M_lay 131 = .ok (.ldc2_w 117, 3) := by decide +kernel
theorem zd_M_lay_134 : decode zb_M_lay 134 = .ok (.ladd, 1) := by decide +kernel
theorem zd_M_lay_135 : decode zb_M_lay 135 = .ok (.aload_n 0, 1) := by decide +kernel
theorem zd_M_lay_136 : decode zb_M_lay 136 = .ok (.getfield 66, 3) := by decide +kernel
theorem zd_M_lay_139 : decode zb_M_lay 139 = .ok (.bipush 12, 2) := by decide +kernel
theorem zd_M_lay_141 : decode zb_M_lay 141 = .ok (.iload_n 3, 1) := by decide +kernel
theorem zd_M_lay_142 : decode zb_M_lay 142 = .ok (.imul, 1) := by decide +kernel
theorem zd_M_lay_143 : decode zb_M_lay 143 = .ok (.iload 5, 2) := by decide +kernel
theorem zd_M_lay_145 : decode zb_M_lay 145 = .ok (.iadd, 1) := by decide +kernel
theorem zd_M_lay_146 : decode zb_M_lay 146 = .ok (.iaload, 1) := by decide +kernel
theorem zd_M_lay_147 : decode zb_M_lay 147 = .ok (.i2l, 1) := by decide +kernel
theorem zd_M_lay_148 : decode zb_M_lay 148 = .ok (.lsub, 1) := by decide +kernel
theorem zd_M_lay_149 : decode zb_M_lay 149 = .ok (.lstore 6, 2) := by decide +kernel
theorem zd_M_lay_151 : decode zb_M_lay 151 = .ok (.lload 6, 2) := by decide +kernel
theorem zd_M_lay_153 : decode zb_M_lay 153 = .ok (.aload_n 0, 1) := by decide +kernel
theorem zd_M_lay_154 : decode zb_M_lay 154 = .ok (.getfield 73, 3) := by decide +kernel
theorem zd_M_lay_157 : decode zb_M_lay 157 = .ok (.iload 4, 2) := by decide +kernel
theorem zd_M_lay_159 : decode zb_M_lay 159 = .ok (.laload, 1) := by decide +kernel
theorem zd_M_lay_160 : decode zb_M_lay 160 = .ok (.lcmp, 1) := by decide +kernel
theorem zd_M_lay_161 : decode zb_M_lay 161 = .ok (.ifCond .le 12, 3) := by decide +kernel
theorem zd_M_lay_164 : decode zb_M_lay 164 = .ok (.aload_n 0, 1) := by decide +kernel
theorem zd_M_lay_165 : decode zb_M_lay 165 = .ok (.getfield 73, 3) := by decide +kernel
theorem zd_M_lay_168 : decode zb_M_lay 168 = .ok (.iload 4, 2) := by decide +kernel
theorem zd_M_lay_170 : decode zb_M_lay 170 = .ok (.lload 6, 2) := by decide +kernel
theorem zd_M_lay_172 : decode zb_M_lay 172 = .ok (.lastore, 1) := by decide +kernel
theorem zd_M_lay_173 : decode zb_M_lay 173 = .ok (.iinc 5 1, 3) := by decide +kernel
theorem zd_M_lay_176 : decode zb_M_lay 176 = .ok (.goto (-96), 3) := by decide +kernel
theorem zd_M_lay_179 : decode zb_M_lay 179 = .ok (.iinc 4 1, 3) := by decide +kernel
theorem zd_M_lay_182 : decode zb_M_lay 182 = .ok (.goto (-111), 3) := by decide +kernel
theorem zd_M_lay_185 : decode zb_M_lay 185 = .ok (.iconst 0, 1) := by decide +kernel
theorem zd_M_lay_186 : decode zb_M_lay 186 = .ok (.istore 4, 2) := by decide +kernel
theorem zd_M_lay_188 : decode zb_M_lay 188 = .ok (.iload 4, 2) := by decide +kernel
theorem zd_M_lay_190 : decode zb_M_lay 190 = .ok (.iload_n 2, 1) := by decide +kernel
theorem zd_M_lay_191 : decode zb_M_lay 191 = .ok (.if_icmp .ge 23, 3) := by decide +kernel
theorem zd_M_lay_194 : decode zb_M_lay 194 = .ok (.aload_n 0, 1) := by decide +kernel
theorem zd_M_lay_195 : decode zb_M_lay 195 = .ok (.getfield 69, 3) := by decide +kernel
theorem zd_M_lay_198 : decode zb_M_lay 198 = .ok (.iload 4, 2) := by decide +kernel
theorem zd_M_lay_200 : decode zb_M_lay 200 = .ok (.aload_n 0, 1) := by decide +kernel
theorem zd_M_lay_201 : decode zb_M_lay 201 = .ok (.getfield 73, 3) := by decide +kernel
theorem zd_M_lay_204 : decode zb_M_lay 204 = .ok (.iload 4, 2) := by decide +kernel
theorem zd_M_lay_206 : decode zb_M_lay 206 = .ok (.laload, 1) := by decide +kernel
theorem zd_M_lay_207 : decode zb_M_lay 207 = .ok (.lastore, 1) := by decide +kernel
theorem zd_M_lay_208 : decode zb_M_lay 208 = .ok (.iinc 4 1, 3) := by decide +kernel
theorem zd_M_lay_211 : decode zb_M_lay 211 = .ok (.goto (-23), 3) := by decide +kernel
theorem zd_M_lay_214 : decode zb_M_lay 214 = .ok (.iinc 3 (-1), 3) := by decide +kernel
theorem zd_M_lay_217 : decode zb_M_lay 217 = .ok (.goto (-183), 3) := by decide +kernel
theorem zd_M_lay_220 : decode zb_M_lay 220 = .ok (.return_, 1) := by decide +kernel
theorem zd_M_best_0 : decode zb_M_best 0 = .ok (.iconst 0, 1) := by decide +kernel
theorem zd_M_best_1 : decode zb_M_best 1 = .ok (.istore_n 1, 1) := by decide +kernel
theorem zd_M_best_2 : decode zb_M_best 2 = .ok (.aload_n 0, 1) := by decide +kernel
theorem zd_M_best_3 : decode zb_M_best 3 = .ok (.iconst 0, 1) := by decide +kernel
theorem zd_M_best_4 : decode zb_M_best 4 = .ok (.invokevirtual 119, 3) := by decide +kernel
theorem zd_M_best_7 : decode zb_M_best 7 = .ok (.aload_n 0, 1) := by decide +kernel
theorem zd_M_best_8 : decode zb_M_best 8 = .ok (.getfield 69, 3) := by decide +kernel
theorem zd_M_best_11 : decode zb_M_best 11 = .ok (.iconst 0, 1) := by decide +kernel
theorem zd_M_best_12 : decode zb_M_best 12 = .ok (.laload, 1) := by decide +kernel
theorem zd_M_best_13 : decode zb_M_best 13 = .ok (.lstore_n 2, 1) := by decide +kernel
theorem zd_M_best_14 : decode zb_M_best 14 = .ok (.iconst 0, 1) := by decide +kernel
theorem zd_M_best_15 : decode zb_M_best 15 = .ok (.istore 4, 2) := by decide +kernel
theorem zd_M_best_17 : decode zb_M_best 17 = .ok (.iload 4, 2) := by decide +kernel
theorem zd_M_best_19 : decode zb_M_best 19 = .ok (.aload_n 0, 1) := by decide +kernel
theorem zd_M_best_20 : decode zb_M_best 20 = .ok (.getfield 104, 3) := by decide +kernel
theorem zd_M_best_23 : decode zb_M_best 23 = .ok (.if_icmp .ge 137, 3) := by decide +kernel
theorem zd_M_best_26 : decode zb_M_best 26 = .ok (.aload_n 0, 1) := by decide +kernel
theorem zd_M_best_27 : decode zb_M_best 27 = .ok (.iload 4, 2) := by decide +kernel
theorem zd_M_best_29 : decode zb_M_best 29 = .ok (.iconst 1, 1) := by decide +kernel
theorem zd_M_best_30 : decode zb_M_best 30 = .ok (.iadd, 1) := by decide +kernel
theorem zd_M_best_31 : decode zb_M_best 31 = .ok (.invokevirtual 119, 3) := by decide +kernel
theorem zd_M_best_34 : decode zb_M_best 34 = .ok (.iconst (-1), 1) := by decide +kernel
theorem zd_M_best_35 : decode zb_M_best 35 = .ok (.istore 5, 2) := by decide +kernel
theorem zd_M_best_37 : decode zb_M_best 37 = .ok (.aload_n 0, 1) := by decide +kernel
theorem zd_M_best_38 : decode zb_M_best 38 = .ok (.getfield 86, 3) := by decide +kernel
theorem zd_M_best_41 : decode zb_M_best 41 = .ok (.iconst 1, 1) := by decide +kernel
theorem zd_M_best_42 : decode zb_M_best 42 = .ok (.isub, 1) := by decide +kernel
theorem zd_M_best_43 : decode zb_M_best 43 = .ok (.istore 6, 2) := by decide +kernel
theorem zd_M_best_45 : decode zb_M_best 45 = .ok (.iload 6, 2) := by decide +kernel
theorem zd_M_best_47 : decode zb_M_best 47 = .ok (.ifCond .lt 78, 3) := by decide +kernel
theorem zd_M_best_50 : decode zb_M_best 50 = .ok (.iload_n 1, 1) := by decide +kernel
theorem zd_M_best_51 : decode zb_M_best 51 = .ok (.iload 6, 2) := by decide +kernel
theorem zd_M_best_53 : decode zb_M_best 53 = .ok (.ishr, 1) := by decide +kernel
theorem zd_M_best_54 : decode zb_M_best 54 = .ok (.iconst 1, 1) := by decide +kernel
theorem zd_M_best_55 : decode zb_M_best 55 = .ok (.iand, 1) := by decide +kernel
theorem zd_M_best_56 : decode zb_M_best 56 = .ok (.iconst 1, 1) := by decide +kernel
theorem zd_M_best_57 : decode zb_M_best 57 = .ok (.if_icmp .eq 62, 3) := by decide +kernel
theorem zd_M_best_60 : decode zb_M_best 60 = .ok (.aload_n 0, 1) := by decide +kernel
theorem zd_M_best_61 : decode zb_M_best 61 = .ok (.getfield 66, 3) := by decide +kernel
theorem zd_M_best_64 : decode zb_M_best 64 = .ok (.bipush 12, 2) := by decide +kernel
theorem zd_M_best_66 : decode zb_M_best 66 = .ok (.iload 4, 2) := by decide +kernel
theorem zd_M_best_68 : decode zb_M_best 68 = .ok (.imul, 1) := by decide +kernel
theorem zd_M_best_69 : decode zb_M_best 69 = .ok (.iload 6, 2) := by decide +kernel
theorem zd_M_best_71 : decode zb_M_best 71 = .ok (.iadd, 1) := by decide +kernel
theorem zd_M_best_72 : decode zb_M_best 72 = .ok (.iaload, 1) := by decide +kernel
theorem zd_M_best_73 : decode zb_M_best 73 = .ok (.iconst (-1), 1) := by decide +kernel
theorem zd_M_best_74 : decode zb_M_best 74 = .ok (.if_icmp .ne 6, 3) := by decide +kernel
theorem zd_M_best_77 : decode zb_M_best 77 = .ok (.goto 42, 3) := by decide +kernel
theorem zd_M_best_80 : decode zb_M_best 80 = .ok (.aload_n 0, 1) := by decide +kernel
theorem zd_M_best_81 : decode zb_M_best 81 = .ok (.getfield 69, 3) := by decide +kernel
theorem zd_M_best_84 : decode zb_M_best 84 = .ok (.iload_n 1, 1) := by decide +kernel
theorem zd_M_best_85 : decode zb_M_best 85 = .ok (.iconst 1, 1) := by decide +kernel
theorem zd_M_best_86 : decode zb_M_best 86 = .ok (.iload 6, 2) := by decide +kernel
theorem zd_M_best_88 : decode zb_M_best 88 = .ok (.ishl, 1) := by decide +kernel
theorem zd_M_best_89 : decode zb_M_best 89 = .ok (.ior, 1) := by decide +kernel
theorem zd_M_best_90 : decode zb_M_best 90 = .ok (.laload, 1) := by decide +kernel
theorem zd_M_best_91 : decode zb_M_best 91 = .ok (.ldc2_w 117, 3) := by decide +kernel
theorem zd_M_best_94 : decode zb_M_best 94 = .ok (.ladd, 1) := by decide +kernel
theorem zd_M_best_95 : decode zb_M_best 95 = .ok (.aload_n 0, 1) := by decide +kernel
theorem zd_M_best_96 : decode zb_M_best 96 = .ok (.getfield 66, 3) := by decide +kernel
theorem zd_M_best_99 : decode zb_M_best 99 = .ok (.bipush 12, 2) := by decide +kernel
theorem zd_M_best_101 : decode zb_M_best 101 = .ok (.iload 4, 2) := by decide +kernel
theorem zd_M_best_103 : decode zb_M_best 103 = .ok (.imul, 1) := by decide +kernel
theorem zd_M_best_104 : decode zb_M_best 104 = .ok (.iload 6, 2) := by decide +kernel
theorem zd_M_best_106 : decode zb_M_best 106 = .ok (.iadd, 1) := by decide +kernel
theorem zd_M_best_107 : decode zb_M_best 107 = .ok (.iaload, 1) := by decide +kernel
theorem zd_M_best_108 : decode zb_M_best 108 = .ok (.i2l, 1) := by decide +kernel
theorem zd_M_best_109 : decode zb_M_best 109 = .ok (.lsub, 1) := by decide +kernel
theorem zd_M_best_110 : decode zb_M_best 110 = .ok (.lload_n 2, 1) := by decide +kernel
theorem zd_M_best_111 : decode zb_M_best 111 = .ok (.lcmp, 1) := by decide +kernel
theorem zd_M_best_112 : decode zb_M_best 112 = .ok (.ifCond .ne 7, 3) := by decide +kernel
theorem zd_M_best_115 : decode zb_M_best 115 = .ok (.iload 6, 2) := by decide +kernel
theorem zd_M_best_117 : decode zb_M_best 117 = .ok (.istore 5, 2) := by decide +kernel
theorem zd_M_best_119 : decode zb_M_best 119 = .ok (.iinc 6 (-1), 3) := by decide +kernel
theorem zd_M_best_122 : decode zb_M_best 122 = .ok (.goto (-77), 3) := by decide +kernel
theorem zd_M_best_125 : decode zb_M_best 125 = .ok (.aload_n 0, 1) := by decide +kernel
theorem zd_M_best_126 : decode zb_M_best 126 = .ok (.getfield 63, 3) := by decide +kernel
theorem zd_M_best_129 : decode zb_M_best 129 = .ok (.iload 4, 2) := by decide +kernel
theorem zd_M_best_131 : decode zb_M_best 131 = .ok (.iload 5, 2) := by decide +kernel
theorem zd_M_best_133 : decode zb_M_best 133 = .ok (.iastore, 1) := by decide +kernel
theorem zd_M_best_134 : decode zb_M_best 134 = .ok (.iload 5, 2) := by decide +kernel
theorem zd_M_best_136 : decode zb_M_best 136 = .ok (.iconst (-1), 1) := by decide +kernel
theorem zd_M_best_137 : decode zb_M_best 137 = .ok (.if_icmp .eq 10, 3) := by decide +kernel
theorem zd_M_best_140 : decode zb_M_best 140 = .ok (.iload_n 1, 1) := by decide +kernel
theorem zd_M_best_141 : decode zb_M_best 141 = .ok (.iconst 1, 1) := by decide +kernel
theorem zd_M_best_142 : decode zb_M_best 142 = .ok (.iload 5, 2) := by decide +kernel
theorem zd_M_best_144 : decode zb_M_best 144 = .ok (.ishl, 1) := by decide +kernel
theorem zd_M_best_145 : decode zb_M_best 145 = .ok (.ior, 1) := by decide +kernel
theorem zd_M_best_146 : decode zb_M_best 146 = .ok (.istore_n 1, 1) := by decide +kernel
theorem zd_M_best_147 : decode zb_M_best 147 = .ok (.aload_n 0, 1) := by decide +kernel
theorem zd_M_best_148 : decode zb_M_best 148 = .ok (.getfield 69, 3) := by decide +kernel
theorem zd_M_best_151 : decode zb_M_best 151 = .ok (.iload_n 1, 1) := by decide +kernel
theorem zd_M_best_152 : decode zb_M_best 152 = .ok (.laload, 1) := by decide +kernel
theorem zd_M_best_153 : decode zb_M_best 153 = .ok (.lstore_n 2, 1) := by decide +kernel
theorem zd_M_best_154 : decode zb_M_best 154 = .ok (.iinc 4 1, 3) := by decide +kernel
theorem zd_M_best_157 : decode zb_M_best 157 = .ok (.goto (-140), 3) := by decide +kernel
theorem zd_M_best_160 : decode zb_M_best 160 = .ok (.return_, 1) := by decide +kernel
theorem zd_M_cheapest_0 : decode zb_M_cheapest 0 = .ok (.iconst (-1), 1) := by decide +kernel
theorem zd_M_cheapest_1 : decode zb_M_cheapest 1 = .ok (.istore_n 3, 1) := by decide +kernel
theorem zd_M_cheapest_2 : decode zb_M_cheapest 2 = .ok (.iconst 0, 1) := by decide +kernel
theorem zd_M_cheapest_3 : decode zb_M_cheapest 3 = .ok (.istore 4, 2) := by decide +kernel
theorem zd_M_cheapest_5 : decode zb_M_cheapest 5 = .ok (.iload 4, 2) := by decide +kernel
theorem zd_M_cheapest_7 : decode zb_M_cheapest 7 = .ok (.aload_n 0, 1) := by decide +kernel
theorem zd_M_cheapest_8 : decode zb_M_cheapest 8 = .ok (.getfield 86, 3) := by decide +kernel
theorem zd_M_cheapest_11 : decode zb_M_cheapest 11 = .ok (.if_icmp .ge 57, 3) := by decide +kernel
theorem zd_M_cheapest_14 : decode zb_M_cheapest 14 = .ok (.iload_n 2, 1) := by decide +kernel
theorem zd_M_cheapest_15 : decode zb_M_cheapest 15 = .ok (.iload 4, 2) := by decide +kernel
theorem zd_M_cheapest_17 : decode zb_M_cheapest 17 = .ok (.ishr, 1) := by decide +kernel
theorem zd_M_cheapest_18 : decode zb_M_cheapest 18 = .ok (.iconst 1, 1) := by decide +kernel
theorem zd_M_cheapest_19 : decode zb_M_cheapest 19 = .ok (.iand, 1) := by decide +kernel
theorem zd_M_cheapest_20 : decode zb_M_cheapest 20 = .ok (.iconst 1, 1) := by decide +kernel
theorem zd_M_cheapest_21 : decode zb_M_cheapest 21 = .ok (.if_icmp .eq 41, 3) := by decide +kernel
theorem zd_M_cheapest_24 : decode zb_M_cheapest 24 = .ok (.aload_n 0, 1) := by decide +kernel
theorem zd_M_cheapest_25 : decode zb_M_cheapest 25 = .ok (.iload_n 1, 1) := by decide +kernel
theorem zd_M_cheapest_26 : decode zb_M_cheapest 26 = .ok (.iload 4, 2) := by decide +kernel
theorem zd_M_cheapest_28 : decode zb_M_cheapest 28 = .ok (.iconst 5, 1) := by decide +kernel
theorem zd_M_cheapest_29 : decode zb_M_cheapest 29 = .ok (.invokevirtual 110, 3) := by decide +kernel
theorem zd_M_cheapest_32 : decode zb_M_cheapest 32 = .ok (.ifCond .ne 6, 3) := by decide +kernel
theorem zd_M_cheapest_35 : decode zb_M_cheapest 35 = .ok (.goto 27, 3) := by decide +kernel
theorem zd_M_cheapest_38 : decode zb_M_cheapest 38 = .ok (.iload_n 3, 1) := by decide +kernel
theorem zd_M_cheapest_39 : decode zb_M_cheapest 39 = .ok (.iconst (-1), 1) := by decide +kernel
theorem zd_M_cheapest_40 : decode zb_M_cheapest 40 = .ok (.if_icmp .eq 19, 3) := by decide +kernel
theorem zd_M_cheapest_43 : decode zb_M_cheapest 43 = .ok (.aload_n 0, 1) := by decide +kernel
theorem zd_M_cheapest_44 : decode zb_M_cheapest 44 = .ok (.iload_n 1, 1) := by decide +kernel
theorem zd_M_cheapest_45 : decode zb_M_cheapest 45 = .ok (.iload 4, 2) := by decide +kernel
theorem zd_M_cheapest_47 : decode zb_M_cheapest 47 = .ok (.invokevirtual 113, 3) := by decide +kernel
theorem zd_M_cheapest_50 : decode zb_M_cheapest 50 = .ok (.aload_n 0, 1) := by decide +kernel
theorem zd_M_cheapest_51 : decode zb_M_cheapest 51 = .ok (.iload_n 1, 1) := by decide +kernel
theorem zd_M_cheapest_52 : decode zb_M_cheapest 52 = .ok (.iload_n 3, 1) := by decide +kernel
theorem zd_M_cheapest_53 : decode zb_M_cheapest 53 = .ok (.invokevirtual 113, 3) := by decide +kernel
theorem zd_M_cheapest_56 : decode zb_M_cheapest 56 = .ok (.if_icmp .ge 6, 3) := by decide +kernel
theorem zd_M_cheapest_59 : decode zb_M_cheapest 59 = .ok (.iload 4, 2) := by decide +kernel
theorem zd_M_cheapest_61 : decode zb_M_cheapest 61 = .ok (.istore_n 3, 1) := by decide +kernel
theorem zd_M_cheapest_62 : decode zb_M_cheapest 62 = .ok (.iinc 4 1, 3) := by decide +kernel
theorem zd_M_cheapest_65 : decode zb_M_cheapest 65 = .ok (.goto (-60), 3) := by decide +kernel
theorem zd_M_cheapest_68 : decode zb_M_cheapest 68 = .ok (.iload_n 3, 1) := by decide +kernel
theorem zd_M_cheapest_69 : decode zb_M_cheapest 69 = .ok (.ireturn, 1) := by decide +kernel
theorem zd_M_oneByOne_0 : decode zb_M_oneByOne 0 = .ok (.iconst 0, 1) := by decide +kernel
theorem zd_M_oneByOne_1 : decode zb_M_oneByOne 1 = .ok (.istore_n 1, 1) := by decide +kernel
theorem zd_M_oneByOne_2 : decode zb_M_oneByOne 2 = .ok (.iconst 0, 1) := by decide +kernel
theorem zd_M_oneByOne_3 : decode zb_M_oneByOne 3 = .ok (.istore_n 2, 1) := by decide +kernel
theorem zd_M_oneByOne_4 : decode zb_M_oneByOne 4 = .ok (.iload_n 2, 1) := by decide +kernel
theorem zd_M_oneByOne_5 : decode zb_M_oneByOne 5 = .ok (.aload_n 0, 1) := by decide +kernel
theorem zd_M_oneByOne_6 : decode zb_M_oneByOne 6 = .ok (.getfield 104, 3) := by decide +kernel
theorem zd_M_oneByOne_9 : decode zb_M_oneByOne 9 = .ok (.if_icmp .ge 47, 3) := by decide +kernel
theorem zd_M_oneByOne_12 : decode zb_M_oneByOne 12 = .ok (.aload_n 0, 1) := by decide +kernel
theorem zd_M_oneByOne_13 : decode zb_M_oneByOne 13 = .ok (.getfield 63, 3) := by decide +kernel
theorem zd_M_oneByOne_16 : decode zb_M_oneByOne 16 = .ok (.iload_n 2, 1) := by decide +kernel
theorem zd_M_oneByOne_17 : decode zb_M_oneByOne 17 = .ok (.aload_n 0, 1) := by decide +kernel
theorem zd_M_oneByOne_18 : decode zb_M_oneByOne 18 = .ok (.aload_n 0, 1) := by decide +kernel
theorem zd_M_oneByOne_19 : decode zb_M_oneByOne 19 = .ok (.getfield 60, 3) := by decide +kernel
theorem zd_M_oneByOne_22 : decode zb_M_oneByOne 22 = .ok (.iload_n 2, 1) := by decide +kernel
theorem zd_M_oneByOne_23 : decode zb_M_oneByOne 23 = .ok (.iaload, 1) := by decide +kernel
theorem zd_M_oneByOne_24 : decode zb_M_oneByOne 24 = .ok (.iload_n 1, 1) := by decide +kernel
theorem zd_M_oneByOne_25 : decode zb_M_oneByOne 25 = .ok (.invokevirtual 123, 3) := by decide +kernel
theorem zd_M_oneByOne_28 : decode zb_M_oneByOne 28 = .ok (.iastore, 1) := by decide +kernel
theorem zd_M_oneByOne_29 : decode zb_M_oneByOne 29 = .ok (.aload_n 0, 1) := by decide +kernel
theorem zd_M_oneByOne_30 : decode zb_M_oneByOne 30 = .ok (.getfield 63, 3) := by decide +kernel
theorem zd_M_oneByOne_33 : decode zb_M_oneByOne 33 = .ok (.iload_n 2, 1) := by decide +kernel
theorem zd_M_oneByOne_34 : decode zb_M_oneByOne 34 = .ok (.iaload, 1) := by decide +kernel
theorem zd_M_oneByOne_35 : decode zb_M_oneByOne 35 = .ok (.iconst (-1), 1) := by decide +kernel
theorem zd_M_oneByOne_36 : decode zb_M_oneByOne 36 = .ok (.if_icmp .eq 14, 3) := by decide +kernel
theorem zd_M_oneByOne_39 : decode zb_M_oneByOne 39 = .ok (.iload_n 1, 1) := by decide +kernel
theorem zd_M_oneByOne_40 : decode zb_M_oneByOne 40 = .ok (.iconst 1, 1) := by decide +kernel
theorem zd_M_oneByOne_41 : decode zb_M_oneByOne 41 = .ok (.aload_n 0, 1) := by decide +kernel
theorem zd_M_oneByOne_42 : decode zb_M_oneByOne 42 = .ok (.getfield 63, 3) := by decide +kernel
theorem zd_M_oneByOne_45 : decode zb_M_oneByOne 45 = .ok (.iload_n 2, 1) := by decide +kernel
theorem zd_M_oneByOne_46 : decode zb_M_oneByOne 46 = .ok (.iaload, 1) := by decide +kernel
theorem zd_M_oneByOne_47 : decode zb_M_oneByOne 47 = .ok (.ishl, 1) := by decide +kernel
theorem zd_M_oneByOne_48 : decode zb_M_oneByOne 48 = .ok (.ior, 1) := by decide +kernel
theorem zd_M_oneByOne_49 : decode zb_M_oneByOne 49 = .ok (.istore_n 1, 1) := by decide +kernel
theorem zd_M_oneByOne_50 : decode zb_M_oneByOne 50 = .ok (.iinc 2 1, 3) := by decide +kernel
theorem zd_M_oneByOne_53 : decode zb_M_oneByOne 53 = .ok (.goto (-49), 3) := by decide +kernel
theorem zd_M_oneByOne_56 : decode zb_M_oneByOne 56 = .ok (.return_, 1) := by decide +kernel
theorem zd_M_assign_0 : decode zb_M_assign 0 = .ok (.aload_n 0, 1) := by decide +kernel
theorem zd_M_assign_1 : decode zb_M_assign 1 = .ok (.iload_n 1, 1) := by decide +kernel
theorem zd_M_assign_2 : decode zb_M_assign 2 = .ok (.ifCond .ge 7, 3) := by decide +kernel
theorem zd_M_assign_5 : decode zb_M_assign 5 = .ok (.iconst 1, 1) := by decide +kernel
theorem zd_M_assign_6 : decode zb_M_assign 6 = .ok (.goto 4, 3) := by decide +kernel
theorem zd_M_assign_9 : decode zb_M_assign 9 = .ok (.iconst 0, 1) := by decide +kernel
theorem zd_M_assign_10 : decode zb_M_assign 10 = .ok (.putfield 76, 3) := by decide +kernel
theorem zd_M_assign_13 : decode zb_M_assign 13 = .ok (.aload_n 0, 1) := by decide +kernel
theorem zd_M_assign_14 : decode zb_M_assign 14 = .ok (.getfield 76, 3) := by decide +kernel
theorem zd_M_assign_17 : decode zb_M_assign 17 = .ok (.ifCond .le 5, 3) := by decide +kernel
theorem zd_M_assign_20 : decode zb_M_assign 20 = .ok (.iconst 0, 1) := by decide +kernel
theorem zd_M_assign_21 : decode zb_M_assign 21 = .ok (.ireturn, 1) := by decide +kernel
theorem zd_M_assign_22 : decode zb_M_assign 22 = .ok (.aload_n 0, 1) := by decide +kernel
theorem zd_M_assign_23 : decode zb_M_assign 23 = .ok (.invokevirtual 126, 3) := by decide +kernel
theorem zd_M_assign_26 : decode zb_M_assign 26 = .ok (.aload_n 0, 1) := by decide +kernel
theorem zd_M_assign_27 : decode zb_M_assign 27 = .ok (.getfield 104, 3) := by decide +kernel
theorem zd_M_assign_30 : decode zb_M_assign 30 = .ok (.aload_n 0, 1) := by decide +kernel
theorem zd_M_assign_31 : decode zb_M_assign 31 = .ok (.getfield 53, 3) := by decide +kernel
theorem zd_M_assign_34 : decode zb_M_assign 34 = .ok (.if_icmp .gt 7, 3) := by decide +kernel
theorem zd_M_assign_37 : decode zb_M_assign 37 = .ok (.iconst 1, 1) := by decide +kernel
theorem zd_M_assign_38 : decode zb_M_assign 38 = .ok (.goto 4, 3) := by decide +kernel
theorem zd_M_assign_41 : decode zb_M_assign 41 = .ok (.iconst 0, 1) := by decide +kernel
theorem zd_M_assign_42 : decode zb_M_assign 42 = .ok (.istore_n 2, 1) := by decide +kernel
theorem zd_M_assign_43 : decode zb_M_assign 43 = .ok (.iload_n 2, 1) := by decide +kernel
theorem zd_M_assign_44 : decode zb_M_assign 44 = .ok (.ifCond .eq 10, 3) := by decide +kernel
theorem zd_M_assign_47 : decode zb_M_assign 47 = .ok (.aload_n 0, 1) := by decide +kernel
theorem zd_M_assign_48 : decode zb_M_assign 48 = .ok (.invokevirtual 129, 3) := by decide +kernel
theorem zd_M_assign_51 : decode zb_M_assign 51 = .ok (.goto 7, 3) := by decide +kernel
theorem zd_M_assign_54 : decode zb_M_assign 54 = .ok (.aload_n 0, 1) := by decide +kernel
theorem zd_M_assign_55 : decode zb_M_assign 55 = .ok (.invokevirtual 132, 3) := by decide +kernel
theorem zd_M_assign_58 : decode zb_M_assign 58 = .ok (.iconst 0, 1) := by decide +kernel
theorem zd_M_assign_59 : decode zb_M_assign 59 = .ok (.istore_n 3, 1) := by decide +kernel
theorem zd_M_assign_60 : decode zb_M_assign 60 = .ok (.iconst 0, 1) := by decide +kernel
theorem zd_M_assign_61 : decode zb_M_assign 61 = .ok (.istore 4, 2) := by decide +kernel
theorem zd_M_assign_63 : decode zb_M_assign 63 = .ok (.iload 4, 2) := by decide +kernel
theorem zd_M_assign_65 : decode zb_M_assign 65 = .ok (.aload_n 0, 1) := by decide +kernel
theorem zd_M_assign_66 : decode zb_M_assign 66 = .ok (.getfield 104, 3) := by decide +kernel
theorem zd_M_assign_69 : decode zb_M_assign 69 = .ok (.if_icmp .ge 45, 3) := by decide +kernel
theorem zd_M_assign_72 : decode zb_M_assign 72 = .ok (.iload_n 3, 1) := by decide +kernel
theorem zd_M_assign_73 : decode zb_M_assign 73 = .ok (.aload_n 0, 1) := by decide +kernel
theorem zd_M_assign_74 : decode zb_M_assign 74 = .ok (.getfield 63, 3) := by decide +kernel
theorem zd_M_assign_77 : decode zb_M_assign 77 = .ok (.iload 4, 2) := by decide +kernel
theorem zd_M_assign_79 : decode zb_M_assign 79 = .ok (.iaload, 1) := by decide +kernel
theorem zd_M_assign_80 : decode zb_M_assign 80 = .ok (.iconst (-1), 1) := by decide +kernel
theorem zd_M_assign_81 : decode zb_M_assign 81 = .ok (.if_icmp .ne 7, 3) := by decide +kernel
theorem zd_M_assign_84 : decode zb_M_assign 84 = .ok (.iconst 0, 1) := by decide +kernel
theorem zd_M_assign_85 : decode zb_M_assign 85 = .ok (.goto 21, 3) := by decide +kernel
theorem zd_M_assign_88 : decode zb_M_assign 88 = .ok (.aload_n 0, 1) := by decide +kernel
theorem zd_M_assign_89 : decode zb_M_assign 89 = .ok (.aload_n 0, 1) := by decide +kernel
theorem zd_M_assign_90 : decode zb_M_assign 90 = .ok (.getfield 60, 3) := by decide +kernel
theorem zd_M_assign_93 : decode zb_M_assign 93 = .ok (.iload 4, 2) := by decide +kernel
theorem zd_M_assign_95 : decode zb_M_assign 95 = .ok (.iaload, 1) := by decide +kernel
theorem zd_M_assign_96 : decode zb_M_assign 96 = .ok (.aload_n 0, 1) := by decide +kernel
theorem zd_M_assign_97 : decode zb_M_assign 97 = .ok (.getfield 63, 3) := by decide +kernel
theorem zd_M_assign_100 : decode zb_M_assign 100 = .ok (.iload 4, 2) := by decide +kernel
theorem zd_M_assign_102 : decode zb_M_assign 102 = .ok (.iaload, 1) := by decide +kernel
theorem zd_M_assign_103 : decode zb_M_assign 103 = .ok (.invokevirtual 113, 3) := by decide +kernel
theorem zd_M_assign_106 : decode zb_M_assign 106 = .ok (.iadd, 1) := by decide +kernel
theorem zd_M_assign_107 : decode zb_M_assign 107 = .ok (.istore_n 3, 1) := by decide +kernel
theorem zd_M_assign_108 : decode zb_M_assign 108 = .ok (.iinc 4 1, 3) := by decide +kernel
theorem zd_M_assign_111 : decode zb_M_assign 111 = .ok (.goto (-48), 3) := by decide +kernel
theorem zd_M_assign_114 : decode zb_M_assign 114 = .ok (.iload_n 3, 1) := by decide +kernel
theorem zd_M_assign_115 : decode zb_M_assign 115 = .ok (.iload_n 1, 1) := by decide +kernel
theorem zd_M_assign_116 : decode zb_M_assign 116 = .ok (.if_icmp .le 5, 3) := by decide +kernel
theorem zd_M_assign_119 : decode zb_M_assign 119 = .ok (.iconst (-1), 1) := by decide +kernel
theorem zd_M_assign_120 : decode zb_M_assign 120 = .ok (.ireturn, 1) := by decide +kernel
theorem zd_M_assign_121 : decode zb_M_assign 121 = .ok (.aload_n 0, 1) := by decide +kernel
theorem zd_M_assign_122 : decode zb_M_assign 122 = .ok (.iload_n 2, 1) := by decide +kernel
theorem zd_M_assign_123 : decode zb_M_assign 123 = .ok (.putfield 135, 3) := by decide +kernel
theorem zd_M_assign_126 : decode zb_M_assign 126 = .ok (.iconst 0, 1) := by decide +kernel
theorem zd_M_assign_127 : decode zb_M_assign 127 = .ok (.istore 4, 2) := by decide +kernel
theorem zd_M_assign_129 : decode zb_M_assign 129 = .ok (.iload 4, 2) := by decide +kernel
theorem zd_M_assign_131 : decode zb_M_assign 131 = .ok (.aload_n 0, 1) := by decide +kernel
theorem zd_M_assign_132 : decode zb_M_assign 132 = .ok (.getfield 104, 3) := by decide +kernel
theorem zd_M_assign_135 : decode zb_M_assign 135 = .ok (.if_icmp .ge 58, 3) := by decide +kernel
theorem zd_M_assign_138 : decode zb_M_assign 138 = .ok (.iconst 0, 1) := by decide +kernel
theorem zd_M_assign_139 : decode zb_M_assign 139 = .ok (.istore 5, 2) := by decide +kernel
theorem zd_M_assign_141 : decode zb_M_assign 141 = .ok (.iload 5, 2) := by decide +kernel
theorem zd_M_assign_143 : decode zb_M_assign 143 = .ok (.aload_n 0, 1) := by decide +kernel
theorem zd_M_assign_144 : decode zb_M_assign 144 = .ok (.getfield 79, 3) := by decide +kernel
theorem zd_M_assign_147 : decode zb_M_assign 147 = .ok (.if_icmp .ge 40, 3) := by decide +kernel
theorem zd_M_assign_150 : decode zb_M_assign 150 = .ok (.aload_n 0, 1) := by decide +kernel
theorem zd_M_assign_151 : decode zb_M_assign 151 = .ok (.getfield 16, 3) := by decide +kernel
theorem zd_M_assign_154 : decode zb_M_assign 154 = .ok (.iload 5, 2) := by decide +kernel
theorem zd_M_assign_156 : decode zb_M_assign 156 = .ok (.iaload, 1) := by decide +kernel
theorem zd_M_assign_157 : decode zb_M_assign 157 = .ok (.aload_n 0, 1) := by decide +kernel
theorem zd_M_assign_158 : decode zb_M_assign 158 = .ok (.getfield 60, 3) := by decide +kernel
theorem zd_M_assign_161 : decode zb_M_assign 161 = .ok (.iload 4, 2) := by decide +kernel
theorem zd_M_assign_163 : decode zb_M_assign 163 = .ok (.iaload, 1) := by decide +kernel
theorem zd_M_assign_164 : decode zb_M_assign 164 = .ok (.if_icmp .ne 17, 3) := by decide +kernel
theorem zd_M_assign_167 : decode zb_M_assign 167 = .ok (.aload_n 0, 1) := by decide +kernel
theorem zd_M_assign_168 : decode zb_M_assign 168 = .ok (.getfield 22, 3) := by decide +kernel
theorem zd_M_assign_171 : decode zb_M_assign 171 = .ok (.iload 5, 2) := by decide +kernel
theorem zd_M_assign_173 : decode zb_M_assign 173 = .ok (.aload_n 0, 1) := by decide +kernel
theorem zd_M_assign_174 : decode zb_M_assign 174 = .ok (.getfield 63, 3) := by decide +kernel
theorem zd_M_assign_177 : decode zb_M_assign 177 = .ok (.iload 4, 2) := by decide +kernel
theorem zd_M_assign_179 : decode zb_M_assign 179 = .ok (.iaload, 1) := by decide +kernel
theorem zd_M_assign_180 : decode zb_M_assign 180 = .ok (.iastore, 1) := by decide +kernel
theorem zd_M_assign_181 : decode zb_M_assign 181 = .ok (.iinc 5 1, 3) := by decide +kernel
theorem zd_M_assign_184 : decode zb_M_assign 184 = .ok (.goto (-43), 3) := by decide +kernel
theorem zd_M_assign_187 : decode zb_M_assign 187 = .ok (.iinc 4 1, 3) := by decide +kernel
theorem zd_M_assign_190 : decode zb_M_assign 190 = .ok (.goto (-61), 3) := by decide +kernel
theorem zd_M_assign_193 : decode zb_M_assign 193 = .ok (.iload_n 3, 1) := by decide +kernel
theorem zd_M_assign_194 : decode zb_M_assign 194 = .ok (.ireturn, 1) := by decide +kernel
theorem zd_M_at_0 : decode zb_M_at 0 = .ok (.aload_n 0, 1) := by decide +kernel
theorem zd_M_at_1 : decode zb_M_at 1 = .ok (.aload_n 0, 1) := by decide +kernel
theorem zd_M_at_2 : decode zb_M_at 2 = .ok (.iload_n 1, 1) := by decide +kernel
theorem zd_M_at_3 : decode zb_M_at 3 = .ok (.invokevirtual 89, 3) := by decide +kernel
theorem zd_M_at_6 : decode zb_M_at 6 = .ok (.ifCond .eq 7, 3) := by decide +kernel
theorem zd_M_at_9 : decode zb_M_at 9 = .ok (.iconst 0, 1) := by decide +kernel
theorem zd_M_at_10 : decode zb_M_at 10 = .ok (.goto 4, 3) := by decide +kernel
theorem zd_M_at_13 : decode zb_M_at 13 = .ok (.iconst 1, 1) := by decide +kernel
theorem zd_M_at_14 : decode zb_M_at 14 = .ok (.putfield 76, 3) := by decide +kernel
theorem zd_M_at_17 : decode zb_M_at 17 = .ok (.aload_n 0, 1) := by decide +kernel
theorem zd_M_at_18 : decode zb_M_at 18 = .ok (.getfield 76, 3) := by decide +kernel
theorem zd_M_at_21 : decode zb_M_at 21 = .ok (.ifCond .le 7, 3) := by decide +kernel
theorem zd_M_at_24 : decode zb_M_at 24 = .ok (.iconst 0, 1) := by decide +kernel
theorem zd_M_at_25 : decode zb_M_at 25 = .ok (.goto 9, 3) := by decide +kernel
theorem zd_M_at_28 : decode zb_M_at 28 = .ok (.aload_n 0, 1) := by decide +kernel
theorem zd_M_at_29 : decode zb_M_at 29 = .ok (.getfield 22, 3) := by decide +kernel
theorem zd_M_at_32 : decode zb_M_at 32 = .ok (.iload_n 1, 1) := by decide +kernel
theorem zd_M_at_33 : decode zb_M_at 33 = .ok (.iaload, 1) := by decide +kernel
theorem zd_M_at_34 : decode zb_M_at 34 = .ok (.ireturn, 1) := by decide +kernel
theorem zd_M_exact_0 : decode zb_M_exact 0 = .ok (.aload_n 0, 1) := by decide +kernel
theorem zd_M_exact_1 : decode zb_M_exact 1 = .ok (.iconst 0, 1) := by decide +kernel
theorem zd_M_exact_2 : decode zb_M_exact 2 = .ok (.putfield 76, 3) := by decide +kernel
theorem zd_M_exact_5 : decode zb_M_exact 5 = .ok (.aload_n 0, 1) := by decide +kernel
theorem zd_M_exact_6 : decode zb_M_exact 6 = .ok (.getfield 135, 3) := by decide +kernel
theorem zd_M_exact_9 : decode zb_M_exact 9 = .ok (.ireturn, 1) := by decide +kernel
theorem zd_M_bound_0 : decode zb_M_bound 0 = .ok (.aload_n 0, 1) := by decide +kernel
theorem zd_M_bound_1 : decode zb_M_bound 1 = .ok (.iconst 0, 1) := by decide +kernel
theorem zd_M_bound_2 : decode zb_M_bound 2 = .ok (.putfield 76, 3) := by decide +kernel
theorem zd_M_bound_5 : decode zb_M_bound 5 = .ok (.aload_n 0, 1) := by decide +kernel
theorem zd_M_bound_6 : decode zb_M_bound 6 = .ok (.invokevirtual 126, 3) := by decide +kernel
theorem zd_M_bound_9 : decode zb_M_bound 9 = .ok (.iconst 0, 1) := by decide +kernel
theorem zd_M_bound_10 : decode zb_M_bound 10 = .ok (.istore_n 1, 1) := by decide +kernel
theorem zd_M_bound_11 : decode zb_M_bound 11 = .ok (.iconst 0, 1) := by decide +kernel
theorem zd_M_bound_12 : decode zb_M_bound 12 = .ok (.istore_n 2, 1) := by decide +kernel
theorem zd_M_bound_13 : decode zb_M_bound 13 = .ok (.iload_n 2, 1) := by decide +kernel
theorem zd_M_bound_14 : decode zb_M_bound 14 = .ok (.aload_n 0, 1) := by decide +kernel
theorem zd_M_bound_15 : decode zb_M_bound 15 = .ok (.getfield 104, 3) := by decide +kernel
theorem zd_M_bound_18 : decode zb_M_bound 18 = .ok (.if_icmp .ge 42, 3) := by decide +kernel
theorem zd_M_bound_21 : decode zb_M_bound 21 = .ok (.aload_n 0, 1) := by decide +kernel
theorem zd_M_bound_22 : decode zb_M_bound 22 = .ok (.aload_n 0, 1) := by decide +kernel
theorem zd_M_bound_23 : decode zb_M_bound 23 = .ok (.getfield 60, 3) := by decide +kernel
theorem zd_M_bound_26 : decode zb_M_bound 26 = .ok (.iload_n 2, 1) := by decide +kernel
theorem zd_M_bound_27 : decode zb_M_bound 27 = .ok (.iaload, 1) := by decide +kernel
theorem zd_M_bound_28 : decode zb_M_bound 28 = .ok (.iconst 0, 1) := by decide +kernel
theorem zd_M_bound_29 : decode zb_M_bound 29 = .ok (.invokevirtual 123, 3) := by decide +kernel
theorem zd_M_bound_32 : decode zb_M_bound 32 = .ok (.istore_n 3, 1) := by decide +kernel
theorem zd_M_bound_33 : decode zb_M_bound 33 = .ok (.iload_n 3, 1) := by decide +kernel
theorem zd_M_bound_34 : decode zb_M_bound 34 = .ok (.iconst (-1), 1) := by decide +kernel
theorem zd_M_bound_35 : decode zb_M_bound 35 = .ok (.if_icmp .ne 5, 3) := by decide +kernel
theorem zd_M_bound_38 : decode zb_M_bound 38 = .ok (.iconst (-1), 1) := by decide +kernel
theorem zd_M_bound_39 : decode zb_M_bound 39 = .ok (.ireturn, 1) := by decide +kernel
theorem zd_M_bound_40 : decode zb_M_bound 40 = .ok (.iload_n 1, 1) := by decide +kernel
theorem zd_M_bound_41 : decode zb_M_bound 41 = .ok (.aload_n 0, 1) := by decide +kernel
theorem zd_M_bound_42 : decode zb_M_bound 42 = .ok (.aload_n 0, 1) := by decide +kernel
theorem zd_M_bound_43 : decode zb_M_bound 43 = .ok (.getfield 60, 3) := by decide +kernel
theorem zd_M_bound_46 : decode zb_M_bound 46 = .ok (.iload_n 2, 1) := by decide +kernel
theorem zd_M_bound_47 : decode zb_M_bound 47 = .ok (.iaload, 1) := by decide +kernel
theorem zd_M_bound_48 : decode zb_M_bound 48 = .ok (.iload_n 3, 1) := by decide +kernel
theorem zd_M_bound_49 : decode zb_M_bound 49 = .ok (.invokevirtual 113, 3) := by decide +kernel
theorem zd_M_bound_52 : decode zb_M_bound 52 = .ok (.iadd, 1) := by decide +kernel
theorem zd_M_bound_53 : decode zb_M_bound 53 = .ok (.istore_n 1, 1) := by decide +kernel
theorem zd_M_bound_54 : decode zb_M_bound 54 = .ok (.iinc 2 1, 3) := by decide +kernel
theorem zd_M_bound_57 : decode zb_M_bound 57 = .ok (.goto (-44), 3) := by decide +kernel
theorem zd_M_bound_60 : decode zb_M_bound 60 = .ok (.iload_n 1, 1) := by decide +kernel
theorem zd_M_bound_61 : decode zb_M_bound 61 = .ok (.ireturn, 1) := by decide +kernel
theorem zd_M_barred_0 : decode zb_M_barred 0 = .ok (.aload_n 0, 1) := by decide +kernel
theorem zd_M_barred_1 : decode zb_M_barred 1 = .ok (.aload_n 0, 1) := by decide +kernel
theorem zd_M_barred_2 : decode zb_M_barred 2 = .ok (.iload_n 1, 1) := by decide +kernel
theorem zd_M_barred_3 : decode zb_M_barred 3 = .ok (.invokevirtual 89, 3) := by decide +kernel
theorem zd_M_barred_6 : decode zb_M_barred 6 = .ok (.ifCond .ne 7, 3) := by decide +kernel
theorem zd_M_barred_9 : decode zb_M_barred 9 = .ok (.iconst 1, 1) := by decide +kernel
theorem zd_M_barred_10 : decode zb_M_barred 10 = .ok (.goto 4, 3) := by decide +kernel
theorem zd_M_barred_13 : decode zb_M_barred 13 = .ok (.iconst 0, 1) := by decide +kernel
theorem zd_M_barred_14 : decode zb_M_barred 14 = .ok (.putfield 76, 3) := by decide +kernel
theorem zd_M_barred_17 : decode zb_M_barred 17 = .ok (.aload_n 0, 1) := by decide +kernel
theorem zd_M_barred_18 : decode zb_M_barred 18 = .ok (.getfield 76, 3) := by decide +kernel
theorem zd_M_barred_21 : decode zb_M_barred 21 = .ok (.ifCond .ne 21, 3) := by decide +kernel
theorem zd_M_barred_24 : decode zb_M_barred 24 = .ok (.aload_n 0, 1) := by decide +kernel
theorem zd_M_barred_25 : decode zb_M_barred 25 = .ok (.aload_n 0, 1) := by decide +kernel
theorem zd_M_barred_26 : decode zb_M_barred 26 = .ok (.getfield 25, 3) := by decide +kernel
theorem zd_M_barred_29 : decode zb_M_barred 29 = .ok (.iload_n 1, 1) := by decide +kernel
theorem zd_M_barred_30 : decode zb_M_barred 30 = .ok (.baload, 1) := by decide +kernel
theorem zd_M_barred_31 : decode zb_M_barred 31 = .ok (.ifCond .eq 7, 3) := by decide +kernel
theorem zd_M_barred_34 : decode zb_M_barred 34 = .ok (.iconst 2, 1) := by decide +kernel
theorem zd_M_barred_35 : decode zb_M_barred 35 = .ok (.goto 4, 3) := by decide +kernel
theorem zd_M_barred_38 : decode zb_M_barred 38 = .ok (.iconst 0, 1) := by decide +kernel
theorem zd_M_barred_39 : decode zb_M_barred 39 = .ok (.putfield 76, 3) := by decide +kernel
theorem zd_M_barred_42 : decode zb_M_barred 42 = .ok (.aload_n 0, 1) := by decide +kernel
theorem zd_M_barred_43 : decode zb_M_barred 43 = .ok (.getfield 76, 3) := by decide +kernel
theorem zd_M_barred_46 : decode zb_M_barred 46 = .ok (.ifCond .le 5, 3) := by decide +kernel
theorem zd_M_barred_49 : decode zb_M_barred 49 = .ok (.iconst 0, 1) := by decide +kernel
theorem zd_M_barred_50 : decode zb_M_barred 50 = .ok (.ireturn, 1) := by decide +kernel
theorem zd_M_barred_51 : decode zb_M_barred 51 = .ok (.iconst 1, 1) := by decide +kernel
theorem zd_M_barred_52 : decode zb_M_barred 52 = .ok (.istore_n 2, 1) := by decide +kernel
theorem zd_M_barred_53 : decode zb_M_barred 53 = .ok (.iload_n 2, 1) := by decide +kernel
theorem zd_M_barred_54 : decode zb_M_barred 54 = .ok (.bipush 6, 2) := by decide +kernel
theorem zd_M_barred_56 : decode zb_M_barred 56 = .ok (.if_icmp .ge 61, 3) := by decide +kernel
theorem zd_M_barred_59 : decode zb_M_barred 59 = .ok (.iconst 0, 1) := by decide +kernel
theorem zd_M_barred_60 : decode zb_M_barred 60 = .ok (.istore_n 3, 1) := by decide +kernel
theorem zd_M_barred_61 : decode zb_M_barred 61 = .ok (.iconst 0, 1) := by decide +kernel
theorem zd_M_barred_62 : decode zb_M_barred 62 = .ok (.istore 4, 2) := by decide +kernel
theorem zd_M_barred_64 : decode zb_M_barred 64 = .ok (.iload 4, 2) := by decide +kernel
theorem zd_M_barred_66 : decode zb_M_barred 66 = .ok (.aload_n 0, 1) := by decide +kernel
theorem zd_M_barred_67 : decode zb_M_barred 67 = .ok (.getfield 86, 3) := by decide +kernel
theorem zd_M_barred_70 : decode zb_M_barred 70 = .ok (.if_icmp .ge 35, 3) := by decide +kernel
theorem zd_M_barred_73 : decode zb_M_barred 73 = .ok (.iload_n 3, 1) := by decide +kernel
theorem zd_M_barred_74 : decode zb_M_barred 74 = .ok (.ifCond .ne 19, 3) := by decide +kernel
theorem zd_M_barred_77 : decode zb_M_barred 77 = .ok (.aload_n 0, 1) := by decide +kernel
theorem zd_M_barred_78 : decode zb_M_barred 78 = .ok (.aload_n 0, 1) := by decide +kernel
theorem zd_M_barred_79 : decode zb_M_barred 79 = .ok (.getfield 16, 3) := by decide +kernel
theorem zd_M_barred_82 : decode zb_M_barred 82 = .ok (.iload_n 1, 1) := by decide +kernel
theorem zd_M_barred_83 : decode zb_M_barred 83 = .ok (.iaload, 1) := by decide +kernel
theorem zd_M_barred_84 : decode zb_M_barred 84 = .ok (.iload 4, 2) := by decide +kernel
theorem zd_M_barred_86 : decode zb_M_barred 86 = .ok (.iload_n 2, 1) := by decide +kernel
theorem zd_M_barred_87 : decode zb_M_barred 87 = .ok (.invokevirtual 110, 3) := by decide +kernel
theorem zd_M_barred_90 : decode zb_M_barred 90 = .ok (.ifCond .eq 7, 3) := by decide +kernel
theorem zd_M_barred_93 : decode zb_M_barred 93 = .ok (.iconst 1, 1) := by decide +kernel
theorem zd_M_barred_94 : decode zb_M_barred 94 = .ok (.goto 4, 3) := by decide +kernel
theorem zd_M_barred_97 : decode zb_M_barred 97 = .ok (.iconst 0, 1) := by decide +kernel
theorem zd_M_barred_98 : decode zb_M_barred 98 = .ok (.istore_n 3, 1) := by decide +kernel
theorem zd_M_barred_99 : decode zb_M_barred 99 = .ok (.iinc 4 1, 3) := by decide +kernel
theorem zd_M_barred_102 : decode zb_M_barred 102 = .ok (.goto (-38), 3) := by decide +kernel
theorem zd_M_barred_105 : decode zb_M_barred 105 = .ok (.iload_n 3, 1) := by decide +kernel
theorem zd_M_barred_106 : decode zb_M_barred 106 = .ok (.ifCond .ne 5, 3) := by decide +kernel
theorem zd_M_barred_109 : decode zb_M_barred 109 = .ok (.iload_n 2, 1) := by decide +kernel
theorem zd_M_barred_110 : decode zb_M_barred 110 = .ok (.ireturn, 1) := by decide +kernel
theorem zd_M_barred_111 : decode zb_M_barred 111 = .ok (.iinc 2 1, 3) := by decide +kernel
theorem zd_M_barred_114 : decode zb_M_barred 114 = .ok (.goto (-61), 3) := by decide +kernel
theorem zd_M_barred_117 : decode zb_M_barred 117 = .ok (.iconst 0, 1) := by decide +kernel
theorem zd_M_barred_118 : decode zb_M_barred 118 = .ok (.ireturn, 1) := by decide +kernel
theorem zd_M_put_0 : decode zb_M_put 0 = .ok (.aload_n 0, 1) := by decide +kernel
theorem zd_M_put_1 : decode zb_M_put 1 = .ok (.aload_n 0, 1) := by decide +kernel
theorem zd_M_put_2 : decode zb_M_put 2 = .ok (.iload_n 1, 1) := by decide +kernel
theorem zd_M_put_3 : decode zb_M_put 3 = .ok (.invokevirtual 89, 3) := by decide +kernel
theorem zd_M_put_6 : decode zb_M_put 6 = .ok (.ifCond .ne 7, 3) := by decide +kernel
theorem zd_M_put_9 : decode zb_M_put 9 = .ok (.iconst 1, 1) := by decide +kernel
theorem zd_M_put_10 : decode zb_M_put 10 = .ok (.goto 4, 3) := by decide +kernel
theorem zd_M_put_13 : decode zb_M_put 13 = .ok (.iconst 0, 1) := by decide +kernel
theorem zd_M_put_14 : decode zb_M_put 14 = .ok (.putfield 76, 3) := by decide +kernel
theorem zd_M_put_17 : decode zb_M_put 17 = .ok (.aload_n 0, 1) := by decide +kernel
theorem zd_M_put_18 : decode zb_M_put 18 = .ok (.getfield 76, 3) := by decide +kernel
theorem zd_M_put_21 : decode zb_M_put 21 = .ok (.ifCond .ne 31, 3) := by decide +kernel
theorem zd_M_put_24 : decode zb_M_put 24 = .ok (.aload_n 0, 1) := by decide +kernel
theorem zd_M_put_25 : decode zb_M_put 25 = .ok (.aload_n 0, 1) := by decide +kernel
theorem zd_M_put_26 : decode zb_M_put 26 = .ok (.getfield 25, 3) := by decide +kernel
theorem zd_M_put_29 : decode zb_M_put 29 = .ok (.iload_n 1, 1) := by decide +kernel
theorem zd_M_put_30 : decode zb_M_put 30 = .ok (.baload, 1) := by decide +kernel
theorem zd_M_put_31 : decode zb_M_put 31 = .ok (.ifCond .ne 13, 3) := by decide +kernel
theorem zd_M_put_34 : decode zb_M_put 34 = .ok (.aload_n 0, 1) := by decide +kernel
theorem zd_M_put_35 : decode zb_M_put 35 = .ok (.getfield 22, 3) := by decide +kernel
theorem zd_M_put_38 : decode zb_M_put 38 = .ok (.iload_n 1, 1) := by decide +kernel
theorem zd_M_put_39 : decode zb_M_put 39 = .ok (.iaload, 1) := by decide +kernel
theorem zd_M_put_40 : decode zb_M_put 40 = .ok (.iconst (-1), 1) := by decide +kernel
theorem zd_M_put_41 : decode zb_M_put 41 = .ok (.if_icmp .ne 7, 3) := by decide +kernel
theorem zd_M_put_44 : decode zb_M_put 44 = .ok (.iconst 2, 1) := by decide +kernel
theorem zd_M_put_45 : decode zb_M_put 45 = .ok (.goto 4, 3) := by decide +kernel
theorem zd_M_put_48 : decode zb_M_put 48 = .ok (.iconst 0, 1) := by decide +kernel
theorem zd_M_put_49 : decode zb_M_put 49 = .ok (.putfield 76, 3) := by decide +kernel
theorem zd_M_put_52 : decode zb_M_put 52 = .ok (.aload_n 0, 1) := by decide +kernel
theorem zd_M_put_53 : decode zb_M_put 53 = .ok (.getfield 76, 3) := by decide +kernel
theorem zd_M_put_56 : decode zb_M_put 56 = .ok (.ifCond .ne 32, 3) := by decide +kernel
theorem zd_M_put_59 : decode zb_M_put 59 = .ok (.aload_n 0, 1) := by decide +kernel
theorem zd_M_put_60 : decode zb_M_put 60 = .ok (.aload_n 0, 1) := by decide +kernel
theorem zd_M_put_61 : decode zb_M_put 61 = .ok (.aload_n 0, 1) := by decide +kernel
theorem zd_M_put_62 : decode zb_M_put 62 = .ok (.getfield 16, 3) := by decide +kernel
theorem zd_M_put_65 : decode zb_M_put 65 = .ok (.iload_n 1, 1) := by decide +kernel
theorem zd_M_put_66 : decode zb_M_put 66 = .ok (.iaload, 1) := by decide +kernel
theorem zd_M_put_67 : decode zb_M_put 67 = .ok (.aload_n 0, 1) := by decide +kernel
theorem zd_M_put_68 : decode zb_M_put 68 = .ok (.getfield 22, 3) := by decide +kernel
theorem zd_M_put_71 : decode zb_M_put 71 = .ok (.iload_n 1, 1) := by decide +kernel
theorem zd_M_put_72 : decode zb_M_put 72 = .ok (.iaload, 1) := by decide +kernel
theorem zd_M_put_73 : decode zb_M_put 73 = .ok (.iconst 5, 1) := by decide +kernel
theorem zd_M_put_74 : decode zb_M_put 74 = .ok (.invokevirtual 110, 3) := by decide +kernel
theorem zd_M_put_77 : decode zb_M_put 77 = .ok (.ifCond .eq 7, 3) := by decide +kernel
theorem zd_M_put_80 : decode zb_M_put 80 = .ok (.iconst 0, 1) := by decide +kernel
theorem zd_M_put_81 : decode zb_M_put 81 = .ok (.goto 4, 3) := by decide +kernel
theorem zd_M_put_84 : decode zb_M_put 84 = .ok (.iconst 2, 1) := by decide +kernel
theorem zd_M_put_85 : decode zb_M_put 85 = .ok (.putfield 76, 3) := by decide +kernel
theorem zd_M_put_88 : decode zb_M_put 88 = .ok (.aload_n 0, 1) := by decide +kernel
theorem zd_M_put_89 : decode zb_M_put 89 = .ok (.getfield 76, 3) := by decide +kernel
theorem zd_M_put_92 : decode zb_M_put 92 = .ok (.ifCond .le 5, 3) := by decide +kernel
theorem zd_M_put_95 : decode zb_M_put 95 = .ok (.iconst 0, 1) := by decide +kernel
theorem zd_M_put_96 : decode zb_M_put 96 = .ok (.ireturn, 1) := by decide +kernel
theorem zd_M_put_97 : decode zb_M_put 97 = .ok (.aload_n 0, 1) := by decide +kernel
theorem zd_M_put_98 : decode zb_M_put 98 = .ok (.getfield 41, 3) := by decide +kernel
theorem zd_M_put_101 : decode zb_M_put 101 = .ok (.aload_n 0, 1) := by decide +kernel
theorem zd_M_put_102 : decode zb_M_put 102 = .ok (.getfield 22, 3) := by decide +kernel
theorem zd_M_put_105 : decode zb_M_put 105 = .ok (.iload_n 1, 1) := by decide +kernel
theorem zd_M_put_106 : decode zb_M_put 106 = .ok (.iaload, 1) := by decide +kernel
theorem zd_M_put_107 : decode zb_M_put 107 = .ok (.dup2, 1) := by decide +kernel
theorem zd_M_put_108 : decode zb_M_put 108 = .ok (.iaload, 1) := by decide +kernel
theorem zd_M_put_109 : decode zb_M_put 109 = .ok (.aload_n 0, 1) := by decide +kernel
theorem zd_M_put_110 : decode zb_M_put 110 = .ok (.aload_n 0, 1) := by decide +kernel
theorem zd_M_put_111 : decode zb_M_put 111 = .ok (.getfield 16, 3) := by decide +kernel
theorem zd_M_put_114 : decode zb_M_put 114 = .ok (.iload_n 1, 1) := by decide +kernel
theorem zd_M_put_115 : decode zb_M_put 115 = .ok (.iaload, 1) := by decide +kernel
theorem zd_M_put_116 : decode zb_M_put 116 = .ok (.invokevirtual 97, 3) := by decide +kernel
theorem zd_M_put_119 : decode zb_M_put 119 = .ok (.isub, 1) := by decide +kernel
theorem zd_M_put_120 : decode zb_M_put 120 = .ok (.iastore, 1) := by decide +kernel
theorem zd_M_put_121 : decode zb_M_put 121 = .ok (.iconst 0, 1) := by decide +kernel
theorem zd_M_put_122 : decode zb_M_put 122 = .ok (.istore_n 2, 1) := by decide +kernel
theorem zd_M_put_123 : decode zb_M_put 123 = .ok (.iconst 0, 1) := by decide +kernel
theorem zd_M_put_124 : decode zb_M_put 124 = .ok (.istore_n 3, 1) := by decide +kernel
theorem zd_M_put_125 : decode zb_M_put 125 = .ok (.iload_n 3, 1) := by decide +kernel
theorem zd_M_put_126 : decode zb_M_put 126 = .ok (.aload_n 0, 1) := by decide +kernel
theorem zd_M_put_127 : decode zb_M_put 127 = .ok (.getfield 79, 3) := by decide +kernel
theorem zd_M_put_130 : decode zb_M_put 130 = .ok (.if_icmp .ge 37, 3) := by decide +kernel
theorem zd_M_put_133 : decode zb_M_put 133 = .ok (.aload_n 0, 1) := by decide +kernel
theorem zd_M_put_134 : decode zb_M_put 134 = .ok (.getfield 16, 3) := by decide +kernel
theorem zd_M_put_137 : decode zb_M_put 137 = .ok (.iload_n 3, 1) := by decide +kernel
theorem zd_M_put_138 : decode zb_M_put 138 = .ok (.iaload, 1) := by decide +kernel
theorem zd_M_put_139 : decode zb_M_put 139 = .ok (.aload_n 0, 1) := by decide +kernel
theorem zd_M_put_140 : decode zb_M_put 140 = .ok (.getfield 16, 3) := by decide +kernel
theorem zd_M_put_143 : decode zb_M_put 143 = .ok (.iload_n 1, 1) := by decide +kernel
theorem zd_M_put_144 : decode zb_M_put 144 = .ok (.iaload, 1) := by decide +kernel
theorem zd_M_put_145 : decode zb_M_put 145 = .ok (.if_icmp .eq 6, 3) := by decide +kernel
theorem zd_M_put_148 : decode zb_M_put 148 = .ok (.goto 13, 3) := by decide +kernel
theorem zd_M_put_151 : decode zb_M_put 151 = .ok (.aload_n 0, 1) := by decide +kernel
theorem zd_M_put_152 : decode zb_M_put 152 = .ok (.getfield 25, 3) := by decide +kernel
theorem zd_M_put_155 : decode zb_M_put 155 = .ok (.iload_n 3, 1) := by decide +kernel
theorem zd_M_put_156 : decode zb_M_put 156 = .ok (.iconst 1, 1) := by decide +kernel
theorem zd_M_put_157 : decode zb_M_put 157 = .ok (.bastore, 1) := by decide +kernel
theorem zd_M_put_158 : decode zb_M_put 158 = .ok (.iinc 2 1, 3) := by decide +kernel
theorem zd_M_put_161 : decode zb_M_put 161 = .ok (.iinc 3 1, 3) := by decide +kernel
theorem zd_M_put_164 : decode zb_M_put 164 = .ok (.goto (-39), 3) := by decide +kernel
theorem zd_M_put_167 : decode zb_M_put 167 = .ok (.iload_n 2, 1) := by decide +kernel
theorem zd_M_put_168 : decode zb_M_put 168 = .ok (.ireturn, 1) := by decide +kernel
theorem zd_M_plannedFor_0 : decode zb_M_plannedFor 0 = .ok (.iconst 0, 1) := by decide +kernel
theorem zd_M_plannedFor_1 : decode zb_M_plannedFor 1 = .ok (.istore_n 2, 1) := by decide +kernel
theorem zd_M_plannedFor_2 : decode zb_M_plannedFor 2 = .ok (.iload_n 2, 1) := by decide +kernel
theorem zd_M_plannedFor_3 : decode zb_M_plannedFor 3 = .ok (.aload_n 0, 1) := by decide +kernel
theorem zd_M_plannedFor_4 : decode zb_M_plannedFor 4 = .ok (.getfield 79, 3) := by decide +kernel
theorem zd_M_plannedFor_7 : decode zb_M_plannedFor 7 = .ok (.if_icmp .ge 29, 3) := by decide +kernel
theorem zd_M_plannedFor_10 : decode zb_M_plannedFor 10 = .ok (.aload_n 0, 1) := by decide +kernel
theorem zd_M_plannedFor_11 : decode zb_M_plannedFor 11 = .ok (.iload_n 2, 1) := by decide +kernel
theorem zd_M_plannedFor_12 : decode zb_M_plannedFor 12 = .ok (.invokevirtual 107, 3) := by decide +kernel
theorem zd_M_plannedFor_15 : decode zb_M_plannedFor 15 = .ok (.ifCond .eq 15, 3) := by decide +kernel
theorem zd_M_plannedFor_18 : decode zb_M_plannedFor 18 = .ok (.aload_n 0, 1) := by decide +kernel
theorem zd_M_plannedFor_19 : decode zb_M_plannedFor 19 = .ok (.getfield 22, 3) := by decide +kernel
theorem zd_M_plannedFor_22 : decode zb_M_plannedFor 22 = .ok (.iload_n 2, 1) := by decide +kernel
theorem zd_M_plannedFor_23 : decode zb_M_plannedFor 23 = .ok (.iaload, 1) := by decide +kernel
theorem zd_M_plannedFor_24 : decode zb_M_plannedFor 24 = .ok (.iload_n 1, 1) := by decide +kernel
theorem zd_M_plannedFor_25 : decode zb_M_plannedFor 25 = .ok (.if_icmp .ne 5, 3) := by decide +kernel
theorem zd_M_plannedFor_28 : decode zb_M_plannedFor 28 = .ok (.iload_n 2, 1) := by decide +kernel
theorem zd_M_plannedFor_29 : decode zb_M_plannedFor 29 = .ok (.ireturn, 1) := by decide +kernel
theorem zd_M_plannedFor_30 : decode zb_M_plannedFor 30 = .ok (.iinc 2 1, 3) := by decide +kernel
theorem zd_M_plannedFor_33 : decode zb_M_plannedFor 33 = .ok (.goto (-31), 3) := by decide +kernel
theorem zd_M_plannedFor_36 : decode zb_M_plannedFor 36 = .ok (.iconst (-1), 1) := by decide +kernel
theorem zd_M_plannedFor_37 : decode zb_M_plannedFor 37 = .ok (.ireturn, 1) := by decide +kernel
theorem zd_M_block_0 : decode zb_M_block 0 = .ok (.aload_n 0, 1) := by decide +kernel
theorem zd_M_block_1 : decode zb_M_block 1 = .ok (.aload_n 0, 1) := by decide +kernel
theorem zd_M_block_2 : decode zb_M_block 2 = .ok (.iload_n 1, 1) := by decide +kernel
theorem zd_M_block_3 : decode zb_M_block 3 = .ok (.invokevirtual 93, 3) := by decide +kernel
theorem zd_M_block_6 : decode zb_M_block 6 = .ok (.ifCond .ne 7, 3) := by decide +kernel
theorem zd_M_block_9 : decode zb_M_block 9 = .ok (.iconst 1, 1) := by decide +kernel
theorem zd_M_block_10 : decode zb_M_block 10 = .ok (.goto 4, 3) := by decide +kernel
theorem zd_M_block_13 : decode zb_M_block 13 = .ok (.iconst 0, 1) := by decide +kernel
theorem zd_M_block_14 : decode zb_M_block 14 = .ok (.putfield 76, 3) := by decide +kernel
theorem zd_M_block_17 : decode zb_M_block 17 = .ok (.aload_n 0, 1) := by decide +kernel
theorem zd_M_block_18 : decode zb_M_block 18 = .ok (.getfield 76, 3) := by decide +kernel
theorem zd_M_block_21 : decode zb_M_block 21 = .ok (.ifCond .ne 21, 3) := by decide +kernel
theorem zd_M_block_24 : decode zb_M_block 24 = .ok (.aload_n 0, 1) := by decide +kernel
theorem zd_M_block_25 : decode zb_M_block 25 = .ok (.aload_n 0, 1) := by decide +kernel
theorem zd_M_block_26 : decode zb_M_block 26 = .ok (.getfield 47, 3) := by decide +kernel
theorem zd_M_block_29 : decode zb_M_block 29 = .ok (.iload_n 1, 1) := by decide +kernel
theorem zd_M_block_30 : decode zb_M_block 30 = .ok (.baload, 1) := by decide +kernel
theorem zd_M_block_31 : decode zb_M_block 31 = .ok (.ifCond .eq 7, 3) := by decide +kernel
theorem zd_M_block_34 : decode zb_M_block 34 = .ok (.iconst 2, 1) := by decide +kernel
theorem zd_M_block_35 : decode zb_M_block 35 = .ok (.goto 4, 3) := by decide +kernel
theorem zd_M_block_38 : decode zb_M_block 38 = .ok (.iconst 0, 1) := by decide +kernel
theorem zd_M_block_39 : decode zb_M_block 39 = .ok (.putfield 76, 3) := by decide +kernel
theorem zd_M_block_42 : decode zb_M_block 42 = .ok (.aload_n 0, 1) := by decide +kernel
theorem zd_M_block_43 : decode zb_M_block 43 = .ok (.getfield 76, 3) := by decide +kernel
theorem zd_M_block_46 : decode zb_M_block 46 = .ok (.ifCond .le 5, 3) := by decide +kernel
theorem zd_M_block_49 : decode zb_M_block 49 = .ok (.iconst 0, 1) := by decide +kernel
theorem zd_M_block_50 : decode zb_M_block 50 = .ok (.ireturn, 1) := by decide +kernel
theorem zd_M_block_51 : decode zb_M_block 51 = .ok (.aload_n 0, 1) := by decide +kernel
theorem zd_M_block_52 : decode zb_M_block 52 = .ok (.getfield 47, 3) := by decide +kernel
theorem zd_M_block_55 : decode zb_M_block 55 = .ok (.iload_n 1, 1) := by decide +kernel
theorem zd_M_block_56 : decode zb_M_block 56 = .ok (.iconst 1, 1) := by decide +kernel
theorem zd_M_block_57 : decode zb_M_block 57 = .ok (.bastore, 1) := by decide +kernel
theorem zd_M_block_58 : decode zb_M_block 58 = .ok (.aload_n 0, 1) := by decide +kernel
theorem zd_M_block_59 : decode zb_M_block 59 = .ok (.iload_n 1, 1) := by decide +kernel
theorem zd_M_block_60 : decode zb_M_block 60 = .ok (.invokevirtual 139, 3) := by decide +kernel
theorem zd_M_block_63 : decode zb_M_block 63 = .ok (.istore_n 2, 1) := by decide +kernel
theorem zd_M_block_64 : decode zb_M_block 64 = .ok (.iload_n 2, 1) := by decide +kernel
theorem zd_M_block_65 : decode zb_M_block 65 = .ok (.iconst (-1), 1) := by decide +kernel
theorem zd_M_block_66 : decode zb_M_block 66 = .ok (.if_icmp .ne 5, 3) := by decide +kernel
theorem zd_M_block_69 : decode zb_M_block 69 = .ok (.iconst 0, 1) := by decide +kernel
theorem zd_M_block_70 : decode zb_M_block 70 = .ok (.ireturn, 1) := by decide +kernel
theorem zd_M_block_71 : decode zb_M_block 71 = .ok (.iconst 0, 1) := by decide +kernel
theorem zd_M_block_72 : decode zb_M_block 72 = .ok (.istore_n 3, 1) := by decide +kernel
theorem zd_M_block_73 : decode zb_M_block 73 = .ok (.iconst 0, 1) := by decide +kernel
theorem zd_M_block_74 : decode zb_M_block 74 = .ok (.istore 4, 2) := by decide +kernel
theorem zd_M_block_76 : decode zb_M_block 76 = .ok (.iload 4, 2) := by decide +kernel
theorem zd_M_block_78 : decode zb_M_block 78 = .ok (.aload_n 0, 1) := by decide +kernel
theorem zd_M_block_79 : decode zb_M_block 79 = .ok (.getfield 79, 3) := by decide +kernel
theorem zd_M_block_82 : decode zb_M_block 82 = .ok (.if_icmp .ge 47, 3) := by decide +kernel
theorem zd_M_block_85 : decode zb_M_block 85 = .ok (.aload_n 0, 1) := by decide +kernel
theorem zd_M_block_86 : decode zb_M_block 86 = .ok (.iload 4, 2) := by decide +kernel
theorem zd_M_block_88 : decode zb_M_block 88 = .ok (.invokevirtual 107, 3) := by decide +kernel
theorem zd_M_block_91 : decode zb_M_block 91 = .ok (.ifCond .eq 32, 3) := by decide +kernel
theorem zd_M_block_94 : decode zb_M_block 94 = .ok (.iload 4, 2) := by decide +kernel
theorem zd_M_block_96 : decode zb_M_block 96 = .ok (.iload_n 2, 1) := by decide +kernel
theorem zd_M_block_97 : decode zb_M_block 97 = .ok (.if_icmp .eq 26, 3) := by decide +kernel
theorem zd_M_block_100 : decode zb_M_block 100 = .ok (.aload_n 0, 1) := by decide +kernel
theorem zd_M_block_101 : decode zb_M_block 101 = .ok (.getfield 22, 3) := by decide +kernel
theorem zd_M_block_104 : decode zb_M_block 104 = .ok (.iload 4, 2) := by decide +kernel
theorem zd_M_block_106 : decode zb_M_block 106 = .ok (.iaload, 1) := by decide +kernel
theorem zd_M_block_107 : decode zb_M_block 107 = .ok (.iconst (-1), 1) := by decide +kernel
theorem zd_M_block_108 : decode zb_M_block 108 = .ok (.if_icmp .eq 15, 3) := by decide +kernel
theorem zd_M_block_111 : decode zb_M_block 111 = .ok (.iload_n 3, 1) := by decide +kernel
theorem zd_M_block_112 : decode zb_M_block 112 = .ok (.iconst 1, 1) := by decide +kernel
theorem zd_M_block_113 : decode zb_M_block 113 = .ok (.aload_n 0, 1) := by decide +kernel
theorem zd_M_block_114 : decode zb_M_block 114 = .ok (.getfield 22, 3) := by decide +kernel
theorem zd_M_block_117 : decode zb_M_block 117 = .ok (.iload 4, 2) := by decide +kernel
theorem zd_M_block_119 : decode zb_M_block 119 = .ok (.iaload, 1) := by decide +kernel
theorem zd_M_block_120 : decode zb_M_block 120 = .ok (.ishl, 1) := by decide +kernel
theorem zd_M_block_121 : decode zb_M_block 121 = .ok (.ior, 1) := by decide +kernel
theorem zd_M_block_122 : decode zb_M_block 122 = .ok (.istore_n 3, 1) := by decide +kernel
theorem zd_M_block_123 : decode zb_M_block 123 = .ok (.iinc 4 1, 3) := by decide +kernel
theorem zd_M_block_126 : decode zb_M_block 126 = .ok (.goto (-50), 3) := by decide +kernel
theorem zd_M_block_129 : decode zb_M_block 129 = .ok (.aload_n 0, 1) := by decide +kernel
theorem zd_M_block_130 : decode zb_M_block 130 = .ok (.iload_n 2, 1) := by decide +kernel
theorem zd_M_block_131 : decode zb_M_block 131 = .ok (.iload_n 3, 1) := by decide +kernel
theorem zd_M_block_132 : decode zb_M_block 132 = .ok (.invokevirtual 123, 3) := by decide +kernel
theorem zd_M_block_135 : decode zb_M_block 135 = .ok (.istore 4, 2) := by decide +kernel
theorem zd_M_block_137 : decode zb_M_block 137 = .ok (.iconst 0, 1) := by decide +kernel
theorem zd_M_block_138 : decode zb_M_block 138 = .ok (.istore 5, 2) := by decide +kernel
theorem zd_M_block_140 : decode zb_M_block 140 = .ok (.iload 5, 2) := by decide +kernel
theorem zd_M_block_142 : decode zb_M_block 142 = .ok (.aload_n 0, 1) := by decide +kernel
theorem zd_M_block_143 : decode zb_M_block 143 = .ok (.getfield 79, 3) := by decide +kernel
theorem zd_M_block_146 : decode zb_M_block 146 = .ok (.if_icmp .ge 29, 3) := by decide +kernel
theorem zd_M_block_149 : decode zb_M_block 149 = .ok (.aload_n 0, 1) := by decide +kernel
theorem zd_M_block_150 : decode zb_M_block 150 = .ok (.getfield 16, 3) := by decide +kernel
theorem zd_M_block_153 : decode zb_M_block 153 = .ok (.iload 5, 2) := by decide +kernel
theorem zd_M_block_155 : decode zb_M_block 155 = .ok (.iaload, 1) := by decide +kernel
theorem zd_M_block_156 : decode zb_M_block 156 = .ok (.iload_n 2, 1) := by decide +kernel
theorem zd_M_block_157 : decode zb_M_block 157 = .ok (.if_icmp .ne 12, 3) := by decide +kernel
theorem zd_M_block_160 : decode zb_M_block 160 = .ok (.aload_n 0, 1) := by decide +kernel
theorem zd_M_block_161 : decode zb_M_block 161 = .ok (.getfield 22, 3) := by decide +kernel
theorem zd_M_block_164 : decode zb_M_block 164 = .ok (.iload 5, 2) := by decide +kernel
theorem zd_M_block_166 : decode zb_M_block 166 = .ok (.iload 4, 2) := by decide +kernel
theorem zd_M_block_168 : decode zb_M_block 168 = .ok (.iastore, 1) := by decide +kernel
theorem zd_M_block_169 : decode zb_M_block 169 = .ok (.iinc 5 1, 3) := by decide +kernel
theorem zd_M_block_172 : decode zb_M_block 172 = .ok (.goto (-32), 3) := by decide +kernel
theorem zd_M_block_175 : decode zb_M_block 175 = .ok (.iload 4, 2) := by decide +kernel
theorem zd_M_block_177 : decode zb_M_block 177 = .ok (.iconst (-1), 1) := by decide +kernel
theorem zd_M_block_178 : decode zb_M_block 178 = .ok (.if_icmp .ne 7, 3) := by decide +kernel
theorem zd_M_block_181 : decode zb_M_block 181 = .ok (.iconst 0, 1) := by decide +kernel
theorem zd_M_block_182 : decode zb_M_block 182 = .ok (.goto 4, 3) := by decide +kernel
theorem zd_M_block_185 : decode zb_M_block 185 = .ok (.iconst 1, 1) := by decide +kernel
theorem zd_M_block_186 : decode zb_M_block 186 = .ok (.ireturn, 1) := by decide +kernel
theorem zd_M_open_0 : decode zb_M_open 0 = .ok (.aload_n 0, 1) := by decide +kernel
theorem zd_M_open_1 : decode zb_M_open 1 = .ok (.aload_n 0, 1) := by decide +kernel
theorem zd_M_open_2 : decode zb_M_open 2 = .ok (.iload_n 1, 1) := by decide +kernel
theorem zd_M_open_3 : decode zb_M_open 3 = .ok (.invokevirtual 93, 3) := by decide +kernel
theorem zd_M_open_6 : decode zb_M_open 6 = .ok (.ifCond .ne 7, 3) := by decide +kernel
theorem zd_M_open_9 : decode zb_M_open 9 = .ok (.iconst 1, 1) := by decide +kernel
theorem zd_M_open_10 : decode zb_M_open 10 = .ok (.goto 4, 3) := by decide +kernel
theorem zd_M_open_13 : decode zb_M_open 13 = .ok (.iconst 0, 1) := by decide +kernel
theorem zd_M_open_14 : decode zb_M_open 14 = .ok (.putfield 76, 3) := by decide +kernel
theorem zd_M_open_17 : decode zb_M_open 17 = .ok (.aload_n 0, 1) := by decide +kernel
theorem zd_M_open_18 : decode zb_M_open 18 = .ok (.getfield 76, 3) := by decide +kernel
theorem zd_M_open_21 : decode zb_M_open 21 = .ok (.ifCond .ne 21, 3) := by decide +kernel
theorem zd_M_open_24 : decode zb_M_open 24 = .ok (.aload_n 0, 1) := by decide +kernel
theorem zd_M_open_25 : decode zb_M_open 25 = .ok (.aload_n 0, 1) := by decide +kernel
theorem zd_M_open_26 : decode zb_M_open 26 = .ok (.getfield 47, 3) := by decide +kernel
theorem zd_M_open_29 : decode zb_M_open 29 = .ok (.iload_n 1, 1) := by decide +kernel
theorem zd_M_open_30 : decode zb_M_open 30 = .ok (.baload, 1) := by decide +kernel
theorem zd_M_open_31 : decode zb_M_open 31 = .ok (.ifCond .eq 7, 3) := by decide +kernel
theorem zd_M_open_34 : decode zb_M_open 34 = .ok (.iconst 0, 1) := by decide +kernel
theorem zd_M_open_35 : decode zb_M_open 35 = .ok (.goto 4, 3) := by decide +kernel
theorem zd_M_open_38 : decode zb_M_open 38 = .ok (.iconst 2, 1) := by decide +kernel
theorem zd_M_open_39 : decode zb_M_open 39 = .ok (.putfield 76, 3) := by decide +kernel
theorem zd_M_open_42 : decode zb_M_open 42 = .ok (.aload_n 0, 1) := by decide +kernel
theorem zd_M_open_43 : decode zb_M_open 43 = .ok (.getfield 76, 3) := by decide +kernel
theorem zd_M_open_46 : decode zb_M_open 46 = .ok (.ifCond .ne 10, 3) := by decide +kernel
theorem zd_M_open_49 : decode zb_M_open 49 = .ok (.aload_n 0, 1) := by decide +kernel
theorem zd_M_open_50 : decode zb_M_open 50 = .ok (.getfield 47, 3) := by decide +kernel
theorem zd_M_open_53 : decode zb_M_open 53 = .ok (.iload_n 1, 1) := by decide +kernel
theorem zd_M_open_54 : decode zb_M_open 54 = .ok (.iconst 0, 1) := by decide +kernel
theorem zd_M_open_55 : decode zb_M_open 55 = .ok (.bastore, 1) := by decide +kernel
theorem zd_M_open_56 : decode zb_M_open 56 = .ok (.return_, 1) := by decide +kernel
theorem zd_M_share_0 : decode zb_M_share 0 = .ok (.aload_n 0, 1) := by decide +kernel
theorem zd_M_share_1 : decode zb_M_share 1 = .ok (.aload_n 0, 1) := by decide +kernel
theorem zd_M_share_2 : decode zb_M_share 2 = .ok (.iload_n 1, 1) := by decide +kernel
theorem zd_M_share_3 : decode zb_M_share 3 = .ok (.invokevirtual 89, 3) := by decide +kernel
theorem zd_M_share_6 : decode zb_M_share 6 = .ok (.ifCond .ne 7, 3) := by decide +kernel
theorem zd_M_share_9 : decode zb_M_share 9 = .ok (.iconst 1, 1) := by decide +kernel
theorem zd_M_share_10 : decode zb_M_share 10 = .ok (.goto 4, 3) := by decide +kernel
theorem zd_M_share_13 : decode zb_M_share 13 = .ok (.iconst 0, 1) := by decide +kernel
theorem zd_M_share_14 : decode zb_M_share 14 = .ok (.putfield 76, 3) := by decide +kernel
theorem zd_M_share_17 : decode zb_M_share 17 = .ok (.aload_n 0, 1) := by decide +kernel
theorem zd_M_share_18 : decode zb_M_share 18 = .ok (.getfield 76, 3) := by decide +kernel
theorem zd_M_share_21 : decode zb_M_share 21 = .ok (.ifCond .ne 31, 3) := by decide +kernel
theorem zd_M_share_24 : decode zb_M_share 24 = .ok (.aload_n 0, 1) := by decide +kernel
theorem zd_M_share_25 : decode zb_M_share 25 = .ok (.aload_n 0, 1) := by decide +kernel
theorem zd_M_share_26 : decode zb_M_share 26 = .ok (.getfield 25, 3) := by decide +kernel
theorem zd_M_share_29 : decode zb_M_share 29 = .ok (.iload_n 1, 1) := by decide +kernel
theorem zd_M_share_30 : decode zb_M_share 30 = .ok (.baload, 1) := by decide +kernel
theorem zd_M_share_31 : decode zb_M_share 31 = .ok (.ifCond .ne 13, 3) := by decide +kernel
theorem zd_M_share_34 : decode zb_M_share 34 = .ok (.aload_n 0, 1) := by decide +kernel
theorem zd_M_share_35 : decode zb_M_share 35 = .ok (.getfield 22, 3) := by decide +kernel
theorem zd_M_share_38 : decode zb_M_share 38 = .ok (.iload_n 1, 1) := by decide +kernel
theorem zd_M_share_39 : decode zb_M_share 39 = .ok (.iaload, 1) := by decide +kernel
theorem zd_M_share_40 : decode zb_M_share 40 = .ok (.iconst (-1), 1) := by decide +kernel
theorem zd_M_share_41 : decode zb_M_share 41 = .ok (.if_icmp .ne 7, 3) := by decide +kernel
theorem zd_M_share_44 : decode zb_M_share 44 = .ok (.iconst 2, 1) := by decide +kernel
theorem zd_M_share_45 : decode zb_M_share 45 = .ok (.goto 4, 3) := by decide +kernel
theorem zd_M_share_48 : decode zb_M_share 48 = .ok (.iconst 0, 1) := by decide +kernel
theorem zd_M_share_49 : decode zb_M_share 49 = .ok (.putfield 76, 3) := by decide +kernel
theorem zd_M_share_52 : decode zb_M_share 52 = .ok (.aload_n 0, 1) := by decide +kernel
theorem zd_M_share_53 : decode zb_M_share 53 = .ok (.getfield 76, 3) := by decide +kernel
theorem zd_M_share_56 : decode zb_M_share 56 = .ok (.ifCond .le 5, 3) := by decide +kernel
theorem zd_M_share_59 : decode zb_M_share 59 = .ok (.iconst 0, 1) := by decide +kernel
theorem zd_M_share_60 : decode zb_M_share 60 = .ok (.ireturn, 1) := by decide +kernel
theorem zd_M_share_61 : decode zb_M_share 61 = .ok (.iconst 0, 1) := by decide +kernel
theorem zd_M_share_62 : decode zb_M_share 62 = .ok (.istore_n 2, 1) := by decide +kernel
theorem zd_M_share_63 : decode zb_M_share 63 = .ok (.iconst 0, 1) := by decide +kernel
theorem zd_M_share_64 : decode zb_M_share 64 = .ok (.istore_n 3, 1) := by decide +kernel
theorem zd_M_share_65 : decode zb_M_share 65 = .ok (.iload_n 3, 1) := by decide +kernel
theorem zd_M_share_66 : decode zb_M_share 66 = .ok (.aload_n 0, 1) := by decide +kernel
theorem zd_M_share_67 : decode zb_M_share 67 = .ok (.getfield 79, 3) := by decide +kernel
theorem zd_M_share_70 : decode zb_M_share 70 = .ok (.if_icmp .ge 45, 3) := by decide +kernel
theorem zd_M_share_73 : decode zb_M_share 73 = .ok (.iload_n 2, 1) := by decide +kernel
theorem zd_M_share_74 : decode zb_M_share 74 = .ok (.aload_n 0, 1) := by decide +kernel
theorem zd_M_share_75 : decode zb_M_share 75 = .ok (.iload_n 3, 1) := by decide +kernel
theorem zd_M_share_76 : decode zb_M_share 76 = .ok (.invokevirtual 107, 3) := by decide +kernel
theorem zd_M_share_79 : decode zb_M_share 79 = .ok (.ifCond .eq 27, 3) := by decide +kernel
theorem zd_M_share_82 : decode zb_M_share 82 = .ok (.aload_n 0, 1) := by decide +kernel
theorem zd_M_share_83 : decode zb_M_share 83 = .ok (.getfield 22, 3) := by decide +kernel
theorem zd_M_share_86 : decode zb_M_share 86 = .ok (.iload_n 3, 1) := by decide +kernel
theorem zd_M_share_87 : decode zb_M_share 87 = .ok (.iaload, 1) := by decide +kernel
theorem zd_M_share_88 : decode zb_M_share 88 = .ok (.iconst (-1), 1) := by decide +kernel
theorem zd_M_share_89 : decode zb_M_share 89 = .ok (.if_icmp .eq 17, 3) := by decide +kernel
theorem zd_M_share_92 : decode zb_M_share 92 = .ok (.aload_n 0, 1) := by decide +kernel
theorem zd_M_share_93 : decode zb_M_share 93 = .ok (.iload_n 3, 1) := by decide +kernel
theorem zd_M_share_94 : decode zb_M_share 94 = .ok (.aload_n 0, 1) := by decide +kernel
theorem zd_M_share_95 : decode zb_M_share 95 = .ok (.getfield 22, 3) := by decide +kernel
theorem zd_M_share_98 : decode zb_M_share 98 = .ok (.iload_n 3, 1) := by decide +kernel
theorem zd_M_share_99 : decode zb_M_share 99 = .ok (.iaload, 1) := by decide +kernel
theorem zd_M_share_100 : decode zb_M_share 100 = .ok (.invokevirtual 113, 3) := by decide +kernel
theorem zd_M_share_103 : decode zb_M_share 103 = .ok (.goto 4, 3) := by decide +kernel
theorem zd_M_share_106 : decode zb_M_share 106 = .ok (.iconst 0, 1) := by decide +kernel
theorem zd_M_share_107 : decode zb_M_share 107 = .ok (.iadd, 1) := by decide +kernel
theorem zd_M_share_108 : decode zb_M_share 108 = .ok (.istore_n 2, 1) := by decide +kernel
theorem zd_M_share_109 : decode zb_M_share 109 = .ok (.iinc 3 1, 3) := by decide +kernel
theorem zd_M_share_112 : decode zb_M_share 112 = .ok (.goto (-47), 3) := by decide +kernel
theorem zd_M_share_115 : decode zb_M_share 115 = .ok (.aload_n 0, 1) := by decide +kernel
theorem zd_M_share_116 : decode zb_M_share 116 = .ok (.iload_n 2, 1) := by decide +kernel
theorem zd_M_share_117 : decode zb_M_share 117 = .ok (.ifCond .ne 7, 3) := by decide +kernel
theorem zd_M_share_120 : decode zb_M_share 120 = .ok (.iconst 3, 1) := by decide +kernel
theorem zd_M_share_121 : decode zb_M_share 121 = .ok (.goto 4, 3) := by decide +kernel
theorem zd_M_share_124 : decode zb_M_share 124 = .ok (.iconst 0, 1) := by decide +kernel
theorem zd_M_share_125 : decode zb_M_share 125 = .ok (.putfield 76, 3) := by decide +kernel
theorem zd_M_share_128 : decode zb_M_share 128 = .ok (.aload_n 0, 1) := by decide +kernel
theorem zd_M_share_129 : decode zb_M_share 129 = .ok (.getfield 76, 3) := by decide +kernel
theorem zd_M_share_132 : decode zb_M_share 132 = .ok (.ifCond .le 7, 3) := by decide +kernel
theorem zd_M_share_135 : decode zb_M_share 135 = .ok (.iconst 0, 1) := by decide +kernel
theorem zd_M_share_136 : decode zb_M_share 136 = .ok (.goto 24, 3) := by decide +kernel
theorem zd_M_share_139 : decode zb_M_share 139 = .ok (.bipush 100, 2) := by decide +kernel
theorem zd_M_share_141 : decode zb_M_share 141 = .ok (.aload_n 0, 1) := by decide +kernel
theorem zd_M_share_142 : decode zb_M_share 142 = .ok (.aload_n 0, 1) := by decide +kernel
theorem zd_M_share_143 : decode zb_M_share 143 = .ok (.getfield 16, 3) := by decide +kernel
theorem zd_M_share_146 : decode zb_M_share 146 = .ok (.iload_n 1, 1) := by decide +kernel
theorem zd_M_share_147 : decode zb_M_share 147 = .ok (.iaload, 1) := by decide +kernel
theorem zd_M_share_148 : decode zb_M_share 148 = .ok (.aload_n 0, 1) := by decide +kernel
theorem zd_M_share_149 : decode zb_M_share 149 = .ok (.getfield 22, 3) := by decide +kernel
theorem zd_M_share_152 : decode zb_M_share 152 = .ok (.iload_n 1, 1) := by decide +kernel
theorem zd_M_share_153 : decode zb_M_share 153 = .ok (.iaload, 1) := by decide +kernel
theorem zd_M_share_154 : decode zb_M_share 154 = .ok (.invokevirtual 113, 3) := by decide +kernel
theorem zd_M_share_157 : decode zb_M_share 157 = .ok (.imul, 1) := by decide +kernel
theorem zd_M_share_158 : decode zb_M_share 158 = .ok (.iload_n 2, 1) := by decide +kernel
theorem zd_M_share_159 : decode zb_M_share 159 = .ok (.idiv, 1) := by decide +kernel
theorem zd_M_share_160 : decode zb_M_share 160 = .ok (.ireturn, 1) := by decide +kernel
theorem zd_M_isPlanned_0 : decode zb_M_isPlanned 0 = .ok (.aload_n 0, 1) := by decide +kernel
theorem zd_M_isPlanned_1 : decode zb_M_isPlanned 1 = .ok (.getfield 25, 3) := by decide +kernel
theorem zd_M_isPlanned_4 : decode zb_M_isPlanned 4 = .ok (.iload_n 1, 1) := by decide +kernel
theorem zd_M_isPlanned_5 : decode zb_M_isPlanned 5 = .ok (.baload, 1) := by decide +kernel
theorem zd_M_isPlanned_6 : decode zb_M_isPlanned 6 = .ok (.ifCond .ne 17, 3) := by decide +kernel
theorem zd_M_isPlanned_9 : decode zb_M_isPlanned 9 = .ok (.aload_n 0, 1) := by decide +kernel
theorem zd_M_isPlanned_10 : decode zb_M_isPlanned 10 = .ok (.getfield 22, 3) := by decide +kernel
theorem zd_M_isPlanned_13 : decode zb_M_isPlanned 13 = .ok (.iload_n 1, 1) := by decide +kernel
theorem zd_M_isPlanned_14 : decode zb_M_isPlanned 14 = .ok (.iaload, 1) := by decide +kernel
theorem zd_M_isPlanned_15 : decode zb_M_isPlanned 15 = .ok (.iconst (-1), 1) := by decide +kernel
theorem zd_M_isPlanned_16 : decode zb_M_isPlanned 16 = .ok (.if_icmp .eq 7, 3) := by decide +kernel
theorem zd_M_isPlanned_19 : decode zb_M_isPlanned 19 = .ok (.iconst 1, 1) := by decide +kernel
theorem zd_M_isPlanned_20 : decode zb_M_isPlanned 20 = .ok (.goto 4, 3) := by decide +kernel
theorem zd_M_isPlanned_23 : decode zb_M_isPlanned 23 = .ok (.iconst 0, 1) := by decide +kernel
theorem zd_M_isPlanned_24 : decode zb_M_isPlanned 24 = .ok (.ireturn, 1) := by decide +kernel
theorem zd_M_trip_0 : decode zb_M_trip 0 = .ok (.aload_n 0, 1) := by decide +kernel
theorem zd_M_trip_1 : decode zb_M_trip 1 = .ok (.aload_n 0, 1) := by decide +kernel
theorem zd_M_trip_2 : decode zb_M_trip 2 = .ok (.iload_n 1, 1) := by decide +kernel
theorem zd_M_trip_3 : decode zb_M_trip 3 = .ok (.invokevirtual 89, 3) := by decide +kernel
theorem zd_M_trip_6 : decode zb_M_trip 6 = .ok (.ifCond .eq 7, 3) := by decide +kernel
theorem zd_M_trip_9 : decode zb_M_trip 9 = .ok (.iconst 0, 1) := by decide +kernel
theorem zd_M_trip_10 : decode zb_M_trip 10 = .ok (.goto 4, 3) := by decide +kernel
theorem zd_M_trip_13 : decode zb_M_trip 13 = .ok (.iconst 1, 1) := by decide +kernel
theorem zd_M_trip_14 : decode zb_M_trip 14 = .ok (.putfield 76, 3) := by decide +kernel
theorem zd_M_trip_17 : decode zb_M_trip 17 = .ok (.aload_n 0, 1) := by decide +kernel
theorem zd_M_trip_18 : decode zb_M_trip 18 = .ok (.getfield 76, 3) := by decide +kernel
theorem zd_M_trip_21 : decode zb_M_trip 21 = .ok (.ifCond .le 5, 3) := by decide +kernel
theorem zd_M_trip_24 : decode zb_M_trip 24 = .ok (.iconst 0, 1) := by decide +kernel
theorem zd_M_trip_25 : decode zb_M_trip 25 = .ok (.ireturn, 1) := by decide +kernel
theorem zd_M_trip_26 : decode zb_M_trip 26 = .ok (.aload_n 0, 1) := by decide +kernel
theorem zd_M_trip_27 : decode zb_M_trip 27 = .ok (.iload_n 1, 1) := by decide +kernel
theorem zd_M_trip_28 : decode zb_M_trip 28 = .ok (.invokevirtual 142, 3) := by decide +kernel
theorem zd_M_trip_31 : decode zb_M_trip 31 = .ok (.ifCond .ne 5, 3) := by decide +kernel
theorem zd_M_trip_34 : decode zb_M_trip 34 = .ok (.iconst (-1), 1) := by decide +kernel
theorem zd_M_trip_35 : decode zb_M_trip 35 = .ok (.ireturn, 1) := by decide +kernel
theorem zd_M_trip_36 : decode zb_M_trip 36 = .ok (.iconst (-1), 1) := by decide +kernel
theorem zd_M_trip_37 : decode zb_M_trip 37 = .ok (.istore_n 2, 1) := by decide +kernel
theorem zd_M_trip_38 : decode zb_M_trip 38 = .ok (.iconst 0, 1) := by decide +kernel
theorem zd_M_trip_39 : decode zb_M_trip 39 = .ok (.istore_n 3, 1) := by decide +kernel
theorem zd_M_trip_40 : decode zb_M_trip 40 = .ok (.iconst 0, 1) := by decide +kernel
theorem zd_M_trip_41 : decode zb_M_trip 41 = .ok (.istore 4, 2) := by decide +kernel
theorem zd_M_trip_43 : decode zb_M_trip 43 = .ok (.iload 4, 2) := by decide +kernel
theorem zd_M_trip_45 : decode zb_M_trip 45 = .ok (.iconst 4, 1) := by decide +kernel
theorem zd_M_trip_46 : decode zb_M_trip 46 = .ok (.if_icmp .ge 149, 3) := by decide +kernel
theorem zd_M_trip_49 : decode zb_M_trip 49 = .ok (.iconst 1, 1) := by decide +kernel
theorem zd_M_trip_50 : decode zb_M_trip 50 = .ok (.istore 5, 2) := by decide +kernel
theorem zd_M_trip_52 : decode zb_M_trip 52 = .ok (.iconst 0, 1) := by decide +kernel
theorem zd_M_trip_53 : decode zb_M_trip 53 = .ok (.istore 6, 2) := by decide +kernel
theorem zd_M_trip_55 : decode zb_M_trip 55 = .ok (.iload 6, 2) := by decide +kernel
theorem zd_M_trip_57 : decode zb_M_trip 57 = .ok (.aload_n 0, 1) := by decide +kernel
theorem zd_M_trip_58 : decode zb_M_trip 58 = .ok (.getfield 79, 3) := by decide +kernel
theorem zd_M_trip_61 : decode zb_M_trip 61 = .ok (.if_icmp .ge 128, 3) := by decide +kernel
theorem zd_M_trip_64 : decode zb_M_trip 64 = .ok (.aload_n 0, 1) := by decide +kernel
theorem zd_M_trip_65 : decode zb_M_trip 65 = .ok (.iload 6, 2) := by decide +kernel
theorem zd_M_trip_67 : decode zb_M_trip 67 = .ok (.invokevirtual 142, 3) := by decide +kernel
theorem zd_M_trip_70 : decode zb_M_trip 70 = .ok (.ifCond .eq 113, 3) := by decide +kernel
theorem zd_M_trip_73 : decode zb_M_trip 73 = .ok (.aload_n 0, 1) := by decide +kernel
theorem zd_M_trip_74 : decode zb_M_trip 74 = .ok (.getfield 38, 3) := by decide +kernel
theorem zd_M_trip_77 : decode zb_M_trip 77 = .ok (.aload_n 0, 1) := by decide +kernel
theorem zd_M_trip_78 : decode zb_M_trip 78 = .ok (.iload 6, 2) := by decide +kernel
theorem zd_M_trip_80 : decode zb_M_trip 80 = .ok (.invokevirtual 142, 3) := by decide +kernel
theorem zd_M_trip_83 : decode zb_M_trip 83 = .ok (.ifCond .eq 13, 3) := by decide +kernel
theorem zd_M_trip_86 : decode zb_M_trip 86 = .ok (.aload_n 0, 1) := by decide +kernel
theorem zd_M_trip_87 : decode zb_M_trip 87 = .ok (.getfield 22, 3) := by decide +kernel
theorem zd_M_trip_90 : decode zb_M_trip 90 = .ok (.iload 6, 2) := by decide +kernel
theorem zd_M_trip_92 : decode zb_M_trip 92 = .ok (.iaload, 1) := by decide +kernel
theorem zd_M_trip_93 : decode zb_M_trip 93 = .ok (.goto 4, 3) := by decide +kernel
theorem zd_M_trip_96 : decode zb_M_trip 96 = .ok (.iconst 0, 1) := by decide +kernel
theorem zd_M_trip_97 : decode zb_M_trip 97 = .ok (.iaload, 1) := by decide +kernel
theorem zd_M_trip_98 : decode zb_M_trip 98 = .ok (.iload 4, 2) := by decide +kernel
theorem zd_M_trip_100 : decode zb_M_trip 100 = .ok (.if_icmp .eq 6, 3) := by decide +kernel
theorem zd_M_trip_103 : decode zb_M_trip 103 = .ok (.goto 80, 3) := by decide +kernel
theorem zd_M_trip_106 : decode zb_M_trip 106 = .ok (.iload 5, 2) := by decide +kernel
theorem zd_M_trip_108 : decode zb_M_trip 108 = .ok (.ifCond .ne 23, 3) := by decide +kernel
theorem zd_M_trip_111 : decode zb_M_trip 111 = .ok (.iload_n 3, 1) := by decide +kernel
theorem zd_M_trip_112 : decode zb_M_trip 112 = .ok (.aload_n 0, 1) := by decide +kernel
theorem zd_M_trip_113 : decode zb_M_trip 113 = .ok (.getfield 13, 3) := by decide +kernel
theorem zd_M_trip_116 : decode zb_M_trip 116 = .ok (.iload 6, 2) := by decide +kernel
theorem zd_M_trip_118 : decode zb_M_trip 118 = .ok (.iaload, 1) := by decide +kernel
theorem zd_M_trip_119 : decode zb_M_trip 119 = .ok (.iadd, 1) := by decide +kernel
theorem zd_M_trip_120 : decode zb_M_trip 120 = .ok (.aload_n 0, 1) := by decide +kernel
theorem zd_M_trip_121 : decode zb_M_trip 121 = .ok (.getfield 57, 3) := by decide +kernel
theorem zd_M_trip_124 : decode zb_M_trip 124 = .ok (.if_icmp .gt 7, 3) := by decide +kernel
theorem zd_M_trip_127 : decode zb_M_trip 127 = .ok (.iconst 1, 1) := by decide +kernel
theorem zd_M_trip_128 : decode zb_M_trip 128 = .ok (.goto 4, 3) := by decide +kernel
theorem zd_M_trip_131 : decode zb_M_trip 131 = .ok (.iconst 0, 1) := by decide +kernel
theorem zd_M_trip_132 : decode zb_M_trip 132 = .ok (.istore 7, 2) := by decide +kernel
theorem zd_M_trip_134 : decode zb_M_trip 134 = .ok (.iload_n 2, 1) := by decide +kernel
theorem zd_M_trip_135 : decode zb_M_trip 135 = .ok (.iload 7, 2) := by decide +kernel
theorem zd_M_trip_137 : decode zb_M_trip 137 = .ok (.ifCond .eq 7, 3) := by decide +kernel
theorem zd_M_trip_140 : decode zb_M_trip 140 = .ok (.iconst 0, 1) := by decide +kernel
theorem zd_M_trip_141 : decode zb_M_trip 141 = .ok (.goto 4, 3) := by decide +kernel
theorem zd_M_trip_144 : decode zb_M_trip 144 = .ok (.iconst 1, 1) := by decide +kernel
theorem zd_M_trip_145 : decode zb_M_trip 145 = .ok (.iadd, 1) := by decide +kernel
theorem zd_M_trip_146 : decode zb_M_trip 146 = .ok (.istore_n 2, 1) := by decide +kernel
theorem zd_M_trip_147 : decode zb_M_trip 147 = .ok (.iload 7, 2) := by decide +kernel
theorem zd_M_trip_149 : decode zb_M_trip 149 = .ok (.ifCond .eq 15, 3) := by decide +kernel
theorem zd_M_trip_152 : decode zb_M_trip 152 = .ok (.iload_n 3, 1) := by decide +kernel
theorem zd_M_trip_153 : decode zb_M_trip 153 = .ok (.aload_n 0, 1) := by decide +kernel
theorem zd_M_trip_154 : decode zb_M_trip 154 = .ok (.getfield 13, 3) := by decide +kernel
theorem zd_M_trip_157 : decode zb_M_trip 157 = .ok (.iload 6, 2) := by decide +kernel
theorem zd_M_trip_159 : decode zb_M_trip 159 = .ok (.iaload, 1) := by decide +kernel
theorem zd_M_trip_160 : decode zb_M_trip 160 = .ok (.iadd, 1) := by decide +kernel
theorem zd_M_trip_161 : decode zb_M_trip 161 = .ok (.goto 10, 3) := by decide +kernel
theorem zd_M_trip_164 : decode zb_M_trip 164 = .ok (.aload_n 0, 1) := by decide +kernel
theorem zd_M_trip_165 : decode zb_M_trip 165 = .ok (.getfield 13, 3) := by decide +kernel
theorem zd_M_trip_168 : decode zb_M_trip 168 = .ok (.iload 6, 2) := by decide +kernel
theorem zd_M_trip_170 : decode zb_M_trip 170 = .ok (.iaload, 1) := by decide +kernel
theorem zd_M_trip_171 : decode zb_M_trip 171 = .ok (.istore_n 3, 1) := by decide +kernel
theorem zd_M_trip_172 : decode zb_M_trip 172 = .ok (.iconst 0, 1) := by decide +kernel
theorem zd_M_trip_173 : decode zb_M_trip 173 = .ok (.istore 5, 2) := by decide +kernel
theorem zd_M_trip_175 : decode zb_M_trip 175 = .ok (.iload 6, 2) := by decide +kernel
theorem zd_M_trip_177 : decode zb_M_trip 177 = .ok (.iload_n 1, 1) := by decide +kernel
theorem zd_M_trip_178 : decode zb_M_trip 178 = .ok (.if_icmp .ne 5, 3) := by decide +kernel
theorem zd_M_trip_181 : decode zb_M_trip 181 = .ok (.iload_n 2, 1) := by decide +kernel
theorem zd_M_trip_182 : decode zb_M_trip 182 = .ok (.ireturn, 1) := by decide +kernel
theorem zd_M_trip_183 : decode zb_M_trip 183 = .ok (.iinc 6 1, 3) := by decide +kernel
theorem zd_M_trip_186 : decode zb_M_trip 186 = .ok (.goto (-131), 3) := by decide +kernel
theorem zd_M_trip_189 : decode zb_M_trip 189 = .ok (.iinc 4 1, 3) := by decide +kernel
theorem zd_M_trip_192 : decode zb_M_trip 192 = .ok (.goto (-149), 3) := by decide +kernel
theorem zd_M_trip_195 : decode zb_M_trip 195 = .ok (.iload_n 2, 1) := by decide +kernel
theorem zd_M_trip_196 : decode zb_M_trip 196 = .ok (.ireturn, 1) := by decide +kernel
theorem zd_M_told_0 : decode zb_M_told 0 = .ok (.aload_n 0, 1) := by decide +kernel
theorem zd_M_told_1 : decode zb_M_told 1 = .ok (.aload_n 0, 1) := by decide +kernel
theorem zd_M_told_2 : decode zb_M_told 2 = .ok (.iload_n 1, 1) := by decide +kernel
theorem zd_M_told_3 : decode zb_M_told 3 = .ok (.invokevirtual 93, 3) := by decide +kernel
theorem zd_M_told_6 : decode zb_M_told 6 = .ok (.ifCond .ne 7, 3) := by decide +kernel
theorem zd_M_told_9 : decode zb_M_told 9 = .ok (.iconst 1, 1) := by decide +kernel
theorem zd_M_told_10 : decode zb_M_told 10 = .ok (.goto 17, 3) := by decide +kernel
theorem zd_M_told_13 : decode zb_M_told 13 = .ok (.iload_n 2, 1) := by decide +kernel
theorem zd_M_told_14 : decode zb_M_told 14 = .ok (.iconst 0, 1) := by decide +kernel
theorem zd_M_told_15 : decode zb_M_told 15 = .ok (.iconst 3, 1) := by decide +kernel
theorem zd_M_told_16 : decode zb_M_told 16 = .ok (.invokestatic 82, 3) := by decide +kernel
theorem zd_M_told_19 : decode zb_M_told 19 = .ok (.ifCond .ne 7, 3) := by decide +kernel
theorem zd_M_told_22 : decode zb_M_told 22 = .ok (.iconst 2, 1) := by decide +kernel
theorem zd_M_told_23 : decode zb_M_told 23 = .ok (.goto 4, 3) := by decide +kernel
theorem zd_M_told_26 : decode zb_M_told 26 = .ok (.iconst 0, 1) := by decide +kernel
theorem zd_M_told_27 : decode zb_M_told 27 = .ok (.putfield 76, 3) := by decide +kernel
theorem zd_M_told_30 : decode zb_M_told 30 = .ok (.aload_n 0, 1) := by decide +kernel
theorem zd_M_told_31 : decode zb_M_told 31 = .ok (.getfield 76, 3) := by decide +kernel
theorem zd_M_told_34 : decode zb_M_told 34 = .ok (.ifCond .le 5, 3) := by decide +kernel
theorem zd_M_told_37 : decode zb_M_told 37 = .ok (.iconst 0, 1) := by decide +kernel
theorem zd_M_told_38 : decode zb_M_told 38 = .ok (.ireturn, 1) := by decide +kernel
theorem zd_M_told_39 : decode zb_M_told 39 = .ok (.iload_n 2, 1) := by decide +kernel
theorem zd_M_told_40 : decode zb_M_told 40 = .ok (.ifCond .ne 10, 3) := by decide +kernel
theorem zd_M_told_43 : decode zb_M_told 43 = .ok (.aload_n 0, 1) := by decide +kernel
theorem zd_M_told_44 : decode zb_M_told 44 = .ok (.getfield 41, 3) := by decide +kernel
theorem zd_M_told_47 : decode zb_M_told 47 = .ok (.iload_n 1, 1) := by decide +kernel
theorem zd_M_told_48 : decode zb_M_told 48 = .ok (.iaload, 1) := by decide +kernel
theorem zd_M_told_49 : decode zb_M_told 49 = .ok (.ireturn, 1) := by decide +kernel
theorem zd_M_told_50 : decode zb_M_told 50 = .ok (.iload_n 2, 1) := by decide +kernel
theorem zd_M_told_51 : decode zb_M_told 51 = .ok (.iconst 1, 1) := by decide +kernel
theorem zd_M_told_52 : decode zb_M_told 52 = .ok (.if_icmp .ne 10, 3) := by decide +kernel
theorem zd_M_told_55 : decode zb_M_told 55 = .ok (.aload_n 0, 1) := by decide +kernel
theorem zd_M_told_56 : decode zb_M_told 56 = .ok (.getfield 38, 3) := by decide +kernel
theorem zd_M_told_59 : decode zb_M_told 59 = .ok (.iload_n 1, 1) := by decide +kernel
theorem zd_M_told_60 : decode zb_M_told 60 = .ok (.iaload, 1) := by decide +kernel
theorem zd_M_told_61 : decode zb_M_told 61 = .ok (.ireturn, 1) := by decide +kernel
theorem zd_M_told_62 : decode zb_M_told 62 = .ok (.iload_n 2, 1) := by decide +kernel
theorem zd_M_told_63 : decode zb_M_told 63 = .ok (.iconst 2, 1) := by decide +kernel
theorem zd_M_told_64 : decode zb_M_told 64 = .ok (.if_icmp .ne 20, 3) := by decide +kernel
theorem zd_M_told_67 : decode zb_M_told 67 = .ok (.aload_n 0, 1) := by decide +kernel
theorem zd_M_told_68 : decode zb_M_told 68 = .ok (.getfield 47, 3) := by decide +kernel
theorem zd_M_told_71 : decode zb_M_told 71 = .ok (.iload_n 1, 1) := by decide +kernel
theorem zd_M_told_72 : decode zb_M_told 72 = .ok (.baload, 1) := by decide +kernel
theorem zd_M_told_73 : decode zb_M_told 73 = .ok (.ifCond .eq 7, 3) := by decide +kernel
theorem zd_M_told_76 : decode zb_M_told 76 = .ok (.iconst 1, 1) := by decide +kernel
theorem zd_M_told_77 : decode zb_M_told 77 = .ok (.goto 12, 3) := by decide +kernel
theorem zd_M_told_80 : decode zb_M_told 80 = .ok (.iconst 0, 1) := by decide +kernel
theorem zd_M_told_81 : decode zb_M_told 81 = .ok (.goto 8, 3) := by decide +kernel
theorem zd_M_told_84 : decode zb_M_told 84 = .ok (.aload_n 0, 1) := by decide +kernel
theorem zd_M_told_85 : decode zb_M_told 85 = .ok (.iload_n 1, 1) := by decide +kernel
theorem zd_M_told_86 : decode zb_M_told 86 = .ok (.invokevirtual 139, 3) := by decide +kernel
theorem zd_M_told_89 : decode zb_M_told 89 = .ok (.ireturn, 1) := by decide +kernel
theorem zd_M_count_0 : decode zb_M_count 0 = .ok (.aload_n 0, 1) := by decide +kernel
theorem zd_M_count_1 : decode zb_M_count 1 = .ok (.iconst 0, 1) := by decide +kernel
theorem zd_M_count_2 : decode zb_M_count 2 = .ok (.putfield 76, 3) := by decide +kernel
theorem zd_M_count_5 : decode zb_M_count 5 = .ok (.iload_n 1, 1) := by decide +kernel
theorem zd_M_count_6 : decode zb_M_count 6 = .ok (.ifCond .ne 8, 3) := by decide +kernel
theorem zd_M_count_9 : decode zb_M_count 9 = .ok (.aload_n 0, 1) := by decide +kernel
theorem zd_M_count_10 : decode zb_M_count 10 = .ok (.getfield 79, 3) := by decide +kernel
theorem zd_M_count_13 : decode zb_M_count 13 = .ok (.ireturn, 1) := by decide +kernel
theorem zd_M_count_14 : decode zb_M_count 14 = .ok (.iload_n 1, 1) := by decide +kernel
theorem zd_M_count_15 : decode zb_M_count 15 = .ok (.iconst 1, 1) := by decide +kernel
theorem zd_M_count_16 : decode zb_M_count 16 = .ok (.if_icmp .ne 8, 3) := by decide +kernel
theorem zd_M_count_19 : decode zb_M_count 19 = .ok (.aload_n 0, 1) := by decide +kernel
theorem zd_M_count_20 : decode zb_M_count 20 = .ok (.getfield 86, 3) := by decide +kernel
theorem zd_M_count_23 : decode zb_M_count 23 = .ok (.ireturn, 1) := by decide +kernel
theorem zd_M_count_24 : decode zb_M_count 24 = .ok (.iconst 0, 1) := by decide +kernel
theorem zd_M_count_25 : decode zb_M_count 25 = .ok (.istore_n 2, 1) := by decide +kernel
theorem zd_M_count_26 : decode zb_M_count 26 = .ok (.iconst 0, 1) := by decide +kernel
theorem zd_M_count_27 : decode zb_M_count 27 = .ok (.istore_n 3, 1) := by decide +kernel
theorem zd_M_count_28 : decode zb_M_count 28 = .ok (.iload_n 3, 1) := by decide +kernel
theorem zd_M_count_29 : decode zb_M_count 29 = .ok (.aload_n 0, 1) := by decide +kernel
theorem zd_M_count_30 : decode zb_M_count 30 = .ok (.getfield 79, 3) := by decide +kernel
theorem zd_M_count_33 : decode zb_M_count 33 = .ok (.if_icmp .ge 47, 3) := by decide +kernel
theorem zd_M_count_36 : decode zb_M_count 36 = .ok (.iload_n 2, 1) := by decide +kernel
theorem zd_M_count_37 : decode zb_M_count 37 = .ok (.iload_n 1, 1) := by decide +kernel
theorem zd_M_count_38 : decode zb_M_count 38 = .ok (.iconst 2, 1) := by decide +kernel
theorem zd_M_count_39 : decode zb_M_count 39 = .ok (.if_icmp .ne 19, 3) := by decide +kernel
theorem zd_M_count_42 : decode zb_M_count 42 = .ok (.aload_n 0, 1) := by decide +kernel
theorem zd_M_count_43 : decode zb_M_count 43 = .ok (.iload_n 3, 1) := by decide +kernel
theorem zd_M_count_44 : decode zb_M_count 44 = .ok (.invokevirtual 107, 3) := by decide +kernel
theorem zd_M_count_47 : decode zb_M_count 47 = .ok (.ifCond .eq 7, 3) := by decide +kernel
theorem zd_M_count_50 : decode zb_M_count 50 = .ok (.iconst 1, 1) := by decide +kernel
theorem zd_M_count_51 : decode zb_M_count 51 = .ok (.goto 21, 3) := by decide +kernel
theorem zd_M_count_54 : decode zb_M_count 54 = .ok (.iconst 0, 1) := by decide +kernel
theorem zd_M_count_55 : decode zb_M_count 55 = .ok (.goto 17, 3) := by decide +kernel
theorem zd_M_count_58 : decode zb_M_count 58 = .ok (.aload_n 0, 1) := by decide +kernel
theorem zd_M_count_59 : decode zb_M_count 59 = .ok (.getfield 25, 3) := by decide +kernel
theorem zd_M_count_62 : decode zb_M_count 62 = .ok (.iload_n 3, 1) := by decide +kernel
theorem zd_M_count_63 : decode zb_M_count 63 = .ok (.baload, 1) := by decide +kernel
theorem zd_M_count_64 : decode zb_M_count 64 = .ok (.ifCond .eq 7, 3) := by decide +kernel
theorem zd_M_count_67 : decode zb_M_count 67 = .ok (.iconst 1, 1) := by decide +kernel
theorem zd_M_count_68 : decode zb_M_count 68 = .ok (.goto 4, 3) := by decide +kernel
theorem zd_M_count_71 : decode zb_M_count 71 = .ok (.iconst 0, 1) := by decide +kernel
theorem zd_M_count_72 : decode zb_M_count 72 = .ok (.iadd, 1) := by decide +kernel
theorem zd_M_count_73 : decode zb_M_count 73 = .ok (.istore_n 2, 1) := by decide +kernel
theorem zd_M_count_74 : decode zb_M_count 74 = .ok (.iinc 3 1, 3) := by decide +kernel
theorem zd_M_count_77 : decode zb_M_count 77 = .ok (.goto (-49), 3) := by decide +kernel
theorem zd_M_count_80 : decode zb_M_count 80 = .ok (.iload_n 1, 1) := by decide +kernel
theorem zd_M_count_81 : decode zb_M_count 81 = .ok (.iconst 2, 1) := by decide +kernel
theorem zd_M_count_82 : decode zb_M_count 82 = .ok (.if_icmp .eq 8, 3) := by decide +kernel
theorem zd_M_count_85 : decode zb_M_count 85 = .ok (.iload_n 1, 1) := by decide +kernel
theorem zd_M_count_86 : decode zb_M_count 86 = .ok (.iconst 3, 1) := by decide +kernel
theorem zd_M_count_87 : decode zb_M_count 87 = .ok (.if_icmp .ne 7, 3) := by decide +kernel
theorem zd_M_count_90 : decode zb_M_count 90 = .ok (.iload_n 2, 1) := by decide +kernel
theorem zd_M_count_91 : decode zb_M_count 91 = .ok (.goto 4, 3) := by decide +kernel
theorem zd_M_count_94 : decode zb_M_count 94 = .ok (.iconst (-1), 1) := by decide +kernel
theorem zd_M_count_95 : decode zb_M_count 95 = .ok (.ireturn, 1) := by decide +kernel
theorem zd_B_init_0 : decode zb_B_init 0 = .ok (.aload_n 0, 1) := by decide +kernel
theorem zd_B_init_1 : decode zb_B_init 1 = .ok (.invokespecial 5, 3) := by decide +kernel
theorem zd_B_init_4 : decode zb_B_init 4 = .ok (.aload_n 0, 1) := by decide +kernel
theorem zd_B_init_5 : decode zb_B_init 5 = .ok (.bipush 9, 2) := by decide +kernel
theorem zd_B_init_7 : decode zb_B_init 7 = .ok (.bipush 21, 2) := by decide +kernel
theorem zd_B_init_9 : decode zb_B_init 9 = .ok (.multianewarray 11 2, 4) := by decide +kernel
theorem zd_B_init_13 : decode zb_B_init 13 = .ok (.putfield 13, 3) := by decide +kernel
theorem zd_B_init_16 : decode zb_B_init 16 = .ok (.aload_n 0, 1) := by decide +kernel
theorem zd_B_init_17 : decode zb_B_init 17 = .ok (.bipush 9, 2) := by decide +kernel
theorem zd_B_init_19 : decode zb_B_init 19 = .ok (.newarray .long, 2) := by decide +kernel
theorem zd_B_init_21 : decode zb_B_init 21 = .ok (.putfield 16, 3) := by decide +kernel
theorem zd_B_init_24 : decode zb_B_init 24 = .ok (.aload_n 0, 1) := by decide +kernel
theorem zd_B_init_25 : decode zb_B_init 25 = .ok (.bipush 21, 2) := by decide +kernel
theorem zd_B_init_27 : decode zb_B_init 27 = .ok (.newarray .long, 2) := by decide +kernel
theorem zd_B_init_29 : decode zb_B_init 29 = .ok (.putfield 20, 3) := by decide +kernel
theorem zd_B_init_32 : decode zb_B_init 32 = .ok (.aload_n 0, 1) := by decide +kernel
theorem zd_B_init_33 : decode zb_B_init 33 = .ok (.bipush 21, 2) := by decide +kernel
theorem zd_B_init_35 : decode zb_B_init 35 = .ok (.newarray .int, 2) := by decide +kernel
theorem zd_B_init_37 : decode zb_B_init 37 = .ok (.putfield 23, 3) := by decide +kernel
theorem zd_B_init_40 : decode zb_B_init 40 = .ok (.aload_n 0, 1) := by decide +kernel
theorem zd_B_init_41 : decode zb_B_init 41 = .ok (.bipush 21, 2) := by decide +kernel
theorem zd_B_init_43 : decode zb_B_init 43 = .ok (.newarray .int, 2) := by decide +kernel
theorem zd_B_init_45 : decode zb_B_init 45 = .ok (.putfield 27, 3) := by decide +kernel
theorem zd_B_init_48 : decode zb_B_init 48 = .ok (.aload_n 0, 1) := by decide +kernel
theorem zd_B_init_49 : decode zb_B_init 49 = .ok (.bipush 21, 2) := by decide +kernel
theorem zd_B_init_51 : decode zb_B_init 51 = .ok (.newarray .long, 2) := by decide +kernel
theorem zd_B_init_53 : decode zb_B_init 53 = .ok (.putfield 30, 3) := by decide +kernel
theorem zd_B_init_56 : decode zb_B_init 56 = .ok (.aload_n 0, 1) := by decide +kernel
theorem zd_B_init_57 : decode zb_B_init 57 = .ok (.bipush 21, 2) := by decide +kernel
theorem zd_B_init_59 : decode zb_B_init 59 = .ok (.newarray .boolean, 2) := by decide +kernel
theorem zd_B_init_61 : decode zb_B_init 61 = .ok (.putfield 33, 3) := by decide +kernel
theorem zd_B_init_64 : decode zb_B_init 64 = .ok (.return_, 1) := by decide +kernel
theorem zd_B_clear_0 : decode zb_B_clear 0 = .ok (.aload_n 0, 1) := by decide +kernel
theorem zd_B_clear_1 : decode zb_B_clear 1 = .ok (.iconst 0, 1) := by decide +kernel
theorem zd_B_clear_2 : decode zb_B_clear 2 = .ok (.putfield 37, 3) := by decide +kernel
theorem zd_B_clear_5 : decode zb_B_clear 5 = .ok (.aload_n 0, 1) := by decide +kernel
theorem zd_B_clear_6 : decode zb_B_clear 6 = .ok (.ldc2_w 41, 3) := by decide +kernel
theorem zd_B_clear_9 : decode zb_B_clear 9 = .ok (.putfield 43, 3) := by decide +kernel
theorem zd_B_clear_12 : decode zb_B_clear 12 = .ok (.iconst 0, 1) := by decide +kernel
theorem zd_B_clear_13 : decode zb_B_clear 13 = .ok (.istore_n 1, 1) := by decide +kernel
theorem zd_B_clear_14 : decode zb_B_clear 14 = .ok (.iload_n 1, 1) := by decide +kernel
theorem zd_B_clear_15 : decode zb_B_clear 15 = .ok (.bipush 8, 2) := by decide +kernel
theorem zd_B_clear_17 : decode zb_B_clear 17 = .ok (.if_icmp .gt 16, 3) := by decide +kernel
theorem zd_B_clear_20 : decode zb_B_clear 20 = .ok (.aload_n 0, 1) := by decide +kernel
theorem zd_B_clear_21 : decode zb_B_clear 21 = .ok (.getfield 16, 3) := by decide +kernel
theorem zd_B_clear_24 : decode zb_B_clear 24 = .ok (.iload_n 1, 1) := by decide +kernel
theorem zd_B_clear_25 : decode zb_B_clear 25 = .ok (.lconst 0, 1) := by decide +kernel
theorem zd_B_clear_26 : decode zb_B_clear 26 = .ok (.lastore, 1) := by decide +kernel
theorem zd_B_clear_27 : decode zb_B_clear 27 = .ok (.iinc 1 1, 3) := by decide +kernel
theorem zd_B_clear_30 : decode zb_B_clear 30 = .ok (.goto (-16), 3) := by decide +kernel
theorem zd_B_clear_33 : decode zb_B_clear 33 = .ok (.iconst 0, 1) := by decide +kernel
theorem zd_B_clear_34 : decode zb_B_clear 34 = .ok (.istore_n 1, 1) := by decide +kernel
theorem zd_B_clear_35 : decode zb_B_clear 35 = .ok (.iload_n 1, 1) := by decide +kernel
theorem zd_B_clear_36 : decode zb_B_clear 36 = .ok (.bipush 20, 2) := by decide +kernel
theorem zd_B_clear_38 : decode zb_B_clear 38 = .ok (.if_icmp .gt 23, 3) := by decide +kernel
theorem zd_B_clear_41 : decode zb_B_clear 41 = .ok (.aload_n 0, 1) := by decide +kernel
theorem zd_B_clear_42 : decode zb_B_clear 42 = .ok (.getfield 20, 3) := by decide +kernel
theorem zd_B_clear_45 : decode zb_B_clear 45 = .ok (.iload_n 1, 1) := by decide +kernel
theorem zd_B_clear_46 : decode zb_B_clear 46 = .ok (.lconst 0, 1) := by decide +kernel
theorem zd_B_clear_47 : decode zb_B_clear 47 = .ok (.lastore, 1) := by decide +kernel
theorem zd_B_clear_48 : decode zb_B_clear 48 = .ok (.aload_n 0, 1) := by decide +kernel
theorem zd_B_clear_49 : decode zb_B_clear 49 = .ok (.getfield 23, 3) := by decide +kernel
theorem zd_B_clear_52 : decode zb_B_clear 52 = .ok (.iload_n 1, 1) := by decide +kernel
theorem zd_B_clear_53 : decode zb_B_clear 53 = .ok (.iconst 0, 1) := by decide +kernel
theorem zd_B_clear_54 : decode zb_B_clear 54 = .ok (.iastore, 1) := by decide +kernel
theorem zd_B_clear_55 : decode zb_B_clear 55 = .ok (.iinc 1 1, 3) := by decide +kernel
theorem zd_B_clear_58 : decode zb_B_clear 58 = .ok (.goto (-23), 3) := by decide +kernel
theorem zd_B_clear_61 : decode zb_B_clear 61 = .ok (.return_, 1) := by decide +kernel
theorem zd_B_addGroup_0 : decode zb_B_addGroup 0 = .ok (.aload_n 0, 1) := by decide +kernel
theorem zd_B_addGroup_1 : decode zb_B_addGroup 1 = .ok (.getfield 37, 3) := by decide +kernel
theorem zd_B_addGroup_4 : decode zb_B_addGroup 4 = .ok (.bipush 8, 2) := by decide +kernel
theorem zd_B_addGroup_6 : decode zb_B_addGroup 6 = .ok (.if_icmp .lt 4, 3) := by decide +kernel
theorem zd_B_addGroup_9 : decode zb_B_addGroup 9 = .ok (.return_, 1) := by decide +kernel
theorem zd_B_addGroup_10 : decode zb_B_addGroup 10 = .ok (.aload_n 0, 1) := by decide +kernel
theorem zd_B_addGroup_11 : decode zb_B_addGroup 11 = .ok (.dup, 1) := by decide +kernel
theorem zd_B_addGroup_12 : decode zb_B_addGroup 12 = .ok (.getfield 37, 3) := by decide +kernel
theorem zd_B_addGroup_15 : decode zb_B_addGroup 15 = .ok (.iconst 1, 1) := by decide +kernel
theorem zd_B_addGroup_16 : decode zb_B_addGroup 16 = .ok (.iadd, 1) := by decide +kernel
theorem zd_B_addGroup_17 : decode zb_B_addGroup 17 = .ok (.putfield 37, 3) := by decide +kernel
theorem zd_B_addGroup_20 : decode zb_B_addGroup 20 = .ok (.aload_n 0, 1) := by decide +kernel
theorem zd_B_addGroup_21 : decode zb_B_addGroup 21 = .ok (.dup, 1) := by decide +kernel
theorem zd_B_addGroup_22 : decode zb_B_addGroup 22 = .ok (.getfield 43, 3) := by decide +kernel
theorem zd_B_addGroup_25 : decode zb_B_addGroup 25 = .ok (.ldc2_w 47, 3) := by decide +kernel
theorem zd_B_addGroup_28 : decode zb_B_addGroup 28 = .ok (.ldiv, 1) := by decide +kernel
theorem zd_B_addGroup_29 : decode zb_B_addGroup 29 = .ok (.putfield 43, 3) := by decide +kernel
theorem zd_B_addGroup_32 : decode zb_B_addGroup 32 = .ok (.iconst 1, 1) := by decide +kernel
theorem zd_B_addGroup_33 : decode zb_B_addGroup 33 = .ok (.istore_n 1, 1) := by decide +kernel
theorem zd_B_addGroup_34 : decode zb_B_addGroup 34 = .ok (.iload_n 1, 1) := by decide +kernel
theorem zd_B_addGroup_35 : decode zb_B_addGroup 35 = .ok (.bipush 20, 2) := by decide +kernel
theorem zd_B_addGroup_37 : decode zb_B_addGroup 37 = .ok (.if_icmp .gt 44, 3) := by decide +kernel
theorem zd_B_addGroup_40 : decode zb_B_addGroup 40 = .ok (.aload_n 0, 1) := by decide +kernel
theorem zd_B_addGroup_41 : decode zb_B_addGroup 41 = .ok (.getfield 13, 3) := by decide +kernel
theorem zd_B_addGroup_44 : decode zb_B_addGroup 44 = .ok (.aload_n 0, 1) := by decide +kernel
theorem zd_B_addGroup_45 : decode zb_B_addGroup 45 = .ok (.getfield 37, 3) := by decide +kernel
theorem zd_B_addGroup_48 : decode zb_B_addGroup 48 = .ok (.aaload, 1) := by decide +kernel
theorem zd_B_addGroup_49 : decode zb_B_addGroup 49 = .ok (.iload_n 1, 1) := by decide +kernel
theorem zd_B_addGroup_50 : decode zb_B_addGroup 50 = .ok (.iload_n 1, 1) := by decide +kernel
theorem zd_B_addGroup_51 : decode zb_B_addGroup 51 = .ok (.bipush 12, 2) := by decide +kernel
theorem zd_B_addGroup_53 : decode zb_B_addGroup 53 = .ok (.if_icmp .gt 9, 3) := by decide +kernel
theorem zd_B_addGroup_56 : decode zb_B_addGroup 56 = .ok (.ldc2_w 49, 3) := by decide +kernel
theorem zd_B_addGroup_59 : decode zb_B_addGroup 59 = .ok (.goto 15, 3) := by decide +kernel
theorem zd_B_addGroup_62 : decode zb_B_addGroup 62 = .ok (.ldc2_w 51, 3) := by decide +kernel
theorem zd_B_addGroup_65 : decode zb_B_addGroup 65 = .ok (.ldc2_w 53, 3) := by decide +kernel
theorem zd_B_addGroup_68 : decode zb_B_addGroup 68 = .ok (.aload_n 0, 1) := by decide +kernel
theorem zd_B_addGroup_69 : decode zb_B_addGroup 69 = .ok (.getfield 43, 3) := by decide +kernel
theorem zd_B_addGroup_72 : decode zb_B_addGroup 72 = .ok (.lmul, 1) := by decide +kernel
theorem zd_B_addGroup_73 : decode zb_B_addGroup 73 = .ok (.ladd, 1) := by decide +kernel
theorem zd_B_addGroup_74 : decode zb_B_addGroup 74 = .ok (.lastore, 1) := by decide +kernel
theorem zd_B_addGroup_75 : decode zb_B_addGroup 75 = .ok (.iinc 1 1, 3) := by decide +kernel
theorem zd_B_addGroup_78 : decode zb_B_addGroup 78 = .ok (.goto (-44), 3) := by decide +kernel
theorem zd_B_addGroup_81 : decode zb_B_addGroup 81 = .ok (.return_, 1) := by decide +kernel
theorem zd_B_offer_0 : decode zb_B_offer 0 = .ok (.aload_n 0, 1) := by decide +kernel
theorem zd_B_offer_1 : decode zb_B_offer 1 = .ok (.getfield 13, 3) := by decide +kernel
theorem zd_B_offer_4 : decode zb_B_offer 4 = .ok (.aload_n 0, 1) := by decide +kernel
theorem zd_B_offer_5 : decode zb_B_offer 5 = .ok (.getfield 37, 3) := by decide +kernel
theorem zd_B_offer_8 : decode zb_B_offer 8 = .ok (.aaload, 1) := by decide +kernel
theorem zd_B_offer_9 : decode zb_B_offer 9 = .ok (.iload_n 1, 1) := by decide +kernel
theorem zd_B_offer_10 : decode zb_B_offer 10 = .ok (.iconst 1, 1) := by decide +kernel
theorem zd_B_offer_11 : decode zb_B_offer 11 = .ok (.iadd, 1) := by decide +kernel
theorem zd_B_offer_12 : decode zb_B_offer 12 = .ok (.iload_n 2, 1) := by decide +kernel
theorem zd_B_offer_13 : decode zb_B_offer 13 = .ok (.i2l, 1) := by decide +kernel
theorem zd_B_offer_14 : decode zb_B_offer 14 = .ok (.ldc2_w 41, 3) := by decide +kernel
theorem zd_B_offer_17 : decode zb_B_offer 17 = .ok (.lmul, 1) := by decide +kernel
theorem zd_B_offer_18 : decode zb_B_offer 18 = .ok (.iload_n 1, 1) := by decide +kernel
theorem zd_B_offer_19 : decode zb_B_offer 19 = .ok (.i2l, 1) := by decide +kernel
theorem zd_B_offer_20 : decode zb_B_offer 20 = .ok (.aload_n 0, 1) := by decide +kernel
theorem zd_B_offer_21 : decode zb_B_offer 21 = .ok (.getfield 43, 3) := by decide +kernel
theorem zd_B_offer_24 : decode zb_B_offer 24 = .ok (.lmul, 1) := by decide +kernel
theorem zd_B_offer_25 : decode zb_B_offer 25 = .ok (.ladd, 1) := by decide +kernel
theorem zd_B_offer_26 : decode zb_B_offer 26 = .ok (.lastore, 1) := by decide +kernel
theorem zd_B_offer_27 : decode zb_B_offer 27 = .ok (.return_, 1) := by decide +kernel
theorem zd_B_solve_0 : decode zb_B_solve 0 = .ok (.iconst 1, 1) := by decide +kernel
theorem zd_B_solve_1 : decode zb_B_solve 1 = .ok (.istore_n 1, 1) := by decide +kernel
theorem zd_B_solve_2 : decode zb_B_solve 2 = .ok (.iload_n 1, 1) := by decide +kernel
theorem zd_B_solve_3 : decode zb_B_solve 3 = .ok (.aload_n 0, 1) := by decide +kernel
theorem zd_B_solve_4 : decode zb_B_solve 4 = .ok (.getfield 37, 3) := by decide +kernel
theorem zd_B_solve_7 : decode zb_B_solve 7 = .ok (.if_icmp .gt 14, 3) := by decide +kernel
theorem zd_B_solve_10 : decode zb_B_solve 10 = .ok (.aload_n 0, 1) := by decide +kernel
theorem zd_B_solve_11 : decode zb_B_solve 11 = .ok (.iload_n 1, 1) := by decide +kernel
theorem zd_B_solve_12 : decode zb_B_solve 12 = .ok (.invokevirtual 55, 3) := by decide +kernel
theorem zd_B_solve_15 : decode zb_B_solve 15 = .ok (.iinc 1 1, 3) := by decide +kernel
theorem zd_B_solve_18 : decode zb_B_solve 18 = .ok (.goto (-16), 3) := by decide +kernel
theorem zd_B_solve_21 : decode zb_B_solve 21 = .ok (.return_, 1) := by decide +kernel
theorem zd_B_placeGiven_0 : decode zb_B_placeGiven 0 = .ok (.iconst 1, 1) := by decide +kernel
theorem zd_B_placeGiven_1 : decode zb_B_placeGiven 1 = .ok (.istore_n 2, 1) := by decide +kernel
theorem zd_B_placeGiven_2 : decode zb_B_placeGiven 2 = .ok (.iload_n 2, 1) := by decide +kernel
theorem zd_B_placeGiven_3 : decode zb_B_placeGiven 3 = .ok (.bipush 12, 2) := by decide +kernel
theorem zd_B_placeGiven_5 : decode zb_B_placeGiven 5 = .ok (.if_icmp .gt 23, 3) := by decide +kernel
theorem zd_B_placeGiven_8 : decode zb_B_placeGiven 8 = .ok (.aload_n 0, 1) := by decide +kernel
theorem zd_B_placeGiven_9 : decode zb_B_placeGiven 9 = .ok (.getfield 23, 3) := by decide +kernel
theorem zd_B_placeGiven_12 : decode zb_B_placeGiven 12 = .ok (.iload_n 2, 1) := by decide +kernel
theorem zd_B_placeGiven_13 : decode zb_B_placeGiven 13 = .ok (.iaload, 1) := by decide +kernel
theorem zd_B_placeGiven_14 : decode zb_B_placeGiven 14 = .ok (.iload_n 1, 1) := by decide +kernel
theorem zd_B_placeGiven_15 : decode zb_B_placeGiven 15 = .ok (.if_icmp .ne 7, 3) := by decide +kernel
theorem zd_B_placeGiven_18 : decode zb_B_placeGiven 18 = .ok (.iload_n 2, 1) := by decide +kernel
theorem zd_B_placeGiven_19 : decode zb_B_placeGiven 19 = .ok (.iconst 1, 1) := by decide +kernel
theorem zd_B_placeGiven_20 : decode zb_B_placeGiven 20 = .ok (.isub, 1) := by decide +kernel
theorem zd_B_placeGiven_21 : decode zb_B_placeGiven 21 = .ok (.ireturn, 1) := by decide +kernel
theorem zd_B_placeGiven_22 : decode zb_B_placeGiven 22 = .ok (.iinc 2 1, 3) := by decide +kernel
theorem zd_B_placeGiven_25 : decode zb_B_placeGiven 25 = .ok (.goto (-23), 3) := by decide +kernel
theorem zd_B_placeGiven_28 : decode zb_B_placeGiven 28 = .ok (.iconst (-1), 1) := by decide +kernel
theorem zd_B_placeGiven_29 : decode zb_B_placeGiven 29 = .ok (.ireturn, 1) := by decide +kernel
theorem zd_B_giveColumn_0 : decode zb_B_giveColumn 0 = .ok (.iconst 0, 1) := by decide +kernel
theorem zd_B_giveColumn_1 : decode zb_B_giveColumn 1 = .ok (.istore_n 2, 1) := by decide +kernel
theorem zd_B_giveColumn_2 : decode zb_B_giveColumn 2 = .ok (.iload_n 2, 1) := by decide +kernel
theorem zd_B_giveColumn_3 : decode zb_B_giveColumn 3 = .ok (.bipush 20, 2) := by decide +kernel
theorem zd_B_giveColumn_5 : decode zb_B_giveColumn 5 = .ok (.if_icmp .gt 25, 3) := by decide +kernel
theorem zd_B_giveColumn_8 : decode zb_B_giveColumn 8 = .ok (.aload_n 0, 1) := by decide +kernel
theorem zd_B_giveColumn_9 : decode zb_B_giveColumn 9 = .ok (.getfield 30, 3) := by decide +kernel
theorem zd_B_giveColumn_12 : decode zb_B_giveColumn 12 = .ok (.iload_n 2, 1) := by decide +kernel
theorem zd_B_giveColumn_13 : decode zb_B_giveColumn 13 = .ok (.ldc2_w 59, 3) := by decide +kernel
theorem zd_B_giveColumn_16 : decode zb_B_giveColumn 16 = .ok (.lastore, 1) := by decide +kernel
theorem zd_B_giveColumn_17 : decode zb_B_giveColumn 17 = .ok (.aload_n 0, 1) := by decide +kernel
theorem zd_B_giveColumn_18 : decode zb_B_giveColumn 18 = .ok (.getfield 33, 3) := by decide +kernel
theorem zd_B_giveColumn_21 : decode zb_B_giveColumn 21 = .ok (.iload_n 2, 1) := by decide +kernel
theorem zd_B_giveColumn_22 : decode zb_B_giveColumn 22 = .ok (.iconst 0, 1) := by decide +kernel
theorem zd_B_giveColumn_23 : decode zb_B_giveColumn 23 = .ok (.bastore, 1) := by decide +kernel
theorem zd_B_giveColumn_24 : decode zb_B_giveColumn 24 = .ok (.iinc 2 1, 3) := by decide +kernel
theorem zd_B_giveColumn_27 : decode zb_B_giveColumn 27 = .ok (.goto (-25), 3) := by decide +kernel
theorem zd_B_giveColumn_30 : decode zb_B_giveColumn 30 = .ok (.aload_n 0, 1) := by decide +kernel
theorem zd_B_giveColumn_31 : decode zb_B_giveColumn 31 = .ok (.getfield 23, 3) := by decide +kernel
theorem zd_B_giveColumn_34 : decode zb_B_giveColumn 34 = .ok (.iconst 0, 1) := by decide +kernel
theorem zd_B_giveColumn_35 : decode zb_B_giveColumn 35 = .ok (.iload_n 1, 1) := by decide +kernel
theorem zd_B_giveColumn_36 : decode zb_B_giveColumn 36 = .ok (.iastore, 1) := by decide +kernel
theorem zd_B_giveColumn_37 : decode zb_B_giveColumn 37 = .ok (.iconst 0, 1) := by decide +kernel
theorem zd_B_giveColumn_38 : decode zb_B_giveColumn 38 = .ok (.istore_n 2, 1) := by decide +kernel
theorem zd_B_giveColumn_39 : decode zb_B_giveColumn 39 = .ok (.iconst 0, 1) := by decide +kernel
theorem zd_B_giveColumn_40 : decode zb_B_giveColumn 40 = .ok (.istore_n 3, 1) := by decide +kernel
theorem zd_B_giveColumn_41 : decode zb_B_giveColumn 41 = .ok (.iload_n 3, 1) := by decide +kernel
theorem zd_B_giveColumn_42 : decode zb_B_giveColumn 42 = .ok (.bipush 20, 2) := by decide +kernel
theorem zd_B_giveColumn_44 : decode zb_B_giveColumn 44 = .ok (.if_icmp .gt 45, 3) := by decide +kernel
theorem zd_B_giveColumn_47 : decode zb_B_giveColumn 47 = .ok (.aload_n 0, 1) := by decide +kernel
theorem zd_B_giveColumn_48 : decode zb_B_giveColumn 48 = .ok (.getfield 23, 3) := by decide +kernel
theorem zd_B_giveColumn_51 : decode zb_B_giveColumn 51 = .ok (.iload_n 2, 1) := by decide +kernel
theorem zd_B_giveColumn_52 : decode zb_B_giveColumn 52 = .ok (.iaload, 1) := by decide +kernel
theorem zd_B_giveColumn_53 : decode zb_B_giveColumn 53 = .ok (.ifCond .eq 36, 3) := by decide +kernel
theorem zd_B_giveColumn_56 : decode zb_B_giveColumn 56 = .ok (.aload_n 0, 1) := by decide +kernel
theorem zd_B_giveColumn_57 : decode zb_B_giveColumn 57 = .ok (.getfield 33, 3) := by decide +kernel
theorem zd_B_giveColumn_60 : decode zb_B_giveColumn 60 = .ok (.iload_n 2, 1) := by decide +kernel
theorem zd_B_giveColumn_61 : decode zb_B_giveColumn 61 = .ok (.iconst 1, 1) := by decide +kernel
theorem zd_B_giveColumn_62 : decode zb_B_giveColumn 62 = .ok (.bastore, 1) := by decide +kernel
theorem zd_B_giveColumn_63 : decode zb_B_giveColumn 63 = .ok (.aload_n 0, 1) := by decide +kernel
theorem zd_B_giveColumn_64 : decode zb_B_giveColumn 64 = .ok (.iload_n 2, 1) := by decide +kernel
theorem zd_B_giveColumn_65 : decode zb_B_giveColumn 65 = .ok (.invokevirtual 61, 3) := by decide +kernel
theorem zd_B_giveColumn_68 : decode zb_B_giveColumn 68 = .ok (.aload_n 0, 1) := by decide +kernel
theorem zd_B_giveColumn_69 : decode zb_B_giveColumn 69 = .ok (.invokevirtual 64, 3) := by decide +kernel
theorem zd_B_giveColumn_72 : decode zb_B_giveColumn 72 = .ok (.istore_n 2, 1) := by decide +kernel
theorem zd_B_giveColumn_73 : decode zb_B_giveColumn 73 = .ok (.aload_n 0, 1) := by decide +kernel
theorem zd_B_giveColumn_74 : decode zb_B_giveColumn 74 = .ok (.aload_n 0, 1) := by decide +kernel
theorem zd_B_giveColumn_75 : decode zb_B_giveColumn 75 = .ok (.getfield 30, 3) := by decide +kernel
theorem zd_B_giveColumn_78 : decode zb_B_giveColumn 78 = .ok (.iload_n 2, 1) := by decide +kernel
theorem zd_B_giveColumn_79 : decode zb_B_giveColumn 79 = .ok (.laload, 1) := by decide +kernel
theorem zd_B_giveColumn_80 : decode zb_B_giveColumn 80 = .ok (.invokevirtual 68, 3) := by decide +kernel
theorem zd_B_giveColumn_83 : decode zb_B_giveColumn 83 = .ok (.iinc 3 1, 3) := by decide +kernel
theorem zd_B_giveColumn_86 : decode zb_B_giveColumn 86 = .ok (.goto (-45), 3) := by decide +kernel
theorem zd_B_giveColumn_89 : decode zb_B_giveColumn 89 = .ok (.iconst 0, 1) := by decide +kernel
theorem zd_B_giveColumn_90 : decode zb_B_giveColumn 90 = .ok (.istore_n 3, 1) := by decide +kernel
theorem zd_B_giveColumn_91 : decode zb_B_giveColumn 91 = .ok (.iload_n 3, 1) := by decide +kernel
theorem zd_B_giveColumn_92 : decode zb_B_giveColumn 92 = .ok (.bipush 20, 2) := by decide +kernel
theorem zd_B_giveColumn_94 : decode zb_B_giveColumn 94 = .ok (.if_icmp .gt 37, 3) := by decide +kernel
theorem zd_B_giveColumn_97 : decode zb_B_giveColumn 97 = .ok (.iload_n 2, 1) := by decide +kernel
theorem zd_B_giveColumn_98 : decode zb_B_giveColumn 98 = .ok (.ifCond .eq 33, 3) := by decide +kernel
theorem zd_B_giveColumn_101 : decode zb_B_giveColumn 101 = .ok (.aload_n 0, 1) := by decide +kernel
theorem zd_B_giveColumn_102 : decode zb_B_giveColumn 102 = .ok (.getfield 27, 3) := by decide +kernel
theorem zd_B_giveColumn_105 : decode zb_B_giveColumn 105 = .ok (.iload_n 2, 1) := by decide +kernel
theorem zd_B_giveColumn_106 : decode zb_B_giveColumn 106 = .ok (.iaload, 1) := by decide +kernel
theorem zd_B_giveColumn_107 : decode zb_B_giveColumn 107 = .ok (.istore 4, 2) := by decide +kernel
theorem zd_B_giveColumn_109 : decode zb_B_giveColumn 109 = .ok (.aload_n 0, 1) := by decide +kernel
theorem zd_B_giveColumn_110 : decode zb_B_giveColumn 110 = .ok (.getfield 23, 3) := by decide +kernel
theorem zd_B_giveColumn_113 : decode zb_B_giveColumn 113 = .ok (.iload_n 2, 1) := by decide +kernel
theorem zd_B_giveColumn_114 : decode zb_B_giveColumn 114 = .ok (.aload_n 0, 1) := by decide +kernel
theorem zd_B_giveColumn_115 : decode zb_B_giveColumn 115 = .ok (.getfield 23, 3) := by decide +kernel
theorem zd_B_giveColumn_118 : decode zb_B_giveColumn 118 = .ok (.iload 4, 2) := by decide +kernel
theorem zd_B_giveColumn_120 : decode zb_B_giveColumn 120 = .ok (.iaload, 1) := by decide +kernel
theorem zd_B_giveColumn_121 : decode zb_B_giveColumn 121 = .ok (.iastore, 1) := by decide +kernel
theorem zd_B_giveColumn_122 : decode zb_B_giveColumn 122 = .ok (.iload 4, 2) := by decide +kernel
theorem zd_B_giveColumn_124 : decode zb_B_giveColumn 124 = .ok (.istore_n 2, 1) := by decide +kernel
theorem zd_B_giveColumn_125 : decode zb_B_giveColumn 125 = .ok (.iinc 3 1, 3) := by decide +kernel
theorem zd_B_giveColumn_128 : decode zb_B_giveColumn 128 = .ok (.goto (-37), 3) := by decide +kernel
theorem zd_B_giveColumn_131 : decode zb_B_giveColumn 131 = .ok (.return_, 1) := by decide +kernel
theorem zd_B_measureFrom_0 : decode zb_B_measureFrom 0 = .ok (.aload_n 0, 1) := by decide +kernel
theorem zd_B_measureFrom_1 : decode zb_B_measureFrom 1 = .ok (.getfield 23, 3) := by decide +kernel
theorem zd_B_measureFrom_4 : decode zb_B_measureFrom 4 = .ok (.iload_n 1, 1) := by decide +kernel
theorem zd_B_measureFrom_5 : decode zb_B_measureFrom 5 = .ok (.iaload, 1) := by decide +kernel
theorem zd_B_measureFrom_6 : decode zb_B_measureFrom 6 = .ok (.istore_n 2, 1) := by decide +kernel
theorem zd_B_measureFrom_7 : decode zb_B_measureFrom 7 = .ok (.iconst 1, 1) := by decide +kernel
theorem zd_B_measureFrom_8 : decode zb_B_measureFrom 8 = .ok (.istore_n 3, 1) := by decide +kernel
theorem zd_B_measureFrom_9 : decode zb_B_measureFrom 9 = .ok (.iload_n 3, 1) := by decide +kernel
theorem zd_B_measureFrom_10 : decode zb_B_measureFrom 10 = .ok (.bipush 20, 2) := by decide +kernel
theorem zd_B_measureFrom_12 : decode zb_B_measureFrom 12 = .ok (.if_icmp .gt 69, 3) := by decide +kernel
theorem zd_B_measureFrom_15 : decode zb_B_measureFrom 15 = .ok (.aload_n 0, 1) := by decide +kernel
theorem zd_B_measureFrom_16 : decode zb_B_measureFrom 16 = .ok (.getfield 33, 3) := by decide +kernel
theorem zd_B_measureFrom_19 : decode zb_B_measureFrom 19 = .ok (.iload_n 3, 1) := by decide +kernel
theorem zd_B_measureFrom_20 : decode zb_B_measureFrom 20 = .ok (.baload, 1) := by decide +kernel
theorem zd_B_measureFrom_21 : decode zb_B_measureFrom 21 = .ok (.ifCond .ne 54, 3) := by decide +kernel
theorem zd_B_measureFrom_24 : decode zb_B_measureFrom 24 = .ok (.aload_n 0, 1) := by decide +kernel
theorem zd_B_measureFrom_25 : decode zb_B_measureFrom 25 = .ok (.getfield 13, 3) := by decide +kernel
theorem zd_B_measureFrom_28 : decode zb_B_measureFrom 28 = .ok (.iload_n 2, 1) := by decide +kernel
theorem zd_B_measureFrom_29 : decode zb_B_measureFrom 29 = .ok (.aaload, 1) := by decide +kernel
theorem zd_B_measureFrom_30 : decode zb_B_measureFrom 30 = .ok (.iload_n 3, 1) := by decide +kernel
theorem zd_B_measureFrom_31 : decode zb_B_measureFrom 31 = .ok (.laload, 1) := by decide +kernel
theorem zd_B_measureFrom_32 : decode zb_B_measureFrom 32 = .ok (.aload_n 0, 1) := by decide +kernel
theorem zd_B_measureFrom_33 : decode zb_B_measureFrom 33 = .ok (.getfield 16, 3) := by decide +kernel
theorem zd_B_measureFrom_36 : decode zb_B_measureFrom 36 = .ok (.iload_n 2, 1) := by decide +kernel
theorem zd_B_measureFrom_37 : decode zb_B_measureFrom 37 = .ok (.laload, 1) := by decide +kernel
theorem zd_B_measureFrom_38 : decode zb_B_measureFrom 38 = .ok (.lsub, 1) := by decide +kernel
theorem zd_B_measureFrom_39 : decode zb_B_measureFrom 39 = .ok (.aload_n 0, 1) := by decide +kernel
theorem zd_B_measureFrom_40 : decode zb_B_measureFrom 40 = .ok (.getfield 20, 3) := by decide +kernel
theorem zd_B_measureFrom_43 : decode zb_B_measureFrom 43 = .ok (.iload_n 3, 1) := by decide +kernel
theorem zd_B_measureFrom_44 : decode zb_B_measureFrom 44 = .ok (.laload, 1) := by decide +kernel
theorem zd_B_measureFrom_45 : decode zb_B_measureFrom 45 = .ok (.lsub, 1) := by decide +kernel
theorem zd_B_measureFrom_46 : decode zb_B_measureFrom 46 = .ok (.lstore 4, 2) := by decide +kernel
theorem zd_B_measureFrom_48 : decode zb_B_measureFrom 48 = .ok (.lload 4, 2) := by decide +kernel
theorem zd_B_measureFrom_50 : decode zb_B_measureFrom 50 = .ok (.aload_n 0, 1) := by decide +kernel
theorem zd_B_measureFrom_51 : decode zb_B_measureFrom 51 = .ok (.getfield 30, 3) := by decide +kernel
theorem zd_B_measureFrom_54 : decode zb_B_measureFrom 54 = .ok (.iload_n 3, 1) := by decide +kernel
theorem zd_B_measureFrom_55 : decode zb_B_measureFrom 55 = .ok (.laload, 1) := by decide +kernel
theorem zd_B_measureFrom_56 : decode zb_B_measureFrom 56 = .ok (.lcmp, 1) := by decide +kernel
theorem zd_B_measureFrom_57 : decode zb_B_measureFrom 57 = .ok (.ifCond .ge 18, 3) := by decide +kernel
theorem zd_B_measureFrom_60 : decode zb_B_measureFrom 60 = .ok (.aload_n 0, 1) := by decide +kernel
theorem zd_B_measureFrom_61 : decode zb_B_measureFrom 61 = .ok (.getfield 30, 3) := by decide +kernel
theorem zd_B_measureFrom_64 : decode zb_B_measureFrom 64 = .ok (.iload_n 3, 1) := by decide +kernel
theorem zd_B_measureFrom_65 : decode zb_B_measureFrom 65 = .ok (.lload 4, 2) := by decide +kernel
theorem zd_B_measureFrom_67 : decode zb_B_measureFrom 67 = .ok (.lastore, 1) := by decide +kernel
theorem zd_B_measureFrom_68 : decode zb_B_measureFrom 68 = .ok (.aload_n 0, 1) := by decide +kernel
theorem zd_B_measureFrom_69 : decode zb_B_measureFrom 69 = .ok (.getfield 27, 3) := by decide +kernel
theorem zd_B_measureFrom_72 : decode zb_B_measureFrom 72 = .ok (.iload_n 3, 1) := by decide +kernel
theorem zd_B_measureFrom_73 : decode zb_B_measureFrom 73 = .ok (.iload_n 1, 1) := by decide +kernel
theorem zd_B_measureFrom_74 : decode zb_B_measureFrom 74 = .ok (.iastore, 1) := by decide +kernel
theorem zd_B_measureFrom_75 : decode zb_B_measureFrom 75 = .ok (.iinc 3 1, 3) := by decide +kernel
theorem zd_B_measureFrom_78 : decode zb_B_measureFrom 78 = .ok (.goto (-69), 3) := by decide +kernel
theorem zd_B_measureFrom_81 : decode zb_B_measureFrom 81 = .ok (.return_, 1) := by decide +kernel
theorem zd_B_nearestColumn_0 : decode zb_B_nearestColumn 0 = .ok (.iconst 0, 1) := by decide +kernel
theorem zd_B_nearestColumn_1 : decode zb_B_nearestColumn 1 = .ok (.istore_n 1, 1) := by decide +kernel
theorem zd_B_nearestColumn_2 : decode zb_B_nearestColumn 2 = .ok (.iconst 1, 1) := by decide +kernel
theorem zd_B_nearestColumn_3 : decode zb_B_nearestColumn 3 = .ok (.istore_n 2, 1) := by decide +kernel
theorem zd_B_nearestColumn_4 : decode zb_B_nearestColumn 4 = .ok (.iload_n 2, 1) := by decide +kernel
theorem zd_B_nearestColumn_5 : decode zb_B_nearestColumn 5 = .ok (.bipush 20, 2) := by decide +kernel
theorem zd_B_nearestColumn_7 : decode zb_B_nearestColumn 7 = .ok (.if_icmp .gt 40, 3) := by decide +kernel
theorem zd_B_nearestColumn_10 : decode zb_B_nearestColumn 10 = .ok (.aload_n 0, 1) := by decide +kernel
theorem zd_B_nearestColumn_11 : decode zb_B_nearestColumn 11 = .ok (.getfield 33, 3) := by decide +kernel
theorem zd_B_nearestColumn_14 : decode zb_B_nearestColumn 14 = .ok (.iload_n 2, 1) := by decide +kernel
theorem zd_B_nearestColumn_15 : decode zb_B_nearestColumn 15 = .ok (.baload, 1) := by decide +kernel
theorem zd_B_nearestColumn_16 : decode zb_B_nearestColumn 16 = .ok (.ifCond .ne 25, 3) := by decide +kernel
theorem zd_B_nearestColumn_19 : decode zb_B_nearestColumn 19 = .ok (.iload_n 1, 1) := by decide +kernel
theorem zd_B_nearestColumn_20 : decode zb_B_nearestColumn 20 = .ok (.ifCond .eq 19, 3) := by decide +kernel
theorem zd_B_nearestColumn_23 : decode zb_B_nearestColumn 23 = .ok (.aload_n 0, 1) := by decide +kernel
theorem zd_B_nearestColumn_24 : decode zb_B_nearestColumn 24 = .ok (.getfield 30, 3) := by decide +kernel
theorem zd_B_nearestColumn_27 : decode zb_B_nearestColumn 27 = .ok (.iload_n 2, 1) := by decide +kernel
theorem zd_B_nearestColumn_28 : decode zb_B_nearestColumn 28 = .ok (.laload, 1) := by decide +kernel
theorem zd_B_nearestColumn_29 : decode zb_B_nearestColumn 29 = .ok (.aload_n 0, 1) := by decide +kernel
theorem zd_B_nearestColumn_30 : decode zb_B_nearestColumn 30 = .ok (.getfield 30, 3) := by decide +kernel
theorem zd_B_nearestColumn_33 : decode zb_B_nearestColumn 33 = .ok (.iload_n 1, 1) := by decide +kernel
theorem zd_B_nearestColumn_34 : decode zb_B_nearestColumn 34 = .ok (.laload, 1) := by decide +kernel
theorem zd_B_nearestColumn_35 : decode zb_B_nearestColumn 35 = .ok (.lcmp, 1) := by decide +kernel
theorem zd_B_nearestColumn_36 : decode zb_B_nearestColumn 36 = .ok (.ifCond .ge 5, 3) := by decide +kernel
theorem zd_B_nearestColumn_39 : decode zb_B_nearestColumn 39 = .ok (.iload_n 2, 1) := by decide +kernel
theorem zd_B_nearestColumn_40 : decode zb_B_nearestColumn 40 = .ok (.istore_n 1, 1) := by decide +kernel
theorem zd_B_nearestColumn_41 : decode zb_B_nearestColumn 41 = .ok (.iinc 2 1, 3) := by decide +kernel
theorem zd_B_nearestColumn_44 : decode zb_B_nearestColumn 44 = .ok (.goto (-40), 3) := by decide +kernel
theorem zd_B_nearestColumn_47 : decode zb_B_nearestColumn 47 = .ok (.iload_n 1, 1) := by decide +kernel
theorem zd_B_nearestColumn_48 : decode zb_B_nearestColumn 48 = .ok (.ireturn, 1) := by decide +kernel
theorem zd_B_shiftBy_0 : decode zb_B_shiftBy 0 = .ok (.iconst 0, 1) := by decide +kernel
theorem zd_B_shiftBy_1 : decode zb_B_shiftBy 1 = .ok (.istore_n 3, 1) := by decide +kernel
theorem zd_B_shiftBy_2 : decode zb_B_shiftBy 2 = .ok (.iload_n 3, 1) := by decide +kernel
theorem zd_B_shiftBy_3 : decode zb_B_shiftBy 3 = .ok (.bipush 20, 2) := by decide +kernel
theorem zd_B_shiftBy_5 : decode zb_B_shiftBy 5 = .ok (.if_icmp .gt 56, 3) := by decide +kernel
theorem zd_B_shiftBy_8 : decode zb_B_shiftBy 8 = .ok (.aload_n 0, 1) := by decide +kernel
theorem zd_B_shiftBy_9 : decode zb_B_shiftBy 9 = .ok (.getfield 33, 3) := by decide +kernel
theorem zd_B_shiftBy_12 : decode zb_B_shiftBy 12 = .ok (.iload_n 3, 1) := by decide +kernel
theorem zd_B_shiftBy_13 : decode zb_B_shiftBy 13 = .ok (.baload, 1) := by decide +kernel
theorem zd_B_shiftBy_14 : decode zb_B_shiftBy 14 = .ok (.ifCond .eq 31, 3) := by decide +kernel
theorem zd_B_shiftBy_17 : decode zb_B_shiftBy 17 = .ok (.aload_n 0, 1) := by decide +kernel
theorem zd_B_shiftBy_18 : decode zb_B_shiftBy 18 = .ok (.getfield 16, 3) := by decide +kernel
theorem zd_B_shiftBy_21 : decode zb_B_shiftBy 21 = .ok (.aload_n 0, 1) := by decide +kernel
theorem zd_B_shiftBy_22 : decode zb_B_shiftBy 22 = .ok (.getfield 23, 3) := by decide +kernel
theorem zd_B_shiftBy_25 : decode zb_B_shiftBy 25 = .ok (.iload_n 3, 1) := by decide +kernel
theorem zd_B_shiftBy_26 : decode zb_B_shiftBy 26 = .ok (.iaload, 1) := by decide +kernel
theorem zd_B_shiftBy_27 : decode zb_B_shiftBy 27 = .ok (.dup2, 1) := by decide +kernel
theorem zd_B_shiftBy_28 : decode zb_B_shiftBy 28 = .ok (.laload, 1) := by decide +kernel
theorem zd_B_shiftBy_29 : decode zb_B_shiftBy 29 = .ok (.lload_n 1, 1) := by decide +kernel
theorem zd_B_shiftBy_30 : decode zb_B_shiftBy 30 = .ok (.ladd, 1) := by decide +kernel
theorem zd_B_shiftBy_31 : decode zb_B_shiftBy 31 = .ok (.lastore, 1) := by decide +kernel
theorem zd_B_shiftBy_32 : decode zb_B_shiftBy 32 = .ok (.aload_n 0, 1) := by decide +kernel
theorem zd_B_shiftBy_33 : decode zb_B_shiftBy 33 = .ok (.getfield 20, 3) := by decide +kernel
theorem zd_B_shiftBy_36 : decode zb_B_shiftBy 36 = .ok (.iload_n 3, 1) := by decide +kernel
theorem zd_B_shiftBy_37 : decode zb_B_shiftBy 37 = .ok (.dup2, 1) := by decide +kernel
theorem zd_B_shiftBy_38 : decode zb_B_shiftBy 38 = .ok (.laload, 1) := by decide +kernel
theorem zd_B_shiftBy_39 : decode zb_B_shiftBy 39 = .ok (.lload_n 1, 1) := by decide +kernel
theorem zd_B_shiftBy_40 : decode zb_B_shiftBy 40 = .ok (.lsub, 1) := by decide +kernel
theorem zd_B_shiftBy_41 : decode zb_B_shiftBy 41 = .ok (.lastore, 1) := by decide +kernel
theorem zd_B_shiftBy_42 : decode zb_B_shiftBy 42 = .ok (.goto 13, 3) := by decide +kernel
theorem zd_B_shiftBy_45 : decode zb_B_shiftBy 45 = .ok (.aload_n 0, 1) := by decide +kernel
theorem zd_B_shiftBy_46 : decode zb_B_shiftBy 46 = .ok (.getfield 30, 3) := by decide +kernel
theorem zd_B_shiftBy_49 : decode zb_B_shiftBy 49 = .ok (.iload_n 3, 1) := by decide +kernel
theorem zd_B_shiftBy_50 : decode zb_B_shiftBy 50 = .ok (.dup2, 1) := by decide +kernel
theorem zd_B_shiftBy_51 : decode zb_B_shiftBy 51 = .ok (.laload, 1) := by decide +kernel
theorem zd_B_shiftBy_52 : decode zb_B_shiftBy 52 = .ok (.lload_n 1, 1) := by decide +kernel
theorem zd_B_shiftBy_53 : decode zb_B_shiftBy 53 = .ok (.lsub, 1) := by decide +kernel
theorem zd_B_shiftBy_54 : decode zb_B_shiftBy 54 = .ok (.lastore, 1) := by decide +kernel
theorem zd_B_shiftBy_55 : decode zb_B_shiftBy 55 = .ok (.iinc 3 1, 3) := by decide +kernel
theorem zd_B_shiftBy_58 : decode zb_B_shiftBy 58 = .ok (.goto (-56), 3) := by decide +kernel
theorem zd_B_shiftBy_61 : decode zb_B_shiftBy 61 = .ok (.return_, 1) := by decide +kernel
theorem zd_G_init_0 : decode zb_G_init 0 = .ok (.aload_n 0, 1) := by decide +kernel
theorem zd_G_init_1 : decode zb_G_init 1 = .ok (.invokespecial 3, 3) := by decide +kernel
theorem zd_G_init_4 : decode zb_G_init 4 = .ok (.return_, 1) := by decide +kernel
theorem zd_G_clear_0 : decode zb_G_clear 0 = .ok (.aload_n 0, 1) := by decide +kernel
theorem zd_G_clear_1 : decode zb_G_clear 1 = .ok (.iload_n 1, 1) := by decide +kernel
theorem zd_G_clear_2 : decode zb_G_clear 2 = .ok (.putfield 9, 3) := by decide +kernel
theorem zd_G_clear_5 : decode zb_G_clear 5 = .ok (.aload_n 0, 1) := by decide +kernel
theorem zd_G_clear_6 : decode zb_G_clear 6 = .ok (.iconst 0, 1) := by decide +kernel
theorem zd_G_clear_7 : decode zb_G_clear 7 = .ok (.putfield 15, 3) := by decide +kernel
theorem zd_G_clear_10 : decode zb_G_clear 10 = .ok (.aload_n 0, 1) := by decide +kernel
theorem zd_G_clear_11 : decode zb_G_clear 11 = .ok (.iconst 0, 1) := by decide +kernel
theorem zd_G_clear_12 : decode zb_G_clear 12 = .ok (.putfield 18, 3) := by decide +kernel
theorem zd_G_clear_15 : decode zb_G_clear 15 = .ok (.aload_n 0, 1) := by decide +kernel
theorem zd_G_clear_16 : decode zb_G_clear 16 = .ok (.iconst 0, 1) := by decide +kernel
theorem zd_G_clear_17 : decode zb_G_clear 17 = .ok (.putfield 21, 3) := by decide +kernel
theorem zd_G_clear_20 : decode zb_G_clear 20 = .ok (.aload_n 0, 1) := by decide +kernel
theorem zd_G_clear_21 : decode zb_G_clear 21 = .ok (.iconst 0, 1) := by decide +kernel
theorem zd_G_clear_22 : decode zb_G_clear 22 = .ok (.putfield 24, 3) := by decide +kernel
theorem zd_G_clear_25 : decode zb_G_clear 25 = .ok (.aload_n 0, 1) := by decide +kernel
theorem zd_G_clear_26 : decode zb_G_clear 26 = .ok (.iconst 0, 1) := by decide +kernel
theorem zd_G_clear_27 : decode zb_G_clear 27 = .ok (.putfield 27, 3) := by decide +kernel
theorem zd_G_clear_30 : decode zb_G_clear 30 = .ok (.aload_n 0, 1) := by decide +kernel
theorem zd_G_clear_31 : decode zb_G_clear 31 = .ok (.iconst (-1), 1) := by decide +kernel
theorem zd_G_clear_32 : decode zb_G_clear 32 = .ok (.putfield 30, 3) := by decide +kernel
theorem zd_G_clear_35 : decode zb_G_clear 35 = .ok (.return_, 1) := by decide +kernel
theorem zd_G_take_0 : decode zb_G_take 0 = .ok (.aload_n 0, 1) := by decide +kernel
theorem zd_G_take_1 : decode zb_G_take 1 = .ok (.dup, 1) := by decide +kernel
theorem zd_G_take_2 : decode zb_G_take 2 = .ok (.getfield 15, 3) := by decide +kernel
theorem zd_G_take_5 : decode zb_G_take 5 = .ok (.iconst 1, 1) := by decide +kernel
theorem zd_G_take_6 : decode zb_G_take 6 = .ok (.iadd, 1) := by decide +kernel
theorem zd_G_take_7 : decode zb_G_take 7 = .ok (.putfield 15, 3) := by decide +kernel
theorem zd_G_take_10 : decode zb_G_take 10 = .ok (.aload_n 0, 1) := by decide +kernel
theorem zd_G_take_11 : decode zb_G_take 11 = .ok (.dup, 1) := by decide +kernel
theorem zd_G_take_12 : decode zb_G_take 12 = .ok (.getfield 18, 3) := by decide +kernel
theorem zd_G_take_15 : decode zb_G_take 15 = .ok (.aload_n 1, 1) := by decide +kernel
theorem zd_G_take_16 : decode zb_G_take 16 = .ok (.getfield 33, 3) := by decide +kernel
theorem zd_G_take_19 : decode zb_G_take 19 = .ok (.iadd, 1) := by decide +kernel
theorem zd_G_take_20 : decode zb_G_take 20 = .ok (.putfield 18, 3) := by decide +kernel
theorem zd_G_take_23 : decode zb_G_take 23 = .ok (.aload_n 0, 1) := by decide +kernel
theorem zd_G_take_24 : decode zb_G_take 24 = .ok (.aload_n 0, 1) := by decide +kernel
theorem zd_G_take_25 : decode zb_G_take 25 = .ok (.getfield 21, 3) := by decide +kernel
theorem zd_G_take_28 : decode zb_G_take 28 = .ok (.iload_n 2, 1) := by decide +kernel
theorem zd_G_take_29 : decode zb_G_take 29 = .ok (.invokestatic 36, 3) := by decide +kernel
theorem zd_G_take_32 : decode zb_G_take 32 = .ok (.putfield 21, 3) := by decide +kernel
theorem zd_G_take_35 : decode zb_G_take 35 = .ok (.aload_n 0, 1) := by decide +kernel
theorem zd_G_take_36 : decode zb_G_take 36 = .ok (.dup, 1) := by decide +kernel
theorem zd_G_take_37 : decode zb_G_take 37 = .ok (.getfield 24, 3) := by decide +kernel
theorem zd_G_take_40 : decode zb_G_take 40 = .ok (.iconst 1, 1) := by decide +kernel
theorem zd_G_take_41 : decode zb_G_take 41 = .ok (.aload_n 1, 1) := by decide +kernel
theorem zd_G_take_42 : decode zb_G_take 42 = .ok (.getfield 42, 3) := by decide +kernel
theorem zd_G_take_45 : decode zb_G_take 45 = .ok (.ishl, 1) := by decide +kernel
theorem zd_G_take_46 : decode zb_G_take 46 = .ok (.ior, 1) := by decide +kernel
theorem zd_G_take_47 : decode zb_G_take 47 = .ok (.putfield 24, 3) := by decide +kernel
theorem zd_G_take_50 : decode zb_G_take 50 = .ok (.aload_n 0, 1) := by decide +kernel
theorem zd_G_take_51 : decode zb_G_take 51 = .ok (.dup, 1) := by decide +kernel
theorem zd_G_take_52 : decode zb_G_take 52 = .ok (.getfield 27, 3) := by decide +kernel
theorem zd_G_take_55 : decode zb_G_take 55 = .ok (.aload_n 1, 1) := by decide +kernel
theorem zd_G_take_56 : decode zb_G_take 56 = .ok (.getfield 45, 3) := by decide +kernel
theorem zd_G_take_59 : decode zb_G_take 59 = .ok (.ior, 1) := by decide +kernel
theorem zd_G_take_60 : decode zb_G_take 60 = .ok (.putfield 27, 3) := by decide +kernel
theorem zd_G_take_63 : decode zb_G_take 63 = .ok (.aload_n 1, 1) := by decide +kernel
theorem zd_G_take_64 : decode zb_G_take 64 = .ok (.getfield 46, 3) := by decide +kernel
theorem zd_G_take_67 : decode zb_G_take 67 = .ok (.iconst (-1), 1) := by decide +kernel
theorem zd_G_take_68 : decode zb_G_take 68 = .ok (.if_icmp .eq 35, 3) := by decide +kernel
theorem zd_G_take_71 : decode zb_G_take 71 = .ok (.aload_n 0, 1) := by decide +kernel
theorem zd_G_take_72 : decode zb_G_take 72 = .ok (.aload_n 0, 1) := by decide +kernel
theorem zd_G_take_73 : decode zb_G_take 73 = .ok (.getfield 30, 3) := by decide +kernel
theorem zd_G_take_76 : decode zb_G_take 76 = .ok (.iconst (-1), 1) := by decide +kernel
theorem zd_G_take_77 : decode zb_G_take 77 = .ok (.if_icmp .eq 14, 3) := by decide +kernel
theorem zd_G_take_80 : decode zb_G_take 80 = .ok (.aload_n 0, 1) := by decide +kernel
theorem zd_G_take_81 : decode zb_G_take 81 = .ok (.getfield 30, 3) := by decide +kernel
theorem zd_G_take_84 : decode zb_G_take 84 = .ok (.aload_n 1, 1) := by decide +kernel
theorem zd_G_take_85 : decode zb_G_take 85 = .ok (.getfield 46, 3) := by decide +kernel
theorem zd_G_take_88 : decode zb_G_take 88 = .ok (.if_icmp .ne 10, 3) := by decide +kernel
theorem zd_G_take_91 : decode zb_G_take 91 = .ok (.aload_n 1, 1) := by decide +kernel
theorem zd_G_take_92 : decode zb_G_take 92 = .ok (.getfield 46, 3) := by decide +kernel
theorem zd_G_take_95 : decode zb_G_take 95 = .ok (.goto 5, 3) := by decide +kernel
theorem zd_G_take_98 : decode zb_G_take 98 = .ok (.bipush (-2), 2) := by decide +kernel
theorem zd_G_take_100 : decode zb_G_take 100 = .ok (.putfield 30, 3) := by decide +kernel
theorem zd_G_take_103 : decode zb_G_take 103 = .ok (.return_, 1) := by decide +kernel
theorem zd_P_init_0 : decode zb_P_init 0 = .ok (.aload_n 0, 1) := by decide +kernel
theorem zd_P_init_1 : decode zb_P_init 1 = .ok (.invokespecial 1, 3) := by decide +kernel
theorem zd_P_init_4 : decode zb_P_init 4 = .ok (.aload_n 0, 1) := by decide +kernel
theorem zd_P_init_5 : decode zb_P_init 5 = .ok (.iload_n 1, 1) := by decide +kernel
theorem zd_P_init_6 : decode zb_P_init 6 = .ok (.putfield 7, 3) := by decide +kernel
theorem zd_P_init_9 : decode zb_P_init 9 = .ok (.aload_n 0, 1) := by decide +kernel
theorem zd_P_init_10 : decode zb_P_init 10 = .ok (.iload_n 2, 1) := by decide +kernel
theorem zd_P_init_11 : decode zb_P_init 11 = .ok (.putfield 13, 3) := by decide +kernel
theorem zd_P_init_14 : decode zb_P_init 14 = .ok (.aload_n 0, 1) := by decide +kernel
theorem zd_P_init_15 : decode zb_P_init 15 = .ok (.iload_n 3, 1) := by decide +kernel
theorem zd_P_init_16 : decode zb_P_init 16 = .ok (.putfield 16, 3) := by decide +kernel
theorem zd_P_init_19 : decode zb_P_init 19 = .ok (.aload_n 0, 1) := by decide +kernel
theorem zd_P_init_20 : decode zb_P_init 20 = .ok (.iload 4, 2) := by decide +kernel
theorem zd_P_init_22 : decode zb_P_init 22 = .ok (.putfield 19, 3) := by decide +kernel
theorem zd_P_init_25 : decode zb_P_init 25 = .ok (.return_, 1) := by decide +kernel
theorem zd_U_init_0 : decode zb_U_init 0 = .ok (.aload_n 0, 1) := by decide +kernel
theorem zd_U_init_1 : decode zb_U_init 1 = .ok (.invokespecial 3, 3) := by decide +kernel
theorem zd_U_init_4 : decode zb_U_init 4 = .ok (.aload_n 0, 1) := by decide +kernel
theorem zd_U_init_5 : decode zb_U_init 5 = .ok (.iconst (-1), 1) := by decide +kernel
theorem zd_U_init_6 : decode zb_U_init 6 = .ok (.putfield 9, 3) := by decide +kernel
theorem zd_U_init_9 : decode zb_U_init 9 = .ok (.aload_n 0, 1) := by decide +kernel
theorem zd_U_init_10 : decode zb_U_init 10 = .ok (.iconst (-1), 1) := by decide +kernel
theorem zd_U_init_11 : decode zb_U_init 11 = .ok (.putfield 15, 3) := by decide +kernel
theorem zd_U_init_14 : decode zb_U_init 14 = .ok (.aload_n 0, 1) := by decide +kernel
theorem zd_U_init_15 : decode zb_U_init 15 = .ok (.bipush 12, 2) := by decide +kernel
theorem zd_U_init_17 : decode zb_U_init 17 = .ok (.newarray .int, 2) := by decide +kernel
theorem zd_U_init_19 : decode zb_U_init 19 = .ok (.putfield 18, 3) := by decide +kernel
theorem zd_U_init_22 : decode zb_U_init 22 = .ok (.aload_n 0, 1) := by decide +kernel
theorem zd_U_init_23 : decode zb_U_init 23 = .ok (.iload_n 2, 1) := by decide +kernel
theorem zd_U_init_24 : decode zb_U_init 24 = .ok (.putfield 22, 3) := by decide +kernel
theorem zd_U_init_27 : decode zb_U_init 27 = .ok (.aload_n 0, 1) := by decide +kernel
theorem zd_U_init_28 : decode zb_U_init 28 = .ok (.iload_n 3, 1) := by decide +kernel
theorem zd_U_init_29 : decode zb_U_init 29 = .ok (.putfield 25, 3) := by decide +kernel
theorem zd_U_init_32 : decode zb_U_init 32 = .ok (.aload_n 0, 1) := by decide +kernel
theorem zd_U_init_33 : decode zb_U_init 33 = .ok (.iload_n 1, 1) := by decide +kernel
theorem zd_U_init_34 : decode zb_U_init 34 = .ok (.putfield 28, 3) := by decide +kernel
theorem zd_U_init_37 : decode zb_U_init 37 = .ok (.iconst 0, 1) := by decide +kernel
theorem zd_U_init_38 : decode zb_U_init 38 = .ok (.istore 4, 2) := by decide +kernel
theorem zd_U_init_40 : decode zb_U_init 40 = .ok (.iload 4, 2) := by decide +kernel
theorem zd_U_init_42 : decode zb_U_init 42 = .ok (.bipush 12, 2) := by decide +kernel
theorem zd_U_init_44 : decode zb_U_init 44 = .ok (.if_icmp .ge 17, 3) := by decide +kernel
theorem zd_U_init_47 : decode zb_U_init 47 = .ok (.aload_n 0, 1) := by decide +kernel
theorem zd_U_init_48 : decode zb_U_init 48 = .ok (.getfield 18, 3) := by decide +kernel
theorem zd_U_init_51 : decode zb_U_init 51 = .ok (.iload 4, 2) := by decide +kernel
theorem zd_U_init_53 : decode zb_U_init 53 = .ok (.iconst (-1), 1) := by decide +kernel
theorem zd_U_init_54 : decode zb_U_init 54 = .ok (.iastore, 1) := by decide +kernel
theorem zd_U_init_55 : decode zb_U_init 55 = .ok (.iinc 4 1, 3) := by decide +kernel
theorem zd_U_init_58 : decode zb_U_init 58 = .ok (.goto (-18), 3) := by decide +kernel
theorem zd_U_init_61 : decode zb_U_init 61 = .ok (.return_, 1) := by decide +kernel
theorem zd_L_unit_0 : decode zb_L_unit 0 = .ok (.aload_n 3, 1) := by decide +kernel
theorem zd_L_unit_1 : decode zb_L_unit 1 = .ok (.iconst 0, 1) := by decide +kernel
theorem zd_L_unit_2 : decode zb_L_unit 2 = .ok (.aload_n 0, 1) := by decide +kernel
theorem zd_L_unit_3 : decode zb_L_unit 3 = .ok (.iload_n 1, 1) := by decide +kernel
theorem zd_L_unit_4 : decode zb_L_unit 4 = .ok (.iload_n 2, 1) := by decide +kernel
theorem zd_L_unit_5 : decode zb_L_unit 5 = .ok (.invokevirtual 7, 3) := by decide +kernel
theorem zd_L_unit_8 : decode zb_L_unit 8 = .ok (.i2l, 1) := by decide +kernel
theorem zd_L_unit_9 : decode zb_L_unit 9 = .ok (.lastore, 1) := by decide +kernel
theorem zd_L_unit_10 : decode zb_L_unit 10 = .ok (.goto 11, 3) := by decide +kernel
theorem zd_L_unit_13 : decode zb_L_unit 13 = .ok (.astore 4, 2) := by decide +kernel
theorem zd_L_unit_15 : decode zb_L_unit 15 = .ok (.iconst 1, 1) := by decide +kernel
theorem zd_L_unit_16 : decode zb_L_unit 16 = .ok (.ireturn, 1) := by decide +kernel
theorem zd_L_unit_17 : decode zb_L_unit 17 = .ok (.astore 4, 2) := by decide +kernel
theorem zd_L_unit_19 : decode zb_L_unit 19 = .ok (.iconst 2, 1) := by decide +kernel
theorem zd_L_unit_20 : decode zb_L_unit 20 = .ok (.ireturn, 1) := by decide +kernel
theorem zd_L_unit_21 : decode zb_L_unit 21 = .ok (.iconst 0, 1) := by decide +kernel
theorem zd_L_unit_22 : decode zb_L_unit 22 = .ok (.ireturn, 1) := by decide +kernel
theorem zd_L_place_0 : decode zb_L_place 0 = .ok (.aload 5, 2) := by decide +kernel
theorem zd_L_place_2 : decode zb_L_place 2 = .ok (.iconst 0, 1) := by decide +kernel
theorem zd_L_place_3 : decode zb_L_place 3 = .ok (.aload_n 0, 1) := by decide +kernel
theorem zd_L_place_4 : decode zb_L_place 4 = .ok (.iload_n 1, 1) := by decide +kernel
theorem zd_L_place_5 : decode zb_L_place 5 = .ok (.iload_n 2, 1) := by decide +kernel
theorem zd_L_place_6 : decode zb_L_place 6 = .ok (.iload_n 3, 1) := by decide +kernel
theorem zd_L_place_7 : decode zb_L_place 7 = .ok (.iload 4, 2) := by decide +kernel
theorem zd_L_place_9 : decode zb_L_place 9 = .ok (.invokevirtual 17, 3) := by decide +kernel
theorem zd_L_place_12 : decode zb_L_place 12 = .ok (.i2l, 1) := by decide +kernel
theorem zd_L_place_13 : decode zb_L_place 13 = .ok (.lastore, 1) := by decide +kernel
theorem zd_L_place_14 : decode zb_L_place 14 = .ok (.goto 11, 3) := by decide +kernel
theorem zd_L_place_17 : decode zb_L_place 17 = .ok (.astore 6, 2) := by decide +kernel
theorem zd_L_place_19 : decode zb_L_place 19 = .ok (.iconst 1, 1) := by decide +kernel
theorem zd_L_place_20 : decode zb_L_place 20 = .ok (.ireturn, 1) := by decide +kernel
theorem zd_L_place_21 : decode zb_L_place 21 = .ok (.astore 6, 2) := by decide +kernel
theorem zd_L_place_23 : decode zb_L_place 23 = .ok (.iconst 2, 1) := by decide +kernel
theorem zd_L_place_24 : decode zb_L_place 24 = .ok (.ireturn, 1) := by decide +kernel
theorem zd_L_place_25 : decode zb_L_place 25 = .ok (.iconst 0, 1) := by decide +kernel
theorem zd_L_place_26 : decode zb_L_place 26 = .ok (.ireturn, 1) := by decide +kernel
theorem zd_L_weight_0 : decode zb_L_weight 0 = .ok (.aload_n 0, 1) := by decide +kernel
theorem zd_L_weight_1 : decode zb_L_weight 1 = .ok (.iload_n 1, 1) := by decide +kernel
theorem zd_L_weight_2 : decode zb_L_weight 2 = .ok (.iload_n 2, 1) := by decide +kernel
theorem zd_L_weight_3 : decode zb_L_weight 3 = .ok (.invokevirtual 21, 3) := by decide +kernel
theorem zd_L_weight_6 : decode zb_L_weight 6 = .ok (.goto 6, 3) := by decide +kernel
theorem zd_L_weight_9 : decode zb_L_weight 9 = .ok (.astore_n 3, 1) := by decide +kernel
theorem zd_L_weight_10 : decode zb_L_weight 10 = .ok (.iconst 1, 1) := by decide +kernel
theorem zd_L_weight_11 : decode zb_L_weight 11 = .ok (.ireturn, 1) := by decide +kernel
theorem zd_L_weight_12 : decode zb_L_weight 12 = .ok (.iconst 0, 1) := by decide +kernel
theorem zd_L_weight_13 : decode zb_L_weight 13 = .ok (.ireturn, 1) := by decide +kernel
theorem zd_L_fits_0 : decode zb_L_fits 0 = .ok (.aload_n 0, 1) := by decide +kernel
theorem zd_L_fits_1 : decode zb_L_fits 1 = .ok (.iload_n 1, 1) := by decide +kernel
theorem zd_L_fits_2 : decode zb_L_fits 2 = .ok (.iload_n 2, 1) := by decide +kernel
theorem zd_L_fits_3 : decode zb_L_fits 3 = .ok (.iload_n 3, 1) := by decide +kernel
theorem zd_L_fits_4 : decode zb_L_fits 4 = .ok (.invokevirtual 25, 3) := by decide +kernel
theorem zd_L_fits_7 : decode zb_L_fits 7 = .ok (.goto 7, 3) := by decide +kernel
theorem zd_L_fits_10 : decode zb_L_fits 10 = .ok (.astore 4, 2) := by decide +kernel
theorem zd_L_fits_12 : decode zb_L_fits 12 = .ok (.iconst 1, 1) := by decide +kernel
theorem zd_L_fits_13 : decode zb_L_fits 13 = .ok (.ireturn, 1) := by decide +kernel
theorem zd_L_fits_14 : decode zb_L_fits 14 = .ok (.iconst 0, 1) := by decide +kernel
theorem zd_L_fits_15 : decode zb_L_fits 15 = .ok (.ireturn, 1) := by decide +kernel
theorem zd_L_cost_0 : decode zb_L_cost 0 = .ok (.aload_n 0, 1) := by decide +kernel
theorem zd_L_cost_1 : decode zb_L_cost 1 = .ok (.iload_n 1, 1) := by decide +kernel
theorem zd_L_cost_2 : decode zb_L_cost 2 = .ok (.iload_n 2, 1) := by decide +kernel
theorem zd_L_cost_3 : decode zb_L_cost 3 = .ok (.iload_n 3, 1) := by decide +kernel
theorem zd_L_cost_4 : decode zb_L_cost 4 = .ok (.invokevirtual 31, 3) := by decide +kernel
theorem zd_L_cost_7 : decode zb_L_cost 7 = .ok (.goto 11, 3) := by decide +kernel
theorem zd_L_cost_10 : decode zb_L_cost 10 = .ok (.astore 4, 2) := by decide +kernel
theorem zd_L_cost_12 : decode zb_L_cost 12 = .ok (.iconst 1, 1) := by decide +kernel
theorem zd_L_cost_13 : decode zb_L_cost 13 = .ok (.ireturn, 1) := by decide +kernel
theorem zd_L_cost_14 : decode zb_L_cost 14 = .ok (.astore 4, 2) := by decide +kernel
theorem zd_L_cost_16 : decode zb_L_cost 16 = .ok (.iconst 2, 1) := by decide +kernel
theorem zd_L_cost_17 : decode zb_L_cost 17 = .ok (.ireturn, 1) := by decide +kernel
theorem zd_L_cost_18 : decode zb_L_cost 18 = .ok (.iconst 0, 1) := by decide +kernel
theorem zd_L_cost_19 : decode zb_L_cost 19 = .ok (.ireturn, 1) := by decide +kernel
theorem zd_L_together_0 : decode zb_L_together 0 = .ok (.aload_n 3, 1) := by decide +kernel
theorem zd_L_together_1 : decode zb_L_together 1 = .ok (.iconst 0, 1) := by decide +kernel
theorem zd_L_together_2 : decode zb_L_together 2 = .ok (.aload_n 0, 1) := by decide +kernel
theorem zd_L_together_3 : decode zb_L_together 3 = .ok (.iload_n 1, 1) := by decide +kernel
theorem zd_L_together_4 : decode zb_L_together 4 = .ok (.iload_n 2, 1) := by decide +kernel
theorem zd_L_together_5 : decode zb_L_together 5 = .ok (.invokevirtual 35, 3) := by decide +kernel
theorem zd_L_together_8 : decode zb_L_together 8 = .ok (.i2l, 1) := by decide +kernel
theorem zd_L_together_9 : decode zb_L_together 9 = .ok (.lastore, 1) := by decide +kernel
theorem zd_L_together_10 : decode zb_L_together 10 = .ok (.goto 11, 3) := by decide +kernel
theorem zd_L_together_13 : decode zb_L_together 13 = .ok (.astore 4, 2) := by decide +kernel
theorem zd_L_together_15 : decode zb_L_together 15 = .ok (.iconst 1, 1) := by decide +kernel
theorem zd_L_together_16 : decode zb_L_together 16 = .ok (.ireturn, 1) := by decide +kernel
theorem zd_L_together_17 : decode zb_L_together 17 = .ok (.astore 4, 2) := by decide +kernel
theorem zd_L_together_19 : decode zb_L_together 19 = .ok (.iconst 2, 1) := by decide +kernel
theorem zd_L_together_20 : decode zb_L_together 20 = .ok (.ireturn, 1) := by decide +kernel
theorem zd_L_together_21 : decode zb_L_together 21 = .ok (.iconst 0, 1) := by decide +kernel
theorem zd_L_together_22 : decode zb_L_together 22 = .ok (.ireturn, 1) := by decide +kernel
theorem zd_L_fix_0 : decode zb_L_fix 0 = .ok (.aload_n 0, 1) := by decide +kernel
theorem zd_L_fix_1 : decode zb_L_fix 1 = .ok (.iload_n 1, 1) := by decide +kernel
theorem zd_L_fix_2 : decode zb_L_fix 2 = .ok (.iload_n 2, 1) := by decide +kernel
theorem zd_L_fix_3 : decode zb_L_fix 3 = .ok (.invokevirtual 40, 3) := by decide +kernel
theorem zd_L_fix_6 : decode zb_L_fix 6 = .ok (.goto 9, 3) := by decide +kernel
theorem zd_L_fix_9 : decode zb_L_fix 9 = .ok (.astore_n 3, 1) := by decide +kernel
theorem zd_L_fix_10 : decode zb_L_fix 10 = .ok (.iconst 1, 1) := by decide +kernel
theorem zd_L_fix_11 : decode zb_L_fix 11 = .ok (.ireturn, 1) := by decide +kernel
theorem zd_L_fix_12 : decode zb_L_fix 12 = .ok (.astore_n 3, 1) := by decide +kernel
theorem zd_L_fix_13 : decode zb_L_fix 13 = .ok (.iconst 2, 1) := by decide +kernel
theorem zd_L_fix_14 : decode zb_L_fix 14 = .ok (.ireturn, 1) := by decide +kernel
theorem zd_L_fix_15 : decode zb_L_fix 15 = .ok (.iconst 0, 1) := by decide +kernel
theorem zd_L_fix_16 : decode zb_L_fix 16 = .ok (.ireturn, 1) := by decide +kernel
theorem zd_L_limits_0 : decode zb_L_limits 0 = .ok (.aload_n 0, 1) := by decide +kernel
theorem zd_L_limits_1 : decode zb_L_limits 1 = .ok (.iload_n 1, 1) := by decide +kernel
theorem zd_L_limits_2 : decode zb_L_limits 2 = .ok (.iload_n 2, 1) := by decide +kernel
theorem zd_L_limits_3 : decode zb_L_limits 3 = .ok (.invokevirtual 43, 3) := by decide +kernel
theorem zd_L_limits_6 : decode zb_L_limits 6 = .ok (.goto 6, 3) := by decide +kernel
theorem zd_L_limits_9 : decode zb_L_limits 9 = .ok (.astore_n 3, 1) := by decide +kernel
theorem zd_L_limits_10 : decode zb_L_limits 10 = .ok (.iconst 1, 1) := by decide +kernel
theorem zd_L_limits_11 : decode zb_L_limits 11 = .ok (.ireturn, 1) := by decide +kernel
theorem zd_L_limits_12 : decode zb_L_limits 12 = .ok (.iconst 0, 1) := by decide +kernel
theorem zd_L_limits_13 : decode zb_L_limits 13 = .ok (.ireturn, 1) := by decide +kernel
theorem zd_L_assign_0 : decode zb_L_assign 0 = .ok (.aload_n 2, 1) := by decide +kernel
theorem zd_L_assign_1 : decode zb_L_assign 1 = .ok (.iconst 0, 1) := by decide +kernel
theorem zd_L_assign_2 : decode zb_L_assign 2 = .ok (.aload_n 0, 1) := by decide +kernel
theorem zd_L_assign_3 : decode zb_L_assign 3 = .ok (.iload_n 1, 1) := by decide +kernel
theorem zd_L_assign_4 : decode zb_L_assign 4 = .ok (.invokevirtual 46, 3) := by decide +kernel
theorem zd_L_assign_7 : decode zb_L_assign 7 = .ok (.i2l, 1) := by decide +kernel
theorem zd_L_assign_8 : decode zb_L_assign 8 = .ok (.lastore, 1) := by decide +kernel
theorem zd_L_assign_9 : decode zb_L_assign 9 = .ok (.goto 6, 3) := by decide +kernel
theorem zd_L_assign_12 : decode zb_L_assign 12 = .ok (.astore_n 3, 1) := by decide +kernel
theorem zd_L_assign_13 : decode zb_L_assign 13 = .ok (.iconst 1, 1) := by decide +kernel
theorem zd_L_assign_14 : decode zb_L_assign 14 = .ok (.ireturn, 1) := by decide +kernel
theorem zd_L_assign_15 : decode zb_L_assign 15 = .ok (.iconst 0, 1) := by decide +kernel
theorem zd_L_assign_16 : decode zb_L_assign 16 = .ok (.ireturn, 1) := by decide +kernel
theorem zd_L_at_0 : decode zb_L_at 0 = .ok (.aload_n 2, 1) := by decide +kernel
theorem zd_L_at_1 : decode zb_L_at 1 = .ok (.iconst 0, 1) := by decide +kernel
theorem zd_L_at_2 : decode zb_L_at 2 = .ok (.aload_n 0, 1) := by decide +kernel
theorem zd_L_at_3 : decode zb_L_at 3 = .ok (.iload_n 1, 1) := by decide +kernel
theorem zd_L_at_4 : decode zb_L_at 4 = .ok (.invokevirtual 50, 3) := by decide +kernel
theorem zd_L_at_7 : decode zb_L_at 7 = .ok (.i2l, 1) := by decide +kernel
theorem zd_L_at_8 : decode zb_L_at 8 = .ok (.lastore, 1) := by decide +kernel
theorem zd_L_at_9 : decode zb_L_at 9 = .ok (.goto 6, 3) := by decide +kernel
theorem zd_L_at_12 : decode zb_L_at 12 = .ok (.astore_n 3, 1) := by decide +kernel
theorem zd_L_at_13 : decode zb_L_at 13 = .ok (.iconst 1, 1) := by decide +kernel
theorem zd_L_at_14 : decode zb_L_at 14 = .ok (.ireturn, 1) := by decide +kernel
theorem zd_L_at_15 : decode zb_L_at 15 = .ok (.iconst 0, 1) := by decide +kernel
theorem zd_L_at_16 : decode zb_L_at 16 = .ok (.ireturn, 1) := by decide +kernel
theorem zd_L_barred_0 : decode zb_L_barred 0 = .ok (.aload_n 2, 1) := by decide +kernel
theorem zd_L_barred_1 : decode zb_L_barred 1 = .ok (.iconst 0, 1) := by decide +kernel
theorem zd_L_barred_2 : decode zb_L_barred 2 = .ok (.aload_n 0, 1) := by decide +kernel
theorem zd_L_barred_3 : decode zb_L_barred 3 = .ok (.iload_n 1, 1) := by decide +kernel
theorem zd_L_barred_4 : decode zb_L_barred 4 = .ok (.invokevirtual 53, 3) := by decide +kernel
theorem zd_L_barred_7 : decode zb_L_barred 7 = .ok (.i2l, 1) := by decide +kernel
theorem zd_L_barred_8 : decode zb_L_barred 8 = .ok (.lastore, 1) := by decide +kernel
theorem zd_L_barred_9 : decode zb_L_barred 9 = .ok (.goto 9, 3) := by decide +kernel
theorem zd_L_barred_12 : decode zb_L_barred 12 = .ok (.astore_n 3, 1) := by decide +kernel
theorem zd_L_barred_13 : decode zb_L_barred 13 = .ok (.iconst 1, 1) := by decide +kernel
theorem zd_L_barred_14 : decode zb_L_barred 14 = .ok (.ireturn, 1) := by decide +kernel
theorem zd_L_barred_15 : decode zb_L_barred 15 = .ok (.astore_n 3, 1) := by decide +kernel
theorem zd_L_barred_16 : decode zb_L_barred 16 = .ok (.iconst 2, 1) := by decide +kernel
theorem zd_L_barred_17 : decode zb_L_barred 17 = .ok (.ireturn, 1) := by decide +kernel
theorem zd_L_barred_18 : decode zb_L_barred 18 = .ok (.iconst 0, 1) := by decide +kernel
theorem zd_L_barred_19 : decode zb_L_barred 19 = .ok (.ireturn, 1) := by decide +kernel
theorem zd_L_put_0 : decode zb_L_put 0 = .ok (.aload_n 2, 1) := by decide +kernel
theorem zd_L_put_1 : decode zb_L_put 1 = .ok (.iconst 0, 1) := by decide +kernel
theorem zd_L_put_2 : decode zb_L_put 2 = .ok (.aload_n 0, 1) := by decide +kernel
theorem zd_L_put_3 : decode zb_L_put 3 = .ok (.iload_n 1, 1) := by decide +kernel
theorem zd_L_put_4 : decode zb_L_put 4 = .ok (.invokevirtual 56, 3) := by decide +kernel
theorem zd_L_put_7 : decode zb_L_put 7 = .ok (.i2l, 1) := by decide +kernel
theorem zd_L_put_8 : decode zb_L_put 8 = .ok (.lastore, 1) := by decide +kernel
theorem zd_L_put_9 : decode zb_L_put 9 = .ok (.goto 9, 3) := by decide +kernel
theorem zd_L_put_12 : decode zb_L_put 12 = .ok (.astore_n 3, 1) := by decide +kernel
theorem zd_L_put_13 : decode zb_L_put 13 = .ok (.iconst 1, 1) := by decide +kernel
theorem zd_L_put_14 : decode zb_L_put 14 = .ok (.ireturn, 1) := by decide +kernel
theorem zd_L_put_15 : decode zb_L_put 15 = .ok (.astore_n 3, 1) := by decide +kernel
theorem zd_L_put_16 : decode zb_L_put 16 = .ok (.iconst 2, 1) := by decide +kernel
theorem zd_L_put_17 : decode zb_L_put 17 = .ok (.ireturn, 1) := by decide +kernel
theorem zd_L_put_18 : decode zb_L_put 18 = .ok (.iconst 0, 1) := by decide +kernel
theorem zd_L_put_19 : decode zb_L_put 19 = .ok (.ireturn, 1) := by decide +kernel
theorem zd_L_block_0 : decode zb_L_block 0 = .ok (.aload_n 2, 1) := by decide +kernel
theorem zd_L_block_1 : decode zb_L_block 1 = .ok (.iconst 0, 1) := by decide +kernel
theorem zd_L_block_2 : decode zb_L_block 2 = .ok (.aload_n 0, 1) := by decide +kernel
theorem zd_L_block_3 : decode zb_L_block 3 = .ok (.iload_n 1, 1) := by decide +kernel
theorem zd_L_block_4 : decode zb_L_block 4 = .ok (.invokevirtual 59, 3) := by decide +kernel
theorem zd_L_block_7 : decode zb_L_block 7 = .ok (.i2l, 1) := by decide +kernel
theorem zd_L_block_8 : decode zb_L_block 8 = .ok (.lastore, 1) := by decide +kernel
theorem zd_L_block_9 : decode zb_L_block 9 = .ok (.goto 9, 3) := by decide +kernel
theorem zd_L_block_12 : decode zb_L_block 12 = .ok (.astore_n 3, 1) := by decide +kernel
theorem zd_L_block_13 : decode zb_L_block 13 = .ok (.iconst 1, 1) := by decide +kernel
theorem zd_L_block_14 : decode zb_L_block 14 = .ok (.ireturn, 1) := by decide +kernel
theorem zd_L_block_15 : decode zb_L_block 15 = .ok (.astore_n 3, 1) := by decide +kernel
theorem zd_L_block_16 : decode zb_L_block 16 = .ok (.iconst 2, 1) := by decide +kernel
theorem zd_L_block_17 : decode zb_L_block 17 = .ok (.ireturn, 1) := by decide +kernel
theorem zd_L_block_18 : decode zb_L_block 18 = .ok (.iconst 0, 1) := by decide +kernel
theorem zd_L_block_19 : decode zb_L_block 19 = .ok (.ireturn, 1) := by decide +kernel
theorem zd_L_open_0 : decode zb_L_open 0 = .ok (.aload_n 0, 1) := by decide +kernel
theorem zd_L_open_1 : decode zb_L_open 1 = .ok (.iload_n 1, 1) := by decide +kernel
theorem zd_L_open_2 : decode zb_L_open 2 = .ok (.invokevirtual 62, 3) := by decide +kernel
theorem zd_L_open_5 : decode zb_L_open 5 = .ok (.goto 9, 3) := by decide +kernel
theorem zd_L_open_8 : decode zb_L_open 8 = .ok (.astore_n 2, 1) := by decide +kernel
theorem zd_L_open_9 : decode zb_L_open 9 = .ok (.iconst 1, 1) := by decide +kernel
theorem zd_L_open_10 : decode zb_L_open 10 = .ok (.ireturn, 1) := by decide +kernel
theorem zd_L_open_11 : decode zb_L_open 11 = .ok (.astore_n 2, 1) := by decide +kernel
theorem zd_L_open_12 : decode zb_L_open 12 = .ok (.iconst 2, 1) := by decide +kernel
theorem zd_L_open_13 : decode zb_L_open 13 = .ok (.ireturn, 1) := by decide +kernel
theorem zd_L_open_14 : decode zb_L_open 14 = .ok (.iconst 0, 1) := by decide +kernel
theorem zd_L_open_15 : decode zb_L_open 15 = .ok (.ireturn, 1) := by decide +kernel
theorem zd_L_share_0 : decode zb_L_share 0 = .ok (.aload_n 2, 1) := by decide +kernel
theorem zd_L_share_1 : decode zb_L_share 1 = .ok (.iconst 0, 1) := by decide +kernel
theorem zd_L_share_2 : decode zb_L_share 2 = .ok (.aload_n 0, 1) := by decide +kernel
theorem zd_L_share_3 : decode zb_L_share 3 = .ok (.iload_n 1, 1) := by decide +kernel
theorem zd_L_share_4 : decode zb_L_share 4 = .ok (.invokevirtual 66, 3) := by decide +kernel
theorem zd_L_share_7 : decode zb_L_share 7 = .ok (.i2l, 1) := by decide +kernel
theorem zd_L_share_8 : decode zb_L_share 8 = .ok (.lastore, 1) := by decide +kernel
theorem zd_L_share_9 : decode zb_L_share 9 = .ok (.goto 12, 3) := by decide +kernel
theorem zd_L_share_12 : decode zb_L_share 12 = .ok (.astore_n 3, 1) := by decide +kernel
theorem zd_L_share_13 : decode zb_L_share 13 = .ok (.iconst 1, 1) := by decide +kernel
theorem zd_L_share_14 : decode zb_L_share 14 = .ok (.ireturn, 1) := by decide +kernel
theorem zd_L_share_15 : decode zb_L_share 15 = .ok (.astore_n 3, 1) := by decide +kernel
theorem zd_L_share_16 : decode zb_L_share 16 = .ok (.iconst 2, 1) := by decide +kernel
theorem zd_L_share_17 : decode zb_L_share 17 = .ok (.ireturn, 1) := by decide +kernel
theorem zd_L_share_18 : decode zb_L_share 18 = .ok (.astore_n 3, 1) := by decide +kernel
theorem zd_L_share_19 : decode zb_L_share 19 = .ok (.iconst 3, 1) := by decide +kernel
theorem zd_L_share_20 : decode zb_L_share 20 = .ok (.ireturn, 1) := by decide +kernel
theorem zd_L_share_21 : decode zb_L_share 21 = .ok (.iconst 0, 1) := by decide +kernel
theorem zd_L_share_22 : decode zb_L_share 22 = .ok (.ireturn, 1) := by decide +kernel
theorem zd_L_trip_0 : decode zb_L_trip 0 = .ok (.aload_n 2, 1) := by decide +kernel
theorem zd_L_trip_1 : decode zb_L_trip 1 = .ok (.iconst 0, 1) := by decide +kernel
theorem zd_L_trip_2 : decode zb_L_trip 2 = .ok (.aload_n 0, 1) := by decide +kernel
theorem zd_L_trip_3 : decode zb_L_trip 3 = .ok (.iload_n 1, 1) := by decide +kernel
theorem zd_L_trip_4 : decode zb_L_trip 4 = .ok (.invokevirtual 71, 3) := by decide +kernel
theorem zd_L_trip_7 : decode zb_L_trip 7 = .ok (.i2l, 1) := by decide +kernel
theorem zd_L_trip_8 : decode zb_L_trip 8 = .ok (.lastore, 1) := by decide +kernel
theorem zd_L_trip_9 : decode zb_L_trip 9 = .ok (.goto 6, 3) := by decide +kernel
theorem zd_L_trip_12 : decode zb_L_trip 12 = .ok (.astore_n 3, 1) := by decide +kernel
theorem zd_L_trip_13 : decode zb_L_trip 13 = .ok (.iconst 1, 1) := by decide +kernel
theorem zd_L_trip_14 : decode zb_L_trip 14 = .ok (.ireturn, 1) := by decide +kernel
theorem zd_L_trip_15 : decode zb_L_trip 15 = .ok (.iconst 0, 1) := by decide +kernel
theorem zd_L_trip_16 : decode zb_L_trip 16 = .ok (.ireturn, 1) := by decide +kernel
theorem zd_L_told_0 : decode zb_L_told 0 = .ok (.aload_n 3, 1) := by decide +kernel
theorem zd_L_told_1 : decode zb_L_told 1 = .ok (.iconst 0, 1) := by decide +kernel
theorem zd_L_told_2 : decode zb_L_told 2 = .ok (.aload_n 0, 1) := by decide +kernel
theorem zd_L_told_3 : decode zb_L_told 3 = .ok (.iload_n 1, 1) := by decide +kernel
theorem zd_L_told_4 : decode zb_L_told 4 = .ok (.iload_n 2, 1) := by decide +kernel
theorem zd_L_told_5 : decode zb_L_told 5 = .ok (.invokevirtual 74, 3) := by decide +kernel
theorem zd_L_told_8 : decode zb_L_told 8 = .ok (.i2l, 1) := by decide +kernel
theorem zd_L_told_9 : decode zb_L_told 9 = .ok (.lastore, 1) := by decide +kernel
theorem zd_L_told_10 : decode zb_L_told 10 = .ok (.goto 11, 3) := by decide +kernel
theorem zd_L_told_13 : decode zb_L_told 13 = .ok (.astore 4, 2) := by decide +kernel
theorem zd_L_told_15 : decode zb_L_told 15 = .ok (.iconst 1, 1) := by decide +kernel
theorem zd_L_told_16 : decode zb_L_told 16 = .ok (.ireturn, 1) := by decide +kernel
theorem zd_L_told_17 : decode zb_L_told 17 = .ok (.astore 4, 2) := by decide +kernel
theorem zd_L_told_19 : decode zb_L_told 19 = .ok (.iconst 2, 1) := by decide +kernel
theorem zd_L_told_20 : decode zb_L_told 20 = .ok (.ireturn, 1) := by decide +kernel
theorem zd_L_told_21 : decode zb_L_told 21 = .ok (.iconst 0, 1) := by decide +kernel
theorem zd_L_told_22 : decode zb_L_told 22 = .ok (.ireturn, 1) := by decide +kernel
theorem zd_L_law_0 : decode code 0 = .ok (.new 8, 3) := by decide +kernel
theorem zd_L_law_3 : decode code 3 = .ok (.dup, 1) := by decide +kernel
theorem zd_L_law_4 : decode code 4 = .ok (.invokespecial 77, 3) := by decide +kernel
theorem zd_L_law_7 : decode code 7 = .ok (.astore_n 1, 1) := by decide +kernel
theorem zd_L_law_8 : decode code 8 = .ok (.new 78, 3) := by decide +kernel
theorem zd_L_law_11 : decode code 11 = .ok (.dup, 1) := by decide +kernel
theorem zd_L_law_12 : decode code 12 = .ok (.invokespecial 80, 3) := by decide +kernel
theorem zd_L_law_15 : decode code 15 = .ok (.astore_n 2, 1) := by decide +kernel
theorem zd_L_law_16 : decode code 16 = .ok (.iconst 1, 1) := by decide +kernel
theorem zd_L_law_17 : decode code 17 = .ok (.newarray .long, 2) := by decide +kernel
theorem zd_L_law_19 : decode code 19 = .ok (.astore_n 3, 1) := by decide +kernel
theorem zd_L_law_20 : decode code 20 = .ok (.iconst 0, 1) := by decide +kernel
theorem zd_L_law_21 : decode code 21 = .ok (.istore 4, 2) := by decide +kernel
theorem zd_L_law_23 : decode code 23 = .ok (.iload 4, 2) := by decide +kernel
theorem zd_L_law_25 : decode code 25 = .ok (.aload_n 0, 1) := by decide +kernel
theorem zd_L_law_26 : decode code 26 = .ok (.arraylength, 1) := by decide +kernel
theorem zd_L_law_27 : decode code 27 = .ok (.iconst 5, 1) := by decide +kernel
theorem zd_L_law_28 : decode code 28 = .ok (.isub, 1) := by decide +kernel
theorem zd_L_law_29 : decode code 29 = .ok (.if_icmp .gt 1164, 3) := by decide +kernel
theorem zd_L_law_32 : decode code 32 = .ok (.aload_n 0, 1) := by decide +kernel
theorem zd_L_law_33 : decode code 33 = .ok (.iload 4, 2) := by decide +kernel
theorem zd_L_law_35 : decode code 35 = .ok (.iaload, 1) := by decide +kernel
theorem zd_L_law_36 : decode code 36 = .ok (.bipush 31, 2) := by decide +kernel
theorem zd_L_law_38 : decode code 38 = .ok (.iand, 1) := by decide +kernel
theorem zd_L_law_39 : decode code 39 = .ok (.tableswitch 1148 0 19 #[93, 161, 253, 301, 377, 437, 505, 553, 601, 657, 713, 726, 739, 795, 851, 907, 943, 999, 1055, 1123], 93) := by decide +kernel
theorem zd_L_law_132 : decode code 132 = .ok (.aload_n 1, 1) := by decide +kernel
theorem zd_L_law_133 : decode code 133 = .ok (.aload_n 0, 1) := by decide +kernel
theorem zd_L_law_134 : decode code 134 = .ok (.iload 4, 2) := by decide +kernel
theorem zd_L_law_136 : decode code 136 = .ok (.iconst 1, 1) := by decide +kernel
theorem zd_L_law_137 : decode code 137 = .ok (.iadd, 1) := by decide +kernel
theorem zd_L_law_138 : decode code 138 = .ok (.iaload, 1) := by decide +kernel
theorem zd_L_law_139 : decode code 139 = .ok (.aload_n 0, 1) := by decide +kernel
theorem zd_L_law_140 : decode code 140 = .ok (.iload 4, 2) := by decide +kernel
theorem zd_L_law_142 : decode code 142 = .ok (.iconst 2, 1) := by decide +kernel
theorem zd_L_law_143 : decode code 143 = .ok (.iadd, 1) := by decide +kernel
theorem zd_L_law_144 : decode code 144 = .ok (.iaload, 1) := by decide +kernel
theorem zd_L_law_145 : decode code 145 = .ok (.aload_n 3, 1) := by decide +kernel
theorem zd_L_law_146 : decode code 146 = .ok (.invokestatic 81, 3) := by decide +kernel
theorem zd_L_law_149 : decode code 149 = .ok (.istore 5, 2) := by decide +kernel
theorem zd_L_law_151 : decode code 151 = .ok (.aload_n 2, 1) := by decide +kernel
theorem zd_L_law_152 : decode code 152 = .ok (.aload_n 0, 1) := by decide +kernel
theorem zd_L_law_153 : decode code 153 = .ok (.iload 4, 2) := by decide +kernel
theorem zd_L_law_155 : decode code 155 = .ok (.iconst 1, 1) := by decide +kernel
theorem zd_L_law_156 : decode code 156 = .ok (.iadd, 1) := by decide +kernel
theorem zd_L_law_157 : decode code 157 = .ok (.iaload, 1) := by decide +kernel
theorem zd_L_law_158 : decode code 158 = .ok (.aload_n 0, 1) := by decide +kernel
theorem zd_L_law_159 : decode code 159 = .ok (.iload 4, 2) := by decide +kernel
theorem zd_L_law_161 : decode code 161 = .ok (.iconst 2, 1) := by decide +kernel
theorem zd_L_law_162 : decode code 162 = .ok (.iadd, 1) := by decide +kernel
theorem zd_L_law_163 : decode code 163 = .ok (.iaload, 1) := by decide +kernel
theorem zd_L_law_164 : decode code 164 = .ok (.invokevirtual 86, 3) := by decide +kernel
theorem zd_L_law_167 : decode code 167 = .ok (.istore 6, 2) := by decide +kernel
theorem zd_L_law_169 : decode code 169 = .ok (.aload_n 2, 1) := by decide +kernel
theorem zd_L_law_170 : decode code 170 = .ok (.invokevirtual 87, 3) := by decide +kernel
theorem zd_L_law_173 : decode code 173 = .ok (.iload 5, 2) := by decide +kernel
theorem zd_L_law_175 : decode code 175 = .ok (.if_icmp .eq 5, 3) := by decide +kernel
theorem zd_L_law_178 : decode code 178 = .ok (.iconst 0, 1) := by decide +kernel
theorem zd_L_law_179 : decode code 179 = .ok (.ireturn, 1) := by decide +kernel
theorem zd_L_law_180 : decode code 180 = .ok (.iload 5, 2) := by decide +kernel
theorem zd_L_law_182 : decode code 182 = .ok (.ifCond .ne 15, 3) := by decide +kernel
theorem zd_L_law_185 : decode code 185 = .ok (.aload_n 3, 1) := by decide +kernel
theorem zd_L_law_186 : decode code 186 = .ok (.iconst 0, 1) := by decide +kernel
theorem zd_L_law_187 : decode code 187 = .ok (.laload, 1) := by decide +kernel
theorem zd_L_law_188 : decode code 188 = .ok (.iload 6, 2) := by decide +kernel
theorem zd_L_law_190 : decode code 190 = .ok (.i2l, 1) := by decide +kernel
theorem zd_L_law_191 : decode code 191 = .ok (.lcmp, 1) := by decide +kernel
theorem zd_L_law_192 : decode code 192 = .ok (.ifCond .eq 5, 3) := by decide +kernel
theorem zd_L_law_195 : decode code 195 = .ok (.iconst 0, 1) := by decide +kernel
theorem zd_L_law_196 : decode code 196 = .ok (.ireturn, 1) := by decide +kernel
theorem zd_L_law_197 : decode code 197 = .ok (.goto 990, 3) := by decide +kernel
theorem zd_L_law_200 : decode code 200 = .ok (.aload_n 1, 1) := by decide +kernel
theorem zd_L_law_201 : decode code 201 = .ok (.aload_n 0, 1) := by decide +kernel
theorem zd_L_law_202 : decode code 202 = .ok (.iload 4, 2) := by decide +kernel
theorem zd_L_law_204 : decode code 204 = .ok (.iconst 1, 1) := by decide +kernel
theorem zd_L_law_205 : decode code 205 = .ok (.iadd, 1) := by decide +kernel
theorem zd_L_law_206 : decode code 206 = .ok (.iaload, 1) := by decide +kernel
theorem zd_L_law_207 : decode code 207 = .ok (.aload_n 0, 1) := by decide +kernel
theorem zd_L_law_208 : decode code 208 = .ok (.iload 4, 2) := by decide +kernel
theorem zd_L_law_210 : decode code 210 = .ok (.iconst 2, 1) := by decide +kernel
theorem zd_L_law_211 : decode code 211 = .ok (.iadd, 1) := by decide +kernel
theorem zd_L_law_212 : decode code 212 = .ok (.iaload, 1) := by decide +kernel
theorem zd_L_law_213 : decode code 213 = .ok (.aload_n 0, 1) := by decide +kernel
theorem zd_L_law_214 : decode code 214 = .ok (.iload 4, 2) := by decide +kernel
theorem zd_L_law_216 : decode code 216 = .ok (.iconst 3, 1) := by decide +kernel
theorem zd_L_law_217 : decode code 217 = .ok (.iadd, 1) := by decide +kernel
theorem zd_L_law_218 : decode code 218 = .ok (.iaload, 1) := by decide +kernel
theorem zd_L_law_219 : decode code 219 = .ok (.aload_n 0, 1) := by decide +kernel
theorem zd_L_law_220 : decode code 220 = .ok (.iload 4, 2) := by decide +kernel
theorem zd_L_law_222 : decode code 222 = .ok (.iconst 4, 1) := by decide +kernel
theorem zd_L_law_223 : decode code 223 = .ok (.iadd, 1) := by decide +kernel
theorem zd_L_law_224 : decode code 224 = .ok (.iaload, 1) := by decide +kernel
theorem zd_L_law_225 : decode code 225 = .ok (.aload_n 3, 1) := by decide +kernel
theorem zd_L_law_226 : decode code 226 = .ok (.invokestatic 91, 3) := by decide +kernel
theorem zd_L_law_229 : decode code 229 = .ok (.istore 5, 2) := by decide +kernel
theorem zd_L_law_231 : decode code 231 = .ok (.aload_n 2, 1) := by decide +kernel
theorem zd_L_law_232 : decode code 232 = .ok (.aload_n 0, 1) := by decide +kernel
theorem zd_L_law_233 : decode code 233 = .ok (.iload 4, 2) := by decide +kernel
theorem zd_L_law_235 : decode code 235 = .ok (.iconst 1, 1) := by decide +kernel
theorem zd_L_law_236 : decode code 236 = .ok (.iadd, 1) := by decide +kernel
theorem zd_L_law_237 : decode code 237 = .ok (.iaload, 1) := by decide +kernel
theorem zd_L_law_238 : decode code 238 = .ok (.aload_n 0, 1) := by decide +kernel
theorem zd_L_law_239 : decode code 239 = .ok (.iload 4, 2) := by decide +kernel
theorem zd_L_law_241 : decode code 241 = .ok (.iconst 2, 1) := by decide +kernel
theorem zd_L_law_242 : decode code 242 = .ok (.iadd, 1) := by decide +kernel
theorem zd_L_law_243 : decode code 243 = .ok (.iaload, 1) := by decide +kernel
theorem zd_L_law_244 : decode code 244 = .ok (.aload_n 0, 1) := by decide +kernel
theorem zd_L_law_245 : decode code 245 = .ok (.iload 4, 2) := by decide +kernel
theorem zd_L_law_247 : decode code 247 = .ok (.iconst 3, 1) := by decide +kernel
theorem zd_L_law_248 : decode code 248 = .ok (.iadd, 1) := by decide +kernel
theorem zd_L_law_249 : decode code 249 = .ok (.iaload, 1) := by decide +kernel
theorem zd_L_law_250 : decode code 250 = .ok (.aload_n 0, 1) := by decide +kernel
theorem zd_L_law_251 : decode code 251 = .ok (.iload 4, 2) := by decide +kernel
theorem zd_L_law_253 : decode code 253 = .ok (.iconst 4, 1) := by decide +kernel
theorem zd_L_law_254 : decode code 254 = .ok (.iadd, 1) := by decide +kernel
theorem zd_L_law_255 : decode code 255 = .ok (.iaload, 1) := by decide +kernel
theorem zd_L_law_256 : decode code 256 = .ok (.invokevirtual 94, 3) := by decide +kernel
theorem zd_L_law_259 : decode code 259 = .ok (.istore 6, 2) := by decide +kernel
theorem zd_L_law_261 : decode code 261 = .ok (.aload_n 2, 1) := by decide +kernel
theorem zd_L_law_262 : decode code 262 = .ok (.invokevirtual 87, 3) := by decide +kernel
theorem zd_L_law_265 : decode code 265 = .ok (.iload 5, 2) := by decide +kernel
theorem zd_L_law_267 : decode code 267 = .ok (.if_icmp .eq 5, 3) := by decide +kernel
theorem zd_L_law_270 : decode code 270 = .ok (.iconst 0, 1) := by decide +kernel
theorem zd_L_law_271 : decode code 271 = .ok (.ireturn, 1) := by decide +kernel
theorem zd_L_law_272 : decode code 272 = .ok (.iload 5, 2) := by decide +kernel
theorem zd_L_law_274 : decode code 274 = .ok (.ifCond .ne 15, 3) := by decide +kernel
theorem zd_L_law_277 : decode code 277 = .ok (.aload_n 3, 1) := by decide +kernel
theorem zd_L_law_278 : decode code 278 = .ok (.iconst 0, 1) := by decide +kernel
theorem zd_L_law_279 : decode code 279 = .ok (.laload, 1) := by decide +kernel
theorem zd_L_law_280 : decode code 280 = .ok (.iload 6, 2) := by decide +kernel
theorem zd_L_law_282 : decode code 282 = .ok (.i2l, 1) := by decide +kernel
theorem zd_L_law_283 : decode code 283 = .ok (.lcmp, 1) := by decide +kernel
theorem zd_L_law_284 : decode code 284 = .ok (.ifCond .eq 5, 3) := by decide +kernel
theorem zd_L_law_287 : decode code 287 = .ok (.iconst 0, 1) := by decide +kernel
theorem zd_L_law_288 : decode code 288 = .ok (.ireturn, 1) := by decide +kernel
theorem zd_L_law_289 : decode code 289 = .ok (.goto 898, 3) := by decide +kernel
theorem zd_L_law_292 : decode code 292 = .ok (.aload_n 1, 1) := by decide +kernel
theorem zd_L_law_293 : decode code 293 = .ok (.aload_n 0, 1) := by decide +kernel
theorem zd_L_law_294 : decode code 294 = .ok (.iload 4, 2) := by decide +kernel
theorem zd_L_law_296 : decode code 296 = .ok (.iconst 1, 1) := by decide +kernel
theorem zd_L_law_297 : decode code 297 = .ok (.iadd, 1) := by decide +kernel
theorem zd_L_law_298 : decode code 298 = .ok (.iaload, 1) := by decide +kernel
theorem zd_L_law_299 : decode code 299 = .ok (.aload_n 0, 1) := by decide +kernel
theorem zd_L_law_300 : decode code 300 = .ok (.iload 4, 2) := by decide +kernel
theorem zd_L_law_302 : decode code 302 = .ok (.iconst 2, 1) := by decide +kernel
theorem zd_L_law_303 : decode code 303 = .ok (.iadd, 1) := by decide +kernel
theorem zd_L_law_304 : decode code 304 = .ok (.iaload, 1) := by decide +kernel
theorem zd_L_law_305 : decode code 305 = .ok (.invokestatic 95, 3) := by decide +kernel
theorem zd_L_law_308 : decode code 308 = .ok (.istore 5, 2) := by decide +kernel
theorem zd_L_law_310 : decode code 310 = .ok (.aload_n 2, 1) := by decide +kernel
theorem zd_L_law_311 : decode code 311 = .ok (.aload_n 0, 1) := by decide +kernel
theorem zd_L_law_312 : decode code 312 = .ok (.iload 4, 2) := by decide +kernel
theorem zd_L_law_314 : decode code 314 = .ok (.iconst 1, 1) := by decide +kernel
theorem zd_L_law_315 : decode code 315 = .ok (.iadd, 1) := by decide +kernel
theorem zd_L_law_316 : decode code 316 = .ok (.iaload, 1) := by decide +kernel
theorem zd_L_law_317 : decode code 317 = .ok (.aload_n 0, 1) := by decide +kernel
theorem zd_L_law_318 : decode code 318 = .ok (.iload 4, 2) := by decide +kernel
theorem zd_L_law_320 : decode code 320 = .ok (.iconst 2, 1) := by decide +kernel
theorem zd_L_law_321 : decode code 321 = .ok (.iadd, 1) := by decide +kernel
theorem zd_L_law_322 : decode code 322 = .ok (.iaload, 1) := by decide +kernel
theorem zd_L_law_323 : decode code 323 = .ok (.invokevirtual 98, 3) := by decide +kernel
theorem zd_L_law_326 : decode code 326 = .ok (.aload_n 2, 1) := by decide +kernel
theorem zd_L_law_327 : decode code 327 = .ok (.invokevirtual 87, 3) := by decide +kernel
theorem zd_L_law_330 : decode code 330 = .ok (.iload 5, 2) := by decide +kernel
theorem zd_L_law_332 : decode code 332 = .ok (.if_icmp .eq 5, 3) := by decide +kernel
theorem zd_L_law_335 : decode code 335 = .ok (.iconst 0, 1) := by decide +kernel
theorem zd_L_law_336 : decode code 336 = .ok (.ireturn, 1) := by decide +kernel
theorem zd_L_law_337 : decode code 337 = .ok (.goto 850, 3) := by decide +kernel
theorem zd_L_law_340 : decode code 340 = .ok (.aload_n 1, 1) := by decide +kernel
theorem zd_L_law_341 : decode code 341 = .ok (.aload_n 0, 1) := by decide +kernel
theorem zd_L_law_342 : decode code 342 = .ok (.iload 4, 2) := by decide +kernel
theorem zd_L_law_344 : decode code 344 = .ok (.iconst 1, 1) := by decide +kernel
theorem zd_L_law_345 : decode code 345 = .ok (.iadd, 1) := by decide +kernel
theorem zd_L_law_346 : decode code 346 = .ok (.iaload, 1) := by decide +kernel
theorem zd_L_law_347 : decode code 347 = .ok (.aload_n 0, 1) := by decide +kernel
theorem zd_L_law_348 : decode code 348 = .ok (.iload 4, 2) := by decide +kernel
theorem zd_L_law_350 : decode code 350 = .ok (.iconst 2, 1) := by decide +kernel
theorem zd_L_law_351 : decode code 351 = .ok (.iadd, 1) := by decide +kernel
theorem zd_L_law_352 : decode code 352 = .ok (.iaload, 1) := by decide +kernel
theorem zd_L_law_353 : decode code 353 = .ok (.aload_n 0, 1) := by decide +kernel
theorem zd_L_law_354 : decode code 354 = .ok (.iload 4, 2) := by decide +kernel
theorem zd_L_law_356 : decode code 356 = .ok (.iconst 3, 1) := by decide +kernel
theorem zd_L_law_357 : decode code 357 = .ok (.iadd, 1) := by decide +kernel
theorem zd_L_law_358 : decode code 358 = .ok (.iaload, 1) := by decide +kernel
theorem zd_L_law_359 : decode code 359 = .ok (.ifCond .eq 7, 3) := by decide +kernel
theorem zd_L_law_362 : decode code 362 = .ok (.iconst 1, 1) := by decide +kernel
theorem zd_L_law_363 : decode code 363 = .ok (.goto 4, 3) := by decide +kernel
theorem zd_L_law_366 : decode code 366 = .ok (.iconst 0, 1) := by decide +kernel
theorem zd_L_law_367 : decode code 367 = .ok (.invokestatic 99, 3) := by decide +kernel
theorem zd_L_law_370 : decode code 370 = .ok (.istore 5, 2) := by decide +kernel
theorem zd_L_law_372 : decode code 372 = .ok (.aload_n 2, 1) := by decide +kernel
theorem zd_L_law_373 : decode code 373 = .ok (.aload_n 0, 1) := by decide +kernel
theorem zd_L_law_374 : decode code 374 = .ok (.iload 4, 2) := by decide +kernel
theorem zd_L_law_376 : decode code 376 = .ok (.iconst 1, 1) := by decide +kernel
theorem zd_L_law_377 : decode code 377 = .ok (.iadd, 1) := by decide +kernel
theorem zd_L_law_378 : decode code 378 = .ok (.iaload, 1) := by decide +kernel
theorem zd_L_law_379 : decode code 379 = .ok (.aload_n 0, 1) := by decide +kernel
theorem zd_L_law_380 : decode code 380 = .ok (.iload 4, 2) := by decide +kernel
theorem zd_L_law_382 : decode code 382 = .ok (.iconst 2, 1) := by decide +kernel
theorem zd_L_law_383 : decode code 383 = .ok (.iadd, 1) := by decide +kernel
theorem zd_L_law_384 : decode code 384 = .ok (.iaload, 1) := by decide +kernel
theorem zd_L_law_385 : decode code 385 = .ok (.aload_n 0, 1) := by decide +kernel
theorem zd_L_law_386 : decode code 386 = .ok (.iload 4, 2) := by decide +kernel
theorem zd_L_law_388 : decode code 388 = .ok (.iconst 3, 1) := by decide +kernel
theorem zd_L_law_389 : decode code 389 = .ok (.iadd, 1) := by decide +kernel
theorem zd_L_law_390 : decode code 390 = .ok (.iaload, 1) := by decide +kernel
theorem zd_L_law_391 : decode code 391 = .ok (.ifCond .eq 7, 3) := by decide +kernel
theorem zd_L_law_394 : decode code 394 = .ok (.iconst 1, 1) := by decide +kernel
theorem zd_L_law_395 : decode code 395 = .ok (.goto 4, 3) := by decide +kernel
theorem zd_L_law_398 : decode code 398 = .ok (.iconst 0, 1) := by decide +kernel
theorem zd_L_law_399 : decode code 399 = .ok (.invokevirtual 102, 3) := by decide +kernel
theorem zd_L_law_402 : decode code 402 = .ok (.aload_n 2, 1) := by decide +kernel
theorem zd_L_law_403 : decode code 403 = .ok (.invokevirtual 87, 3) := by decide +kernel
theorem zd_L_law_406 : decode code 406 = .ok (.iload 5, 2) := by decide +kernel
theorem zd_L_law_408 : decode code 408 = .ok (.if_icmp .eq 5, 3) := by decide +kernel
theorem zd_L_law_411 : decode code 411 = .ok (.iconst 0, 1) := by decide +kernel
theorem zd_L_law_412 : decode code 412 = .ok (.ireturn, 1) := by decide +kernel
theorem zd_L_law_413 : decode code 413 = .ok (.goto 774, 3) := by decide +kernel
theorem zd_L_law_416 : decode code 416 = .ok (.aload_n 1, 1) := by decide +kernel
theorem zd_L_law_417 : decode code 417 = .ok (.aload_n 0, 1) := by decide +kernel
theorem zd_L_law_418 : decode code 418 = .ok (.iload 4, 2) := by decide +kernel
theorem zd_L_law_420 : decode code 420 = .ok (.iconst 1, 1) := by decide +kernel
theorem zd_L_law_421 : decode code 421 = .ok (.iadd, 1) := by decide +kernel
theorem zd_L_law_422 : decode code 422 = .ok (.iaload, 1) := by decide +kernel
theorem zd_L_law_423 : decode code 423 = .ok (.aload_n 0, 1) := by decide +kernel
theorem zd_L_law_424 : decode code 424 = .ok (.iload 4, 2) := by decide +kernel
theorem zd_L_law_426 : decode code 426 = .ok (.iconst 2, 1) := by decide +kernel
theorem zd_L_law_427 : decode code 427 = .ok (.iadd, 1) := by decide +kernel
theorem zd_L_law_428 : decode code 428 = .ok (.iaload, 1) := by decide +kernel
theorem zd_L_law_429 : decode code 429 = .ok (.aload_n 0, 1) := by decide +kernel
theorem zd_L_law_430 : decode code 430 = .ok (.iload 4, 2) := by decide +kernel
theorem zd_L_law_432 : decode code 432 = .ok (.iconst 3, 1) := by decide +kernel
theorem zd_L_law_433 : decode code 433 = .ok (.iadd, 1) := by decide +kernel
theorem zd_L_law_434 : decode code 434 = .ok (.iaload, 1) := by decide +kernel
theorem zd_L_law_435 : decode code 435 = .ok (.invokestatic 103, 3) := by decide +kernel
theorem zd_L_law_438 : decode code 438 = .ok (.istore 5, 2) := by decide +kernel
theorem zd_L_law_440 : decode code 440 = .ok (.aload_n 2, 1) := by decide +kernel
theorem zd_L_law_441 : decode code 441 = .ok (.aload_n 0, 1) := by decide +kernel
theorem zd_L_law_442 : decode code 442 = .ok (.iload 4, 2) := by decide +kernel
theorem zd_L_law_444 : decode code 444 = .ok (.iconst 1, 1) := by decide +kernel
theorem zd_L_law_445 : decode code 445 = .ok (.iadd, 1) := by decide +kernel
theorem zd_L_law_446 : decode code 446 = .ok (.iaload, 1) := by decide +kernel
theorem zd_L_law_447 : decode code 447 = .ok (.aload_n 0, 1) := by decide +kernel
theorem zd_L_law_448 : decode code 448 = .ok (.iload 4, 2) := by decide +kernel
theorem zd_L_law_450 : decode code 450 = .ok (.iconst 2, 1) := by decide +kernel
theorem zd_L_law_451 : decode code 451 = .ok (.iadd, 1) := by decide +kernel
theorem zd_L_law_452 : decode code 452 = .ok (.iaload, 1) := by decide +kernel
theorem zd_L_law_453 : decode code 453 = .ok (.aload_n 0, 1) := by decide +kernel
theorem zd_L_law_454 : decode code 454 = .ok (.iload 4, 2) := by decide +kernel
theorem zd_L_law_456 : decode code 456 = .ok (.iconst 3, 1) := by decide +kernel
theorem zd_L_law_457 : decode code 457 = .ok (.iadd, 1) := by decide +kernel
theorem zd_L_law_458 : decode code 458 = .ok (.iaload, 1) := by decide +kernel
theorem zd_L_law_459 : decode code 459 = .ok (.invokevirtual 106, 3) := by decide +kernel
theorem zd_L_law_462 : decode code 462 = .ok (.aload_n 2, 1) := by decide +kernel
theorem zd_L_law_463 : decode code 463 = .ok (.invokevirtual 87, 3) := by decide +kernel
theorem zd_L_law_466 : decode code 466 = .ok (.iload 5, 2) := by decide +kernel
theorem zd_L_law_468 : decode code 468 = .ok (.if_icmp .eq 5, 3) := by decide +kernel
theorem zd_L_law_471 : decode code 471 = .ok (.iconst 0, 1) := by decide +kernel
theorem zd_L_law_472 : decode code 472 = .ok (.ireturn, 1) := by decide +kernel
theorem zd_L_law_473 : decode code 473 = .ok (.goto 714, 3) := by decide +kernel
theorem zd_L_law_476 : decode code 476 = .ok (.aload_n 1, 1) := by decide +kernel
theorem zd_L_law_477 : decode code 477 = .ok (.aload_n 0, 1) := by decide +kernel
theorem zd_L_law_478 : decode code 478 = .ok (.iload 4, 2) := by decide +kernel
theorem zd_L_law_480 : decode code 480 = .ok (.iconst 1, 1) := by decide +kernel
theorem zd_L_law_481 : decode code 481 = .ok (.iadd, 1) := by decide +kernel
theorem zd_L_law_482 : decode code 482 = .ok (.iaload, 1) := by decide +kernel
theorem zd_L_law_483 : decode code 483 = .ok (.aload_n 0, 1) := by decide +kernel
theorem zd_L_law_484 : decode code 484 = .ok (.iload 4, 2) := by decide +kernel
theorem zd_L_law_486 : decode code 486 = .ok (.iconst 2, 1) := by decide +kernel
theorem zd_L_law_487 : decode code 487 = .ok (.iadd, 1) := by decide +kernel
theorem zd_L_law_488 : decode code 488 = .ok (.iaload, 1) := by decide +kernel
theorem zd_L_law_489 : decode code 489 = .ok (.aload_n 3, 1) := by decide +kernel
theorem zd_L_law_490 : decode code 490 = .ok (.invokestatic 107, 3) := by decide +kernel
theorem zd_L_law_493 : decode code 493 = .ok (.istore 5, 2) := by decide +kernel
theorem zd_L_law_495 : decode code 495 = .ok (.aload_n 2, 1) := by decide +kernel
theorem zd_L_law_496 : decode code 496 = .ok (.aload_n 0, 1) := by decide +kernel
theorem zd_L_law_497 : decode code 497 = .ok (.iload 4, 2) := by decide +kernel
theorem zd_L_law_499 : decode code 499 = .ok (.iconst 1, 1) := by decide +kernel
theorem zd_L_law_500 : decode code 500 = .ok (.iadd, 1) := by decide +kernel
theorem zd_L_law_501 : decode code 501 = .ok (.iaload, 1) := by decide +kernel
theorem zd_L_law_502 : decode code 502 = .ok (.aload_n 0, 1) := by decide +kernel
theorem zd_L_law_503 : decode code 503 = .ok (.iload 4, 2) := by decide +kernel
theorem zd_L_law_505 : decode code 505 = .ok (.iconst 2, 1) := by decide +kernel
theorem zd_L_law_506 : decode code 506 = .ok (.iadd, 1) := by decide +kernel
theorem zd_L_law_507 : decode code 507 = .ok (.iaload, 1) := by decide +kernel
theorem zd_L_law_508 : decode code 508 = .ok (.invokevirtual 109, 3) := by decide +kernel
theorem zd_L_law_511 : decode code 511 = .ok (.istore 6, 2) := by decide +kernel
theorem zd_L_law_513 : decode code 513 = .ok (.aload_n 2, 1) := by decide +kernel
theorem zd_L_law_514 : decode code 514 = .ok (.invokevirtual 87, 3) := by decide +kernel
theorem zd_L_law_517 : decode code 517 = .ok (.iload 5, 2) := by decide +kernel
theorem zd_L_law_519 : decode code 519 = .ok (.if_icmp .eq 5, 3) := by decide +kernel
theorem zd_L_law_522 : decode code 522 = .ok (.iconst 0, 1) := by decide +kernel
theorem zd_L_law_523 : decode code 523 = .ok (.ireturn, 1) := by decide +kernel
theorem zd_L_law_524 : decode code 524 = .ok (.iload 5, 2) := by decide +kernel
theorem zd_L_law_526 : decode code 526 = .ok (.ifCond .ne 15, 3) := by decide +kernel
theorem zd_L_law_529 : decode code 529 = .ok (.aload_n 3, 1) := by decide +kernel
theorem zd_L_law_530 : decode code 530 = .ok (.iconst 0, 1) := by decide +kernel
theorem zd_L_law_531 : decode code 531 = .ok (.laload, 1) := by decide +kernel
theorem zd_L_law_532 : decode code 532 = .ok (.iload 6, 2) := by decide +kernel
theorem zd_L_law_534 : decode code 534 = .ok (.i2l, 1) := by decide +kernel
theorem zd_L_law_535 : decode code 535 = .ok (.lcmp, 1) := by decide +kernel
theorem zd_L_law_536 : decode code 536 = .ok (.ifCond .eq 5, 3) := by decide +kernel
theorem zd_L_law_539 : decode code 539 = .ok (.iconst 0, 1) := by decide +kernel
theorem zd_L_law_540 : decode code 540 = .ok (.ireturn, 1) := by decide +kernel
theorem zd_L_law_541 : decode code 541 = .ok (.goto 646, 3) := by decide +kernel
theorem zd_L_law_544 : decode code 544 = .ok (.aload_n 1, 1) := by decide +kernel
theorem zd_L_law_545 : decode code 545 = .ok (.aload_n 0, 1) := by decide +kernel
theorem zd_L_law_546 : decode code 546 = .ok (.iload 4, 2) := by decide +kernel
theorem zd_L_law_548 : decode code 548 = .ok (.iconst 1, 1) := by decide +kernel
theorem zd_L_law_549 : decode code 549 = .ok (.iadd, 1) := by decide +kernel
theorem zd_L_law_550 : decode code 550 = .ok (.iaload, 1) := by decide +kernel
theorem zd_L_law_551 : decode code 551 = .ok (.aload_n 0, 1) := by decide +kernel
theorem zd_L_law_552 : decode code 552 = .ok (.iload 4, 2) := by decide +kernel
theorem zd_L_law_554 : decode code 554 = .ok (.iconst 2, 1) := by decide +kernel
theorem zd_L_law_555 : decode code 555 = .ok (.iadd, 1) := by decide +kernel
theorem zd_L_law_556 : decode code 556 = .ok (.iaload, 1) := by decide +kernel
theorem zd_L_law_557 : decode code 557 = .ok (.invokestatic 110, 3) := by decide +kernel
theorem zd_L_law_560 : decode code 560 = .ok (.istore 5, 2) := by decide +kernel
theorem zd_L_law_562 : decode code 562 = .ok (.aload_n 2, 1) := by decide +kernel
theorem zd_L_law_563 : decode code 563 = .ok (.aload_n 0, 1) := by decide +kernel
theorem zd_L_law_564 : decode code 564 = .ok (.iload 4, 2) := by decide +kernel
theorem zd_L_law_566 : decode code 566 = .ok (.iconst 1, 1) := by decide +kernel
theorem zd_L_law_567 : decode code 567 = .ok (.iadd, 1) := by decide +kernel
theorem zd_L_law_568 : decode code 568 = .ok (.iaload, 1) := by decide +kernel
theorem zd_L_law_569 : decode code 569 = .ok (.aload_n 0, 1) := by decide +kernel
theorem zd_L_law_570 : decode code 570 = .ok (.iload 4, 2) := by decide +kernel
theorem zd_L_law_572 : decode code 572 = .ok (.iconst 2, 1) := by decide +kernel
theorem zd_L_law_573 : decode code 573 = .ok (.iadd, 1) := by decide +kernel
theorem zd_L_law_574 : decode code 574 = .ok (.iaload, 1) := by decide +kernel
theorem zd_L_law_575 : decode code 575 = .ok (.invokevirtual 112, 3) := by decide +kernel
theorem zd_L_law_578 : decode code 578 = .ok (.aload_n 2, 1) := by decide +kernel
theorem zd_L_law_579 : decode code 579 = .ok (.invokevirtual 87, 3) := by decide +kernel
theorem zd_L_law_582 : decode code 582 = .ok (.iload 5, 2) := by decide +kernel
theorem zd_L_law_584 : decode code 584 = .ok (.if_icmp .eq 5, 3) := by decide +kernel
theorem zd_L_law_587 : decode code 587 = .ok (.iconst 0, 1) := by decide +kernel
theorem zd_L_law_588 : decode code 588 = .ok (.ireturn, 1) := by decide +kernel
theorem zd_L_law_589 : decode code 589 = .ok (.goto 598, 3) := by decide +kernel
theorem zd_L_law_592 : decode code 592 = .ok (.aload_n 1, 1) := by decide +kernel
theorem zd_L_law_593 : decode code 593 = .ok (.aload_n 0, 1) := by decide +kernel
theorem zd_L_law_594 : decode code 594 = .ok (.iload 4, 2) := by decide +kernel
theorem zd_L_law_596 : decode code 596 = .ok (.iconst 1, 1) := by decide +kernel
theorem zd_L_law_597 : decode code 597 = .ok (.iadd, 1) := by decide +kernel
theorem zd_L_law_598 : decode code 598 = .ok (.iaload, 1) := by decide +kernel
theorem zd_L_law_599 : decode code 599 = .ok (.aload_n 0, 1) := by decide +kernel
theorem zd_L_law_600 : decode code 600 = .ok (.iload 4, 2) := by decide +kernel
theorem zd_L_law_602 : decode code 602 = .ok (.iconst 2, 1) := by decide +kernel
theorem zd_L_law_603 : decode code 603 = .ok (.iadd, 1) := by decide +kernel
theorem zd_L_law_604 : decode code 604 = .ok (.iaload, 1) := by decide +kernel
theorem zd_L_law_605 : decode code 605 = .ok (.invokestatic 113, 3) := by decide +kernel
theorem zd_L_law_608 : decode code 608 = .ok (.istore 5, 2) := by decide +kernel
theorem zd_L_law_610 : decode code 610 = .ok (.aload_n 2, 1) := by decide +kernel
theorem zd_L_law_611 : decode code 611 = .ok (.aload_n 0, 1) := by decide +kernel
theorem zd_L_law_612 : decode code 612 = .ok (.iload 4, 2) := by decide +kernel
theorem zd_L_law_614 : decode code 614 = .ok (.iconst 1, 1) := by decide +kernel
theorem zd_L_law_615 : decode code 615 = .ok (.iadd, 1) := by decide +kernel
theorem zd_L_law_616 : decode code 616 = .ok (.iaload, 1) := by decide +kernel
theorem zd_L_law_617 : decode code 617 = .ok (.aload_n 0, 1) := by decide +kernel
theorem zd_L_law_618 : decode code 618 = .ok (.iload 4, 2) := by decide +kernel
theorem zd_L_law_620 : decode code 620 = .ok (.iconst 2, 1) := by decide +kernel
theorem zd_L_law_621 : decode code 621 = .ok (.iadd, 1) := by decide +kernel
theorem zd_L_law_622 : decode code 622 = .ok (.iaload, 1) := by decide +kernel
theorem zd_L_law_623 : decode code 623 = .ok (.invokevirtual 115, 3) := by decide +kernel
theorem zd_L_law_626 : decode code 626 = .ok (.aload_n 2, 1) := by decide +kernel
theorem zd_L_law_627 : decode code 627 = .ok (.invokevirtual 87, 3) := by decide +kernel
theorem zd_L_law_630 : decode code 630 = .ok (.iload 5, 2) := by decide +kernel
theorem zd_L_law_632 : decode code 632 = .ok (.if_icmp .eq 5, 3) := by decide +kernel
theorem zd_L_law_635 : decode code 635 = .ok (.iconst 0, 1) := by decide +kernel
theorem zd_L_law_636 : decode code 636 = .ok (.ireturn, 1) := by decide +kernel
theorem zd_L_law_637 : decode code 637 = .ok (.goto 550, 3) := by decide +kernel
theorem zd_L_law_640 : decode code 640 = .ok (.aload_n 1, 1) := by decide +kernel
theorem zd_L_law_641 : decode code 641 = .ok (.aload_n 0, 1) := by decide +kernel
theorem zd_L_law_642 : decode code 642 = .ok (.iload 4, 2) := by decide +kernel
theorem zd_L_law_644 : decode code 644 = .ok (.iconst 1, 1) := by decide +kernel
theorem zd_L_law_645 : decode code 645 = .ok (.iadd, 1) := by decide +kernel
theorem zd_L_law_646 : decode code 646 = .ok (.iaload, 1) := by decide +kernel
theorem zd_L_law_647 : decode code 647 = .ok (.aload_n 3, 1) := by decide +kernel
theorem zd_L_law_648 : decode code 648 = .ok (.invokestatic 116, 3) := by decide +kernel
theorem zd_L_law_651 : decode code 651 = .ok (.istore 5, 2) := by decide +kernel
theorem zd_L_law_653 : decode code 653 = .ok (.aload_n 2, 1) := by decide +kernel
theorem zd_L_law_654 : decode code 654 = .ok (.aload_n 0, 1) := by decide +kernel
theorem zd_L_law_655 : decode code 655 = .ok (.iload 4, 2) := by decide +kernel
theorem zd_L_law_657 : decode code 657 = .ok (.iconst 1, 1) := by decide +kernel
theorem zd_L_law_658 : decode code 658 = .ok (.iadd, 1) := by decide +kernel
theorem zd_L_law_659 : decode code 659 = .ok (.iaload, 1) := by decide +kernel
theorem zd_L_law_660 : decode code 660 = .ok (.invokevirtual 119, 3) := by decide +kernel
theorem zd_L_law_663 : decode code 663 = .ok (.istore 6, 2) := by decide +kernel
theorem zd_L_law_665 : decode code 665 = .ok (.aload_n 2, 1) := by decide +kernel
theorem zd_L_law_666 : decode code 666 = .ok (.invokevirtual 87, 3) := by decide +kernel
theorem zd_L_law_669 : decode code 669 = .ok (.iload 5, 2) := by decide +kernel
theorem zd_L_law_671 : decode code 671 = .ok (.if_icmp .eq 5, 3) := by decide +kernel
theorem zd_L_law_674 : decode code 674 = .ok (.iconst 0, 1) := by decide +kernel
theorem zd_L_law_675 : decode code 675 = .ok (.ireturn, 1) := by decide +kernel
theorem zd_L_law_676 : decode code 676 = .ok (.iload 5, 2) := by decide +kernel
theorem zd_L_law_678 : decode code 678 = .ok (.ifCond .ne 15, 3) := by decide +kernel
theorem zd_L_law_681 : decode code 681 = .ok (.aload_n 3, 1) := by decide +kernel
theorem zd_L_law_682 : decode code 682 = .ok (.iconst 0, 1) := by decide +kernel
theorem zd_L_law_683 : decode code 683 = .ok (.laload, 1) := by decide +kernel
theorem zd_L_law_684 : decode code 684 = .ok (.iload 6, 2) := by decide +kernel
theorem zd_L_law_686 : decode code 686 = .ok (.i2l, 1) := by decide +kernel
theorem zd_L_law_687 : decode code 687 = .ok (.lcmp, 1) := by decide +kernel
theorem zd_L_law_688 : decode code 688 = .ok (.ifCond .eq 5, 3) := by decide +kernel
theorem zd_L_law_691 : decode code 691 = .ok (.iconst 0, 1) := by decide +kernel
theorem zd_L_law_692 : decode code 692 = .ok (.ireturn, 1) := by decide +kernel
theorem zd_L_law_693 : decode code 693 = .ok (.goto 494, 3) := by decide +kernel
theorem zd_L_law_696 : decode code 696 = .ok (.aload_n 1, 1) := by decide +kernel
theorem zd_L_law_697 : decode code 697 = .ok (.aload_n 0, 1) := by decide +kernel
theorem zd_L_law_698 : decode code 698 = .ok (.iload 4, 2) := by decide +kernel
theorem zd_L_law_700 : decode code 700 = .ok (.iconst 1, 1) := by decide +kernel
theorem zd_L_law_701 : decode code 701 = .ok (.iadd, 1) := by decide +kernel
theorem zd_L_law_702 : decode code 702 = .ok (.iaload, 1) := by decide +kernel
theorem zd_L_law_703 : decode code 703 = .ok (.aload_n 3, 1) := by decide +kernel
theorem zd_L_law_704 : decode code 704 = .ok (.invokestatic 120, 3) := by decide +kernel
theorem zd_L_law_707 : decode code 707 = .ok (.istore 5, 2) := by decide +kernel
theorem zd_L_law_709 : decode code 709 = .ok (.aload_n 2, 1) := by decide +kernel
theorem zd_L_law_710 : decode code 710 = .ok (.aload_n 0, 1) := by decide +kernel
theorem zd_L_law_711 : decode code 711 = .ok (.iload 4, 2) := by decide +kernel
theorem zd_L_law_713 : decode code 713 = .ok (.iconst 1, 1) := by decide +kernel
theorem zd_L_law_714 : decode code 714 = .ok (.iadd, 1) := by decide +kernel
theorem zd_L_law_715 : decode code 715 = .ok (.iaload, 1) := by decide +kernel
theorem zd_L_law_716 : decode code 716 = .ok (.invokevirtual 122, 3) := by decide +kernel
theorem zd_L_law_719 : decode code 719 = .ok (.istore 6, 2) := by decide +kernel
theorem zd_L_law_721 : decode code 721 = .ok (.aload_n 2, 1) := by decide +kernel
theorem zd_L_law_722 : decode code 722 = .ok (.invokevirtual 87, 3) := by decide +kernel
theorem zd_L_law_725 : decode code 725 = .ok (.iload 5, 2) := by decide +kernel
theorem zd_L_law_727 : decode code 727 = .ok (.if_icmp .eq 5, 3) := by decide +kernel
theorem zd_L_law_730 : decode code 730 = .ok (.iconst 0, 1) := by decide +kernel
theorem zd_L_law_731 : decode code 731 = .ok (.ireturn, 1) := by decide +kernel
theorem zd_L_law_732 : decode code 732 = .ok (.iload 5, 2) := by decide +kernel
theorem zd_L_law_734 : decode code 734 = .ok (.ifCond .ne 15, 3) := by decide +kernel
theorem zd_L_law_737 : decode code 737 = .ok (.aload_n 3, 1) := by decide +kernel
theorem zd_L_law_738 : decode code 738 = .ok (.iconst 0, 1) := by decide +kernel
theorem zd_L_law_739 : decode code 739 = .ok (.laload, 1) := by decide +kernel
theorem zd_L_law_740 : decode code 740 = .ok (.iload 6, 2) := by decide +kernel
theorem zd_L_law_742 : decode code 742 = .ok (.i2l, 1) := by decide +kernel
theorem zd_L_law_743 : decode code 743 = .ok (.lcmp, 1) := by decide +kernel
theorem zd_L_law_744 : decode code 744 = .ok (.ifCond .eq 5, 3) := by decide +kernel
theorem zd_L_law_747 : decode code 747 = .ok (.iconst 0, 1) := by decide +kernel
theorem zd_L_law_748 : decode code 748 = .ok (.ireturn, 1) := by decide +kernel
theorem zd_L_law_749 : decode code 749 = .ok (.goto 438, 3) := by decide +kernel
theorem zd_L_law_752 : decode code 752 = .ok (.aload_n 1, 1) := by decide +kernel
theorem zd_L_law_753 : decode code 753 = .ok (.invokevirtual 123, 3) := by decide +kernel
theorem zd_L_law_756 : decode code 756 = .ok (.aload_n 2, 1) := by decide +kernel
theorem zd_L_law_757 : decode code 757 = .ok (.invokevirtual 127, 3) := by decide +kernel
theorem zd_L_law_760 : decode code 760 = .ok (.if_icmp .eq 427, 3) := by decide +kernel
theorem zd_L_law_763 : decode code 763 = .ok (.iconst 0, 1) := by decide +kernel
theorem zd_L_law_764 : decode code 764 = .ok (.ireturn, 1) := by decide +kernel
theorem zd_L_law_765 : decode code 765 = .ok (.aload_n 1, 1) := by decide +kernel
theorem zd_L_law_766 : decode code 766 = .ok (.invokevirtual 128, 3) := by decide +kernel
theorem zd_L_law_769 : decode code 769 = .ok (.aload_n 2, 1) := by decide +kernel
theorem zd_L_law_770 : decode code 770 = .ok (.invokevirtual 131, 3) := by decide +kernel
theorem zd_L_law_773 : decode code 773 = .ok (.if_icmp .eq 414, 3) := by decide +kernel
theorem zd_L_law_776 : decode code 776 = .ok (.iconst 0, 1) := by decide +kernel
theorem zd_L_law_777 : decode code 777 = .ok (.ireturn, 1) := by decide +kernel
theorem zd_L_law_778 : decode code 778 = .ok (.aload_n 1, 1) := by decide +kernel
theorem zd_L_law_779 : decode code 779 = .ok (.aload_n 0, 1) := by decide +kernel
theorem zd_L_law_780 : decode code 780 = .ok (.iload 4, 2) := by decide +kernel
theorem zd_L_law_782 : decode code 782 = .ok (.iconst 1, 1) := by decide +kernel
theorem zd_L_law_783 : decode code 783 = .ok (.iadd, 1) := by decide +kernel
theorem zd_L_law_784 : decode code 784 = .ok (.iaload, 1) := by decide +kernel
theorem zd_L_law_785 : decode code 785 = .ok (.aload_n 3, 1) := by decide +kernel
theorem zd_L_law_786 : decode code 786 = .ok (.invokestatic 132, 3) := by decide +kernel
theorem zd_L_law_789 : decode code 789 = .ok (.istore 5, 2) := by decide +kernel
theorem zd_L_law_791 : decode code 791 = .ok (.aload_n 2, 1) := by decide +kernel
theorem zd_L_law_792 : decode code 792 = .ok (.aload_n 0, 1) := by decide +kernel
theorem zd_L_law_793 : decode code 793 = .ok (.iload 4, 2) := by decide +kernel
theorem zd_L_law_795 : decode code 795 = .ok (.iconst 1, 1) := by decide +kernel
theorem zd_L_law_796 : decode code 796 = .ok (.iadd, 1) := by decide +kernel
theorem zd_L_law_797 : decode code 797 = .ok (.iaload, 1) := by decide +kernel
theorem zd_L_law_798 : decode code 798 = .ok (.invokevirtual 134, 3) := by decide +kernel
theorem zd_L_law_801 : decode code 801 = .ok (.istore 6, 2) := by decide +kernel
theorem zd_L_law_803 : decode code 803 = .ok (.aload_n 2, 1) := by decide +kernel
theorem zd_L_law_804 : decode code 804 = .ok (.invokevirtual 87, 3) := by decide +kernel
theorem zd_L_law_807 : decode code 807 = .ok (.iload 5, 2) := by decide +kernel
theorem zd_L_law_809 : decode code 809 = .ok (.if_icmp .eq 5, 3) := by decide +kernel
theorem zd_L_law_812 : decode code 812 = .ok (.iconst 0, 1) := by decide +kernel
theorem zd_L_law_813 : decode code 813 = .ok (.ireturn, 1) := by decide +kernel
theorem zd_L_law_814 : decode code 814 = .ok (.iload 5, 2) := by decide +kernel
theorem zd_L_law_816 : decode code 816 = .ok (.ifCond .ne 15, 3) := by decide +kernel
theorem zd_L_law_819 : decode code 819 = .ok (.aload_n 3, 1) := by decide +kernel
theorem zd_L_law_820 : decode code 820 = .ok (.iconst 0, 1) := by decide +kernel
theorem zd_L_law_821 : decode code 821 = .ok (.laload, 1) := by decide +kernel
theorem zd_L_law_822 : decode code 822 = .ok (.iload 6, 2) := by decide +kernel
theorem zd_L_law_824 : decode code 824 = .ok (.i2l, 1) := by decide +kernel
theorem zd_L_law_825 : decode code 825 = .ok (.lcmp, 1) := by decide +kernel
theorem zd_L_law_826 : decode code 826 = .ok (.ifCond .eq 5, 3) := by decide +kernel
theorem zd_L_law_829 : decode code 829 = .ok (.iconst 0, 1) := by decide +kernel
theorem zd_L_law_830 : decode code 830 = .ok (.ireturn, 1) := by decide +kernel
theorem zd_L_law_831 : decode code 831 = .ok (.goto 356, 3) := by decide +kernel
theorem zd_L_law_834 : decode code 834 = .ok (.aload_n 1, 1) := by decide +kernel
theorem zd_L_law_835 : decode code 835 = .ok (.aload_n 0, 1) := by decide +kernel
theorem zd_L_law_836 : decode code 836 = .ok (.iload 4, 2) := by decide +kernel
theorem zd_L_law_838 : decode code 838 = .ok (.iconst 1, 1) := by decide +kernel
theorem zd_L_law_839 : decode code 839 = .ok (.iadd, 1) := by decide +kernel
theorem zd_L_law_840 : decode code 840 = .ok (.iaload, 1) := by decide +kernel
theorem zd_L_law_841 : decode code 841 = .ok (.aload_n 3, 1) := by decide +kernel
theorem zd_L_law_842 : decode code 842 = .ok (.invokestatic 135, 3) := by decide +kernel
theorem zd_L_law_845 : decode code 845 = .ok (.istore 5, 2) := by decide +kernel
theorem zd_L_law_847 : decode code 847 = .ok (.aload_n 2, 1) := by decide +kernel
theorem zd_L_law_848 : decode code 848 = .ok (.aload_n 0, 1) := by decide +kernel
theorem zd_L_law_849 : decode code 849 = .ok (.iload 4, 2) := by decide +kernel
theorem zd_L_law_851 : decode code 851 = .ok (.iconst 1, 1) := by decide +kernel
theorem zd_L_law_852 : decode code 852 = .ok (.iadd, 1) := by decide +kernel
theorem zd_L_law_853 : decode code 853 = .ok (.iaload, 1) := by decide +kernel
theorem zd_L_law_854 : decode code 854 = .ok (.invokevirtual 137, 3) := by decide +kernel
theorem zd_L_law_857 : decode code 857 = .ok (.istore 6, 2) := by decide +kernel
theorem zd_L_law_859 : decode code 859 = .ok (.aload_n 2, 1) := by decide +kernel
theorem zd_L_law_860 : decode code 860 = .ok (.invokevirtual 87, 3) := by decide +kernel
theorem zd_L_law_863 : decode code 863 = .ok (.iload 5, 2) := by decide +kernel
theorem zd_L_law_865 : decode code 865 = .ok (.if_icmp .eq 5, 3) := by decide +kernel
theorem zd_L_law_868 : decode code 868 = .ok (.iconst 0, 1) := by decide +kernel
theorem zd_L_law_869 : decode code 869 = .ok (.ireturn, 1) := by decide +kernel
theorem zd_L_law_870 : decode code 870 = .ok (.iload 5, 2) := by decide +kernel
theorem zd_L_law_872 : decode code 872 = .ok (.ifCond .ne 15, 3) := by decide +kernel
theorem zd_L_law_875 : decode code 875 = .ok (.aload_n 3, 1) := by decide +kernel
theorem zd_L_law_876 : decode code 876 = .ok (.iconst 0, 1) := by decide +kernel
theorem zd_L_law_877 : decode code 877 = .ok (.laload, 1) := by decide +kernel
theorem zd_L_law_878 : decode code 878 = .ok (.iload 6, 2) := by decide +kernel
theorem zd_L_law_880 : decode code 880 = .ok (.i2l, 1) := by decide +kernel
theorem zd_L_law_881 : decode code 881 = .ok (.lcmp, 1) := by decide +kernel
theorem zd_L_law_882 : decode code 882 = .ok (.ifCond .eq 5, 3) := by decide +kernel
theorem zd_L_law_885 : decode code 885 = .ok (.iconst 0, 1) := by decide +kernel
theorem zd_L_law_886 : decode code 886 = .ok (.ireturn, 1) := by decide +kernel
theorem zd_L_law_887 : decode code 887 = .ok (.goto 300, 3) := by decide +kernel
theorem zd_L_law_890 : decode code 890 = .ok (.aload_n 1, 1) := by decide +kernel
theorem zd_L_law_891 : decode code 891 = .ok (.aload_n 0, 1) := by decide +kernel
theorem zd_L_law_892 : decode code 892 = .ok (.iload 4, 2) := by decide +kernel
theorem zd_L_law_894 : decode code 894 = .ok (.iconst 1, 1) := by decide +kernel
theorem zd_L_law_895 : decode code 895 = .ok (.iadd, 1) := by decide +kernel
theorem zd_L_law_896 : decode code 896 = .ok (.iaload, 1) := by decide +kernel
theorem zd_L_law_897 : decode code 897 = .ok (.aload_n 3, 1) := by decide +kernel
theorem zd_L_law_898 : decode code 898 = .ok (.invokestatic 138, 3) := by decide +kernel
theorem zd_L_law_901 : decode code 901 = .ok (.istore 5, 2) := by decide +kernel
theorem zd_L_law_903 : decode code 903 = .ok (.aload_n 2, 1) := by decide +kernel
theorem zd_L_law_904 : decode code 904 = .ok (.aload_n 0, 1) := by decide +kernel
theorem zd_L_law_905 : decode code 905 = .ok (.iload 4, 2) := by decide +kernel
theorem zd_L_law_907 : decode code 907 = .ok (.iconst 1, 1) := by decide +kernel
theorem zd_L_law_908 : decode code 908 = .ok (.iadd, 1) := by decide +kernel
theorem zd_L_law_909 : decode code 909 = .ok (.iaload, 1) := by decide +kernel
theorem zd_L_law_910 : decode code 910 = .ok (.invokevirtual 140, 3) := by decide +kernel
theorem zd_L_law_913 : decode code 913 = .ok (.istore 6, 2) := by decide +kernel
theorem zd_L_law_915 : decode code 915 = .ok (.aload_n 2, 1) := by decide +kernel
theorem zd_L_law_916 : decode code 916 = .ok (.invokevirtual 87, 3) := by decide +kernel
theorem zd_L_law_919 : decode code 919 = .ok (.iload 5, 2) := by decide +kernel
theorem zd_L_law_921 : decode code 921 = .ok (.if_icmp .eq 5, 3) := by decide +kernel
theorem zd_L_law_924 : decode code 924 = .ok (.iconst 0, 1) := by decide +kernel
theorem zd_L_law_925 : decode code 925 = .ok (.ireturn, 1) := by decide +kernel
theorem zd_L_law_926 : decode code 926 = .ok (.iload 5, 2) := by decide +kernel
theorem zd_L_law_928 : decode code 928 = .ok (.ifCond .ne 15, 3) := by decide +kernel
theorem zd_L_law_931 : decode code 931 = .ok (.aload_n 3, 1) := by decide +kernel
theorem zd_L_law_932 : decode code 932 = .ok (.iconst 0, 1) := by decide +kernel
theorem zd_L_law_933 : decode code 933 = .ok (.laload, 1) := by decide +kernel
theorem zd_L_law_934 : decode code 934 = .ok (.iload 6, 2) := by decide +kernel
theorem zd_L_law_936 : decode code 936 = .ok (.i2l, 1) := by decide +kernel
theorem zd_L_law_937 : decode code 937 = .ok (.lcmp, 1) := by decide +kernel
theorem zd_L_law_938 : decode code 938 = .ok (.ifCond .eq 5, 3) := by decide +kernel
theorem zd_L_law_941 : decode code 941 = .ok (.iconst 0, 1) := by decide +kernel
theorem zd_L_law_942 : decode code 942 = .ok (.ireturn, 1) := by decide +kernel
theorem zd_L_law_943 : decode code 943 = .ok (.goto 244, 3) := by decide +kernel
theorem zd_L_law_946 : decode code 946 = .ok (.aload_n 1, 1) := by decide +kernel
theorem zd_L_law_947 : decode code 947 = .ok (.aload_n 0, 1) := by decide +kernel
theorem zd_L_law_948 : decode code 948 = .ok (.iload 4, 2) := by decide +kernel
theorem zd_L_law_950 : decode code 950 = .ok (.iconst 1, 1) := by decide +kernel
theorem zd_L_law_951 : decode code 951 = .ok (.iadd, 1) := by decide +kernel
theorem zd_L_law_952 : decode code 952 = .ok (.iaload, 1) := by decide +kernel
theorem zd_L_law_953 : decode code 953 = .ok (.invokestatic 141, 3) := by decide +kernel
theorem zd_L_law_956 : decode code 956 = .ok (.istore 5, 2) := by decide +kernel
theorem zd_L_law_958 : decode code 958 = .ok (.aload_n 2, 1) := by decide +kernel
theorem zd_L_law_959 : decode code 959 = .ok (.aload_n 0, 1) := by decide +kernel
theorem zd_L_law_960 : decode code 960 = .ok (.iload 4, 2) := by decide +kernel
theorem zd_L_law_962 : decode code 962 = .ok (.iconst 1, 1) := by decide +kernel
theorem zd_L_law_963 : decode code 963 = .ok (.iadd, 1) := by decide +kernel
theorem zd_L_law_964 : decode code 964 = .ok (.iaload, 1) := by decide +kernel
theorem zd_L_law_965 : decode code 965 = .ok (.invokevirtual 144, 3) := by decide +kernel
theorem zd_L_law_968 : decode code 968 = .ok (.aload_n 2, 1) := by decide +kernel
theorem zd_L_law_969 : decode code 969 = .ok (.invokevirtual 87, 3) := by decide +kernel
theorem zd_L_law_972 : decode code 972 = .ok (.iload 5, 2) := by decide +kernel
theorem zd_L_law_974 : decode code 974 = .ok (.if_icmp .eq 5, 3) := by decide +kernel
theorem zd_L_law_977 : decode code 977 = .ok (.iconst 0, 1) := by decide +kernel
theorem zd_L_law_978 : decode code 978 = .ok (.ireturn, 1) := by decide +kernel
theorem zd_L_law_979 : decode code 979 = .ok (.goto 208, 3) := by decide +kernel
theorem zd_L_law_982 : decode code 982 = .ok (.aload_n 1, 1) := by decide +kernel
theorem zd_L_law_983 : decode code 983 = .ok (.aload_n 0, 1) := by decide +kernel
theorem zd_L_law_984 : decode code 984 = .ok (.iload 4, 2) := by decide +kernel
theorem zd_L_law_986 : decode code 986 = .ok (.iconst 1, 1) := by decide +kernel
theorem zd_L_law_987 : decode code 987 = .ok (.iadd, 1) := by decide +kernel
theorem zd_L_law_988 : decode code 988 = .ok (.iaload, 1) := by decide +kernel
theorem zd_L_law_989 : decode code 989 = .ok (.aload_n 3, 1) := by decide +kernel
theorem zd_L_law_990 : decode code 990 = .ok (.invokestatic 145, 3) := by decide +kernel
theorem zd_L_law_993 : decode code 993 = .ok (.istore 5, 2) := by decide +kernel
theorem zd_L_law_995 : decode code 995 = .ok (.aload_n 2, 1) := by decide +kernel
theorem zd_L_law_996 : decode code 996 = .ok (.aload_n 0, 1) := by decide +kernel
theorem zd_L_law_997 : decode code 997 = .ok (.iload 4, 2) := by decide +kernel
theorem zd_L_law_999 : decode code 999 = .ok (.iconst 1, 1) := by decide +kernel
theorem zd_L_law_1000 : decode code 1000 = .ok (.iadd, 1) := by decide +kernel
theorem zd_L_law_1001 : decode code 1001 = .ok (.iaload, 1) := by decide +kernel
theorem zd_L_law_1002 : decode code 1002 = .ok (.invokevirtual 147, 3) := by decide +kernel
theorem zd_L_law_1005 : decode code 1005 = .ok (.istore 6, 2) := by decide +kernel
theorem zd_L_law_1007 : decode code 1007 = .ok (.aload_n 2, 1) := by decide +kernel
theorem zd_L_law_1008 : decode code 1008 = .ok (.invokevirtual 87, 3) := by decide +kernel
theorem zd_L_law_1011 : decode code 1011 = .ok (.iload 5, 2) := by decide +kernel
theorem zd_L_law_1013 : decode code 1013 = .ok (.if_icmp .eq 5, 3) := by decide +kernel
theorem zd_L_law_1016 : decode code 1016 = .ok (.iconst 0, 1) := by decide +kernel
theorem zd_L_law_1017 : decode code 1017 = .ok (.ireturn, 1) := by decide +kernel
theorem zd_L_law_1018 : decode code 1018 = .ok (.iload 5, 2) := by decide +kernel
theorem zd_L_law_1020 : decode code 1020 = .ok (.ifCond .ne 15, 3) := by decide +kernel
theorem zd_L_law_1023 : decode code 1023 = .ok (.aload_n 3, 1) := by decide +kernel
theorem zd_L_law_1024 : decode code 1024 = .ok (.iconst 0, 1) := by decide +kernel
theorem zd_L_law_1025 : decode code 1025 = .ok (.laload, 1) := by decide +kernel
theorem zd_L_law_1026 : decode code 1026 = .ok (.iload 6, 2) := by decide +kernel
theorem zd_L_law_1028 : decode code 1028 = .ok (.i2l, 1) := by decide +kernel
theorem zd_L_law_1029 : decode code 1029 = .ok (.lcmp, 1) := by decide +kernel
theorem zd_L_law_1030 : decode code 1030 = .ok (.ifCond .eq 5, 3) := by decide +kernel
theorem zd_L_law_1033 : decode code 1033 = .ok (.iconst 0, 1) := by decide +kernel
theorem zd_L_law_1034 : decode code 1034 = .ok (.ireturn, 1) := by decide +kernel
theorem zd_L_law_1035 : decode code 1035 = .ok (.goto 152, 3) := by decide +kernel
theorem zd_L_law_1038 : decode code 1038 = .ok (.aload_n 1, 1) := by decide +kernel
theorem zd_L_law_1039 : decode code 1039 = .ok (.aload_n 0, 1) := by decide +kernel
theorem zd_L_law_1040 : decode code 1040 = .ok (.iload 4, 2) := by decide +kernel
theorem zd_L_law_1042 : decode code 1042 = .ok (.iconst 1, 1) := by decide +kernel
theorem zd_L_law_1043 : decode code 1043 = .ok (.iadd, 1) := by decide +kernel
theorem zd_L_law_1044 : decode code 1044 = .ok (.iaload, 1) := by decide +kernel
theorem zd_L_law_1045 : decode code 1045 = .ok (.aload_n 3, 1) := by decide +kernel
theorem zd_L_law_1046 : decode code 1046 = .ok (.invokestatic 148, 3) := by decide +kernel
theorem zd_L_law_1049 : decode code 1049 = .ok (.istore 5, 2) := by decide +kernel
theorem zd_L_law_1051 : decode code 1051 = .ok (.aload_n 2, 1) := by decide +kernel
theorem zd_L_law_1052 : decode code 1052 = .ok (.aload_n 0, 1) := by decide +kernel
theorem zd_L_law_1053 : decode code 1053 = .ok (.iload 4, 2) := by decide +kernel
theorem zd_L_law_1055 : decode code 1055 = .ok (.iconst 1, 1) := by decide +kernel
theorem zd_L_law_1056 : decode code 1056 = .ok (.iadd, 1) := by decide +kernel
theorem zd_L_law_1057 : decode code 1057 = .ok (.iaload, 1) := by decide +kernel
theorem zd_L_law_1058 : decode code 1058 = .ok (.invokevirtual 150, 3) := by decide +kernel
theorem zd_L_law_1061 : decode code 1061 = .ok (.istore 6, 2) := by decide +kernel
theorem zd_L_law_1063 : decode code 1063 = .ok (.aload_n 2, 1) := by decide +kernel
theorem zd_L_law_1064 : decode code 1064 = .ok (.invokevirtual 87, 3) := by decide +kernel
theorem zd_L_law_1067 : decode code 1067 = .ok (.iload 5, 2) := by decide +kernel
theorem zd_L_law_1069 : decode code 1069 = .ok (.if_icmp .eq 5, 3) := by decide +kernel
theorem zd_L_law_1072 : decode code 1072 = .ok (.iconst 0, 1) := by decide +kernel
theorem zd_L_law_1073 : decode code 1073 = .ok (.ireturn, 1) := by decide +kernel
theorem zd_L_law_1074 : decode code 1074 = .ok (.iload 5, 2) := by decide +kernel
theorem zd_L_law_1076 : decode code 1076 = .ok (.ifCond .ne 15, 3) := by decide +kernel
theorem zd_L_law_1079 : decode code 1079 = .ok (.aload_n 3, 1) := by decide +kernel
theorem zd_L_law_1080 : decode code 1080 = .ok (.iconst 0, 1) := by decide +kernel
theorem zd_L_law_1081 : decode code 1081 = .ok (.laload, 1) := by decide +kernel
theorem zd_L_law_1082 : decode code 1082 = .ok (.iload 6, 2) := by decide +kernel
theorem zd_L_law_1084 : decode code 1084 = .ok (.i2l, 1) := by decide +kernel
theorem zd_L_law_1085 : decode code 1085 = .ok (.lcmp, 1) := by decide +kernel
theorem zd_L_law_1086 : decode code 1086 = .ok (.ifCond .eq 5, 3) := by decide +kernel
theorem zd_L_law_1089 : decode code 1089 = .ok (.iconst 0, 1) := by decide +kernel
theorem zd_L_law_1090 : decode code 1090 = .ok (.ireturn, 1) := by decide +kernel
theorem zd_L_law_1091 : decode code 1091 = .ok (.goto 96, 3) := by decide +kernel
theorem zd_L_law_1094 : decode code 1094 = .ok (.aload_n 1, 1) := by decide +kernel
theorem zd_L_law_1095 : decode code 1095 = .ok (.aload_n 0, 1) := by decide +kernel
theorem zd_L_law_1096 : decode code 1096 = .ok (.iload 4, 2) := by decide +kernel
theorem zd_L_law_1098 : decode code 1098 = .ok (.iconst 1, 1) := by decide +kernel
theorem zd_L_law_1099 : decode code 1099 = .ok (.iadd, 1) := by decide +kernel
theorem zd_L_law_1100 : decode code 1100 = .ok (.iaload, 1) := by decide +kernel
theorem zd_L_law_1101 : decode code 1101 = .ok (.aload_n 0, 1) := by decide +kernel
theorem zd_L_law_1102 : decode code 1102 = .ok (.iload 4, 2) := by decide +kernel
theorem zd_L_law_1104 : decode code 1104 = .ok (.iconst 2, 1) := by decide +kernel
theorem zd_L_law_1105 : decode code 1105 = .ok (.iadd, 1) := by decide +kernel
theorem zd_L_law_1106 : decode code 1106 = .ok (.iaload, 1) := by decide +kernel
theorem zd_L_law_1107 : decode code 1107 = .ok (.aload_n 3, 1) := by decide +kernel
theorem zd_L_law_1108 : decode code 1108 = .ok (.invokestatic 151, 3) := by decide +kernel
theorem zd_L_law_1111 : decode code 1111 = .ok (.istore 5, 2) := by decide +kernel
theorem zd_L_law_1113 : decode code 1113 = .ok (.aload_n 2, 1) := by decide +kernel
theorem zd_L_law_1114 : decode code 1114 = .ok (.aload_n 0, 1) := by decide +kernel
theorem zd_L_law_1115 : decode code 1115 = .ok (.iload 4, 2) := by decide +kernel
theorem zd_L_law_1117 : decode code 1117 = .ok (.iconst 1, 1) := by decide +kernel
theorem zd_L_law_1118 : decode code 1118 = .ok (.iadd, 1) := by decide +kernel
theorem zd_L_law_1119 : decode code 1119 = .ok (.iaload, 1) := by decide +kernel
theorem zd_L_law_1120 : decode code 1120 = .ok (.aload_n 0, 1) := by decide +kernel
theorem zd_L_law_1121 : decode code 1121 = .ok (.iload 4, 2) := by decide +kernel
theorem zd_L_law_1123 : decode code 1123 = .ok (.iconst 2, 1) := by decide +kernel
theorem zd_L_law_1124 : decode code 1124 = .ok (.iadd, 1) := by decide +kernel
theorem zd_L_law_1125 : decode code 1125 = .ok (.iaload, 1) := by decide +kernel
theorem zd_L_law_1126 : decode code 1126 = .ok (.invokevirtual 153, 3) := by decide +kernel
theorem zd_L_law_1129 : decode code 1129 = .ok (.istore 6, 2) := by decide +kernel
theorem zd_L_law_1131 : decode code 1131 = .ok (.aload_n 2, 1) := by decide +kernel
theorem zd_L_law_1132 : decode code 1132 = .ok (.invokevirtual 87, 3) := by decide +kernel
theorem zd_L_law_1135 : decode code 1135 = .ok (.iload 5, 2) := by decide +kernel
theorem zd_L_law_1137 : decode code 1137 = .ok (.if_icmp .eq 5, 3) := by decide +kernel
theorem zd_L_law_1140 : decode code 1140 = .ok (.iconst 0, 1) := by decide +kernel
theorem zd_L_law_1141 : decode code 1141 = .ok (.ireturn, 1) := by decide +kernel
theorem zd_L_law_1142 : decode code 1142 = .ok (.iload 5, 2) := by decide +kernel
theorem zd_L_law_1144 : decode code 1144 = .ok (.ifCond .ne 15, 3) := by decide +kernel
theorem zd_L_law_1147 : decode code 1147 = .ok (.aload_n 3, 1) := by decide +kernel
theorem zd_L_law_1148 : decode code 1148 = .ok (.iconst 0, 1) := by decide +kernel
theorem zd_L_law_1149 : decode code 1149 = .ok (.laload, 1) := by decide +kernel
theorem zd_L_law_1150 : decode code 1150 = .ok (.iload 6, 2) := by decide +kernel
theorem zd_L_law_1152 : decode code 1152 = .ok (.i2l, 1) := by decide +kernel
theorem zd_L_law_1153 : decode code 1153 = .ok (.lcmp, 1) := by decide +kernel
theorem zd_L_law_1154 : decode code 1154 = .ok (.ifCond .eq 5, 3) := by decide +kernel
theorem zd_L_law_1157 : decode code 1157 = .ok (.iconst 0, 1) := by decide +kernel
theorem zd_L_law_1158 : decode code 1158 = .ok (.ireturn, 1) := by decide +kernel
theorem zd_L_law_1159 : decode code 1159 = .ok (.goto 28, 3) := by decide +kernel
theorem zd_L_law_1162 : decode code 1162 = .ok (.aload_n 1, 1) := by decide +kernel
theorem zd_L_law_1163 : decode code 1163 = .ok (.aload_n 0, 1) := by decide +kernel
theorem zd_L_law_1164 : decode code 1164 = .ok (.iload 4, 2) := by decide +kernel
theorem zd_L_law_1166 : decode code 1166 = .ok (.iconst 1, 1) := by decide +kernel
theorem zd_L_law_1167 : decode code 1167 = .ok (.iadd, 1) := by decide +kernel
theorem zd_L_law_1168 : decode code 1168 = .ok (.iaload, 1) := by decide +kernel
theorem zd_L_law_1169 : decode code 1169 = .ok (.invokevirtual 154, 3) := by decide +kernel
theorem zd_L_law_1172 : decode code 1172 = .ok (.aload_n 2, 1) := by decide +kernel
theorem zd_L_law_1173 : decode code 1173 = .ok (.aload_n 0, 1) := by decide +kernel
theorem zd_L_law_1174 : decode code 1174 = .ok (.iload 4, 2) := by decide +kernel
theorem zd_L_law_1176 : decode code 1176 = .ok (.iconst 1, 1) := by decide +kernel
theorem zd_L_law_1177 : decode code 1177 = .ok (.iadd, 1) := by decide +kernel
theorem zd_L_law_1178 : decode code 1178 = .ok (.iaload, 1) := by decide +kernel
theorem zd_L_law_1179 : decode code 1179 = .ok (.invokevirtual 157, 3) := by decide +kernel
theorem zd_L_law_1182 : decode code 1182 = .ok (.if_icmp .eq 5, 3) := by decide +kernel
theorem zd_L_law_1185 : decode code 1185 = .ok (.iconst 0, 1) := by decide +kernel
theorem zd_L_law_1186 : decode code 1186 = .ok (.ireturn, 1) := by decide +kernel
theorem zd_L_law_1187 : decode code 1187 = .ok (.iinc 4 5, 3) := by decide +kernel
theorem zd_L_law_1190 : decode code 1190 = .ok (.goto (-1167), 3) := by decide +kernel
theorem zd_L_law_1193 : decode code 1193 = .ok (.iconst 1, 1) := by decide +kernel
theorem zd_L_law_1194 : decode code 1194 = .ok (.ireturn, 1) := by decide +kernel
