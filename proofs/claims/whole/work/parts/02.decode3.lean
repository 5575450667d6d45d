theorem d_K_isTurned_45 : decode prog_3_method_4_code 45 = .ok (.iconst 0, 1) := by decide +kernel
theorem d_K_isTurned_46 : decode prog_3_method_4_code 46 = .ok (.ireturn, 1) := by decide +kernel
theorem d_X_family_0 : decode prog_1_method_21_code 0 = .ok (.aload_n 0, 1) := by decide +kernel
theorem d_X_family_1 : decode prog_1_method_21_code 1 = .ok (.getfield 40, 3) := by decide +kernel
theorem d_X_family_4 : decode prog_1_method_21_code 4 = .ok (.aload_n 0, 1) := by decide +kernel
theorem d_X_family_5 : decode prog_1_method_21_code 5 = .ok (.getfield 12, 3) := by decide +kernel
theorem d_X_family_8 : decode prog_1_method_21_code 8 = .ok (.invokevirtual 178, 3) := by decide +kernel
theorem d_X_family_11 : decode prog_1_method_21_code 11 = .ok (.aload_n 0, 1) := by decide +kernel
theorem d_X_family_12 : decode prog_1_method_21_code 12 = .ok (.getfield 40, 3) := by decide +kernel
theorem d_X_family_15 : decode prog_1_method_21_code 15 = .ok (.getfield 184, 3) := by decide +kernel
theorem d_X_family_18 : decode prog_1_method_21_code 18 = .ok (.ireturn, 1) := by decide +kernel
theorem d_X_count_0 : decode prog_1_method_22_code 0 = .ok (.iload_n 1, 1) := by decide +kernel
theorem d_X_count_1 : decode prog_1_method_22_code 1 = .ok (.tableswitch 88 0 3 #[31, 39, 47, 77], 31) := by decide +kernel
theorem d_X_count_32 : decode prog_1_method_22_code 32 = .ok (.aload_n 0, 1) := by decide +kernel
theorem d_X_count_33 : decode prog_1_method_22_code 33 = .ok (.getfield 12, 3) := by decide +kernel
theorem d_X_count_36 : decode prog_1_method_22_code 36 = .ok (.getfield 60, 3) := by decide +kernel
theorem d_X_count_39 : decode prog_1_method_22_code 39 = .ok (.ireturn, 1) := by decide +kernel
theorem d_X_count_40 : decode prog_1_method_22_code 40 = .ok (.aload_n 0, 1) := by decide +kernel
theorem d_X_count_41 : decode prog_1_method_22_code 41 = .ok (.getfield 12, 3) := by decide +kernel
theorem d_X_count_44 : decode prog_1_method_22_code 44 = .ok (.getfield 96, 3) := by decide +kernel
theorem d_X_count_47 : decode prog_1_method_22_code 47 = .ok (.ireturn, 1) := by decide +kernel
theorem d_X_count_48 : decode prog_1_method_22_code 48 = .ok (.aload_n 0, 1) := by decide +kernel
theorem d_X_count_49 : decode prog_1_method_22_code 49 = .ok (.getfield 40, 3) := by decide +kernel
theorem d_X_count_52 : decode prog_1_method_22_code 52 = .ok (.aload_n 0, 1) := by decide +kernel
theorem d_X_count_53 : decode prog_1_method_22_code 53 = .ok (.getfield 12, 3) := by decide +kernel
theorem d_X_count_56 : decode prog_1_method_22_code 56 = .ok (.invokevirtual 178, 3) := by decide +kernel
theorem d_X_count_59 : decode prog_1_method_22_code 59 = .ok (.aload_n 0, 1) := by decide +kernel
theorem d_X_count_60 : decode prog_1_method_22_code 60 = .ok (.getfield 12, 3) := by decide +kernel
theorem d_X_count_63 : decode prog_1_method_22_code 63 = .ok (.getfield 96, 3) := by decide +kernel
theorem d_X_count_66 : decode prog_1_method_22_code 66 = .ok (.aload_n 0, 1) := by decide +kernel
theorem d_X_count_67 : decode prog_1_method_22_code 67 = .ok (.getfield 40, 3) := by decide +kernel
theorem d_X_count_70 : decode prog_1_method_22_code 70 = .ok (.getfield 187, 3) := by decide +kernel
theorem d_X_count_73 : decode prog_1_method_22_code 73 = .ok (.invokestatic 190, 3) := by decide +kernel
theorem d_X_count_76 : decode prog_1_method_22_code 76 = .ok (.isub, 1) := by decide +kernel
theorem d_X_count_77 : decode prog_1_method_22_code 77 = .ok (.ireturn, 1) := by decide +kernel
theorem d_X_count_78 : decode prog_1_method_22_code 78 = .ok (.aload_n 0, 1) := by decide +kernel
theorem d_X_count_79 : decode prog_1_method_22_code 79 = .ok (.getfield 26, 3) := by decide +kernel
theorem d_X_count_82 : decode prog_1_method_22_code 82 = .ok (.getfield 126, 3) := by decide +kernel
theorem d_X_count_85 : decode prog_1_method_22_code 85 = .ok (.invokestatic 190, 3) := by decide +kernel
theorem d_X_count_88 : decode prog_1_method_22_code 88 = .ok (.ireturn, 1) := by decide +kernel
theorem d_X_count_89 : decode prog_1_method_22_code 89 = .ok (.bipush (-2), 2) := by decide +kernel
theorem d_X_count_91 : decode prog_1_method_22_code 91 = .ok (.ireturn, 1) := by decide +kernel
theorem d_Y_init_0 : decode prog_8_method_1_code 0 = .ok (.aload_n 0, 1) := by decide +kernel
theorem d_Y_init_1 : decode prog_8_method_1_code 1 = .ok (.invokespecial 1, 3) := by decide +kernel
theorem d_Y_init_4 : decode prog_8_method_1_code 4 = .ok (.aload_n 0, 1) := by decide +kernel
theorem d_Y_init_5 : decode prog_8_method_1_code 5 = .ok (.bipush 8, 2) := by decide +kernel
theorem d_Y_init_7 : decode prog_8_method_1_code 7 = .ok (.newarray .int, 2) := by decide +kernel
theorem d_Y_init_9 : decode prog_8_method_1_code 9 = .ok (.putfield 7, 3) := by decide +kernel
theorem d_Y_init_12 : decode prog_8_method_1_code 12 = .ok (.aload_n 0, 1) := by decide +kernel
theorem d_Y_init_13 : decode prog_8_method_1_code 13 = .ok (.bipush 8, 2) := by decide +kernel
theorem d_Y_init_15 : decode prog_8_method_1_code 15 = .ok (.newarray .int, 2) := by decide +kernel
theorem d_Y_init_17 : decode prog_8_method_1_code 17 = .ok (.putfield 13, 3) := by decide +kernel
theorem d_Y_init_20 : decode prog_8_method_1_code 20 = .ok (.aload_n 0, 1) := by decide +kernel
theorem d_Y_init_21 : decode prog_8_method_1_code 21 = .ok (.sipush 1024, 3) := by decide +kernel
theorem d_Y_init_24 : decode prog_8_method_1_code 24 = .ok (.newarray .int, 2) := by decide +kernel
theorem d_Y_init_26 : decode prog_8_method_1_code 26 = .ok (.putfield 16, 3) := by decide +kernel
theorem d_Y_init_29 : decode prog_8_method_1_code 29 = .ok (.aload_n 0, 1) := by decide +kernel
theorem d_Y_init_30 : decode prog_8_method_1_code 30 = .ok (.bipush 8, 2) := by decide +kernel
theorem d_Y_init_32 : decode prog_8_method_1_code 32 = .ok (.newarray .int, 2) := by decide +kernel
theorem d_Y_init_34 : decode prog_8_method_1_code 34 = .ok (.putfield 19, 3) := by decide +kernel
theorem d_Y_init_37 : decode prog_8_method_1_code 37 = .ok (.aload_n 0, 1) := by decide +kernel
theorem d_Y_init_38 : decode prog_8_method_1_code 38 = .ok (.bipush 8, 2) := by decide +kernel
theorem d_Y_init_40 : decode prog_8_method_1_code 40 = .ok (.newarray .int, 2) := by decide +kernel
theorem d_Y_init_42 : decode prog_8_method_1_code 42 = .ok (.putfield 22, 3) := by decide +kernel
theorem d_Y_init_45 : decode prog_8_method_1_code 45 = .ok (.aload_n 0, 1) := by decide +kernel
theorem d_Y_init_46 : decode prog_8_method_1_code 46 = .ok (.bipush 8, 2) := by decide +kernel
theorem d_Y_init_48 : decode prog_8_method_1_code 48 = .ok (.newarray .int, 2) := by decide +kernel
theorem d_Y_init_50 : decode prog_8_method_1_code 50 = .ok (.putfield 25, 3) := by decide +kernel
theorem d_Y_init_53 : decode prog_8_method_1_code 53 = .ok (.aload_n 0, 1) := by decide +kernel
theorem d_Y_init_54 : decode prog_8_method_1_code 54 = .ok (.bipush 8, 2) := by decide +kernel
theorem d_Y_init_56 : decode prog_8_method_1_code 56 = .ok (.newarray .int, 2) := by decide +kernel
theorem d_Y_init_58 : decode prog_8_method_1_code 58 = .ok (.putfield 28, 3) := by decide +kernel
theorem d_Y_init_61 : decode prog_8_method_1_code 61 = .ok (.aload_n 0, 1) := by decide +kernel
theorem d_Y_init_62 : decode prog_8_method_1_code 62 = .ok (.iconst 2, 1) := by decide +kernel
theorem d_Y_init_63 : decode prog_8_method_1_code 63 = .ok (.newarray .int, 2) := by decide +kernel
theorem d_Y_init_65 : decode prog_8_method_1_code 65 = .ok (.putfield 31, 3) := by decide +kernel
theorem d_Y_init_68 : decode prog_8_method_1_code 68 = .ok (.aload_n 0, 1) := by decide +kernel
theorem d_Y_init_69 : decode prog_8_method_1_code 69 = .ok (.iconst 2, 1) := by decide +kernel
theorem d_Y_init_70 : decode prog_8_method_1_code 70 = .ok (.newarray .int, 2) := by decide +kernel
theorem d_Y_init_72 : decode prog_8_method_1_code 72 = .ok (.putfield 34, 3) := by decide +kernel
theorem d_Y_init_75 : decode prog_8_method_1_code 75 = .ok (.aload_n 0, 1) := by decide +kernel
theorem d_Y_init_76 : decode prog_8_method_1_code 76 = .ok (.iconst 2, 1) := by decide +kernel
theorem d_Y_init_77 : decode prog_8_method_1_code 77 = .ok (.newarray .int, 2) := by decide +kernel
theorem d_Y_init_79 : decode prog_8_method_1_code 79 = .ok (.putfield 37, 3) := by decide +kernel
theorem d_Y_init_82 : decode prog_8_method_1_code 82 = .ok (.aload_n 0, 1) := by decide +kernel
theorem d_Y_init_83 : decode prog_8_method_1_code 83 = .ok (.sipush 256, 3) := by decide +kernel
theorem d_Y_init_86 : decode prog_8_method_1_code 86 = .ok (.newarray .long, 2) := by decide +kernel
theorem d_Y_init_88 : decode prog_8_method_1_code 88 = .ok (.putfield 40, 3) := by decide +kernel
theorem d_Y_init_91 : decode prog_8_method_1_code 91 = .ok (.aload_n 0, 1) := by decide +kernel
theorem d_Y_init_92 : decode prog_8_method_1_code 92 = .ok (.sipush 1024, 3) := by decide +kernel
theorem d_Y_init_95 : decode prog_8_method_1_code 95 = .ok (.newarray .long, 2) := by decide +kernel
theorem d_Y_init_97 : decode prog_8_method_1_code 97 = .ok (.putfield 44, 3) := by decide +kernel
theorem d_Y_init_100 : decode prog_8_method_1_code 100 = .ok (.aload_n 0, 1) := by decide +kernel
theorem d_Y_init_101 : decode prog_8_method_1_code 101 = .ok (.sipush 16384, 3) := by decide +kernel
theorem d_Y_init_104 : decode prog_8_method_1_code 104 = .ok (.newarray .boolean, 2) := by decide +kernel
theorem d_Y_init_106 : decode prog_8_method_1_code 106 = .ok (.putfield 47, 3) := by decide +kernel
theorem d_Y_init_109 : decode prog_8_method_1_code 109 = .ok (.aload_n 0, 1) := by decide +kernel
theorem d_Y_init_110 : decode prog_8_method_1_code 110 = .ok (.bipush 10, 2) := by decide +kernel
theorem d_Y_init_112 : decode prog_8_method_1_code 112 = .ok (.newarray .int, 2) := by decide +kernel
theorem d_Y_init_114 : decode prog_8_method_1_code 114 = .ok (.putfield 51, 3) := by decide +kernel
theorem d_Y_init_117 : decode prog_8_method_1_code 117 = .ok (.aload_n 0, 1) := by decide +kernel
theorem d_Y_init_118 : decode prog_8_method_1_code 118 = .ok (.bipush 10, 2) := by decide +kernel
theorem d_Y_init_120 : decode prog_8_method_1_code 120 = .ok (.newarray .int, 2) := by decide +kernel
theorem d_Y_init_122 : decode prog_8_method_1_code 122 = .ok (.putfield 54, 3) := by decide +kernel
theorem d_Y_init_125 : decode prog_8_method_1_code 125 = .ok (.aload_n 0, 1) := by decide +kernel
theorem d_Y_init_126 : decode prog_8_method_1_code 126 = .ok (.bipush 8, 2) := by decide +kernel
theorem d_Y_init_128 : decode prog_8_method_1_code 128 = .ok (.newarray .int, 2) := by decide +kernel
theorem d_Y_init_130 : decode prog_8_method_1_code 130 = .ok (.putfield 57, 3) := by decide +kernel
theorem d_Y_init_133 : decode prog_8_method_1_code 133 = .ok (.aload_n 0, 1) := by decide +kernel
theorem d_Y_init_134 : decode prog_8_method_1_code 134 = .ok (.invokevirtual 60, 3) := by decide +kernel
theorem d_Y_init_137 : decode prog_8_method_1_code 137 = .ok (.return_, 1) := by decide +kernel
theorem d_Y_begin_0 : decode prog_8_method_2_code 0 = .ok (.aload_n 0, 1) := by decide +kernel
theorem d_Y_begin_1 : decode prog_8_method_2_code 1 = .ok (.iconst 0, 1) := by decide +kernel
theorem d_Y_begin_2 : decode prog_8_method_2_code 2 = .ok (.putfield 63, 3) := by decide +kernel
theorem d_Y_begin_5 : decode prog_8_method_2_code 5 = .ok (.aload_n 0, 1) := by decide +kernel
theorem d_Y_begin_6 : decode prog_8_method_2_code 6 = .ok (.iconst 0, 1) := by decide +kernel
theorem d_Y_begin_7 : decode prog_8_method_2_code 7 = .ok (.putfield 67, 3) := by decide +kernel
theorem d_Y_begin_10 : decode prog_8_method_2_code 10 = .ok (.aload_n 0, 1) := by decide +kernel
theorem d_Y_begin_11 : decode prog_8_method_2_code 11 = .ok (.iconst 0, 1) := by decide +kernel
theorem d_Y_begin_12 : decode prog_8_method_2_code 12 = .ok (.putfield 70, 3) := by decide +kernel
theorem d_Y_begin_15 : decode prog_8_method_2_code 15 = .ok (.aload_n 0, 1) := by decide +kernel
theorem d_Y_begin_16 : decode prog_8_method_2_code 16 = .ok (.iconst 0, 1) := by decide +kernel
theorem d_Y_begin_17 : decode prog_8_method_2_code 17 = .ok (.putfield 74, 3) := by decide +kernel
theorem d_Y_begin_20 : decode prog_8_method_2_code 20 = .ok (.iconst 0, 1) := by decide +kernel
theorem d_Y_begin_21 : decode prog_8_method_2_code 21 = .ok (.istore_n 1, 1) := by decide +kernel
theorem d_Y_begin_22 : decode prog_8_method_2_code 22 = .ok (.iload_n 1, 1) := by decide +kernel
theorem d_Y_begin_23 : decode prog_8_method_2_code 23 = .ok (.bipush 8, 2) := by decide +kernel
theorem d_Y_begin_25 : decode prog_8_method_2_code 25 = .ok (.if_icmp .ge 23, 3) := by decide +kernel
theorem d_Y_begin_28 : decode prog_8_method_2_code 28 = .ok (.aload_n 0, 1) := by decide +kernel
theorem d_Y_begin_29 : decode prog_8_method_2_code 29 = .ok (.getfield 7, 3) := by decide +kernel
theorem d_Y_begin_32 : decode prog_8_method_2_code 32 = .ok (.iload_n 1, 1) := by decide +kernel
theorem d_Y_begin_33 : decode prog_8_method_2_code 33 = .ok (.iconst 0, 1) := by decide +kernel
theorem d_Y_begin_34 : decode prog_8_method_2_code 34 = .ok (.iastore, 1) := by decide +kernel
theorem d_Y_begin_35 : decode prog_8_method_2_code 35 = .ok (.aload_n 0, 1) := by decide +kernel
theorem d_Y_begin_36 : decode prog_8_method_2_code 36 = .ok (.getfield 13, 3) := by decide +kernel
theorem d_Y_begin_39 : decode prog_8_method_2_code 39 = .ok (.iload_n 1, 1) := by decide +kernel
theorem d_Y_begin_40 : decode prog_8_method_2_code 40 = .ok (.iconst (-1), 1) := by decide +kernel
theorem d_Y_begin_41 : decode prog_8_method_2_code 41 = .ok (.iastore, 1) := by decide +kernel
theorem d_Y_begin_42 : decode prog_8_method_2_code 42 = .ok (.iinc 1 1, 3) := by decide +kernel
theorem d_Y_begin_45 : decode prog_8_method_2_code 45 = .ok (.goto (-23), 3) := by decide +kernel
theorem d_Y_begin_48 : decode prog_8_method_2_code 48 = .ok (.return_, 1) := by decide +kernel
theorem d_Y_clear_0 : decode prog_8_method_3_code 0 = .ok (.aload_n 0, 1) := by decide +kernel
theorem d_Y_clear_1 : decode prog_8_method_3_code 1 = .ok (.getfield 63, 3) := by decide +kernel
theorem d_Y_clear_4 : decode prog_8_method_3_code 4 = .ok (.istore_n 1, 1) := by decide +kernel
theorem d_Y_clear_5 : decode prog_8_method_3_code 5 = .ok (.aload_n 0, 1) := by decide +kernel
theorem d_Y_clear_6 : decode prog_8_method_3_code 6 = .ok (.invokevirtual 60, 3) := by decide +kernel
theorem d_Y_clear_9 : decode prog_8_method_3_code 9 = .ok (.iload_n 1, 1) := by decide +kernel
theorem d_Y_clear_10 : decode prog_8_method_3_code 10 = .ok (.ireturn, 1) := by decide +kernel
theorem d_Y_place_0 : decode prog_8_method_9_code 0 = .ok (.aload_n 0, 1) := by decide +kernel
theorem d_Y_place_1 : decode prog_8_method_9_code 1 = .ok (.getfield 63, 3) := by decide +kernel
theorem d_Y_place_4 : decode prog_8_method_9_code 4 = .ok (.bipush 8, 2) := by decide +kernel
theorem d_Y_place_6 : decode prog_8_method_9_code 6 = .ok (.if_icmp .ne 6, 3) := by decide +kernel
theorem d_Y_place_9 : decode prog_8_method_9_code 9 = .ok (.bipush (-3), 2) := by decide +kernel
theorem d_Y_place_11 : decode prog_8_method_9_code 11 = .ok (.ireturn, 1) := by decide +kernel
theorem d_Y_place_12 : decode prog_8_method_9_code 12 = .ok (.aload_n 0, 1) := by decide +kernel
theorem d_Y_place_13 : decode prog_8_method_9_code 13 = .ok (.getfield 63, 3) := by decide +kernel
theorem d_Y_place_16 : decode prog_8_method_9_code 16 = .ok (.istore_n 1, 1) := by decide +kernel
theorem d_Y_place_17 : decode prog_8_method_9_code 17 = .ok (.aload_n 0, 1) := by decide +kernel
theorem d_Y_place_18 : decode prog_8_method_9_code 18 = .ok (.dup, 1) := by decide +kernel
theorem d_Y_place_19 : decode prog_8_method_9_code 19 = .ok (.getfield 63, 3) := by decide +kernel
theorem d_Y_place_22 : decode prog_8_method_9_code 22 = .ok (.iconst 1, 1) := by decide +kernel
theorem d_Y_place_23 : decode prog_8_method_9_code 23 = .ok (.iadd, 1) := by decide +kernel
theorem d_Y_place_24 : decode prog_8_method_9_code 24 = .ok (.putfield 63, 3) := by decide +kernel
theorem d_Y_place_27 : decode prog_8_method_9_code 27 = .ok (.aload_n 0, 1) := by decide +kernel
theorem d_Y_place_28 : decode prog_8_method_9_code 28 = .ok (.getfield 7, 3) := by decide +kernel
theorem d_Y_place_31 : decode prog_8_method_9_code 31 = .ok (.iload_n 1, 1) := by decide +kernel
theorem d_Y_place_32 : decode prog_8_method_9_code 32 = .ok (.iconst 0, 1) := by decide +kernel
theorem d_Y_place_33 : decode prog_8_method_9_code 33 = .ok (.iastore, 1) := by decide +kernel
theorem d_Y_place_34 : decode prog_8_method_9_code 34 = .ok (.aload_n 0, 1) := by decide +kernel
theorem d_Y_place_35 : decode prog_8_method_9_code 35 = .ok (.getfield 13, 3) := by decide +kernel
theorem d_Y_place_38 : decode prog_8_method_9_code 38 = .ok (.iload_n 1, 1) := by decide +kernel
theorem d_Y_place_39 : decode prog_8_method_9_code 39 = .ok (.iconst (-1), 1) := by decide +kernel
theorem d_Y_place_40 : decode prog_8_method_9_code 40 = .ok (.iastore, 1) := by decide +kernel
theorem d_Y_place_41 : decode prog_8_method_9_code 41 = .ok (.aload_n 0, 1) := by decide +kernel
theorem d_Y_place_42 : decode prog_8_method_9_code 42 = .ok (.iload_n 1, 1) := by decide +kernel
theorem d_Y_place_43 : decode prog_8_method_9_code 43 = .ok (.invokevirtual 84, 3) := by decide +kernel
theorem d_Y_place_46 : decode prog_8_method_9_code 46 = .ok (.aload_n 0, 1) := by decide +kernel
theorem d_Y_place_47 : decode prog_8_method_9_code 47 = .ok (.iconst 0, 1) := by decide +kernel
theorem d_Y_place_48 : decode prog_8_method_9_code 48 = .ok (.putfield 74, 3) := by decide +kernel
theorem d_Y_place_51 : decode prog_8_method_9_code 51 = .ok (.iload_n 1, 1) := by decide +kernel
theorem d_Y_place_52 : decode prog_8_method_9_code 52 = .ok (.ireturn, 1) := by decide +kernel
theorem d_Y_evenOdds_0 : decode prog_8_method_8_code 0 = .ok (.iconst 0, 1) := by decide +kernel
theorem d_Y_evenOdds_1 : decode prog_8_method_8_code 1 = .ok (.istore_n 2, 1) := by decide +kernel
theorem d_Y_evenOdds_2 : decode prog_8_method_8_code 2 = .ok (.iload_n 2, 1) := by decide +kernel
theorem d_Y_evenOdds_3 : decode prog_8_method_8_code 3 = .ok (.sipush 128, 3) := by decide +kernel
theorem d_Y_evenOdds_6 : decode prog_8_method_8_code 6 = .ok (.if_icmp .ge 22, 3) := by decide +kernel
theorem d_Y_evenOdds_9 : decode prog_8_method_8_code 9 = .ok (.aload_n 0, 1) := by decide +kernel
theorem d_Y_evenOdds_10 : decode prog_8_method_8_code 10 = .ok (.getfield 16, 3) := by decide +kernel
theorem d_Y_evenOdds_13 : decode prog_8_method_8_code 13 = .ok (.sipush 128, 3) := by decide +kernel
theorem d_Y_evenOdds_16 : decode prog_8_method_8_code 16 = .ok (.iload_n 1, 1) := by decide +kernel
theorem d_Y_evenOdds_17 : decode prog_8_method_8_code 17 = .ok (.imul, 1) := by decide +kernel
theorem d_Y_evenOdds_18 : decode prog_8_method_8_code 18 = .ok (.iload_n 2, 1) := by decide +kernel
theorem d_Y_evenOdds_19 : decode prog_8_method_8_code 19 = .ok (.iadd, 1) := by decide +kernel
theorem d_Y_evenOdds_20 : decode prog_8_method_8_code 20 = .ok (.iconst 4, 1) := by decide +kernel
theorem d_Y_evenOdds_21 : decode prog_8_method_8_code 21 = .ok (.iastore, 1) := by decide +kernel
theorem d_Y_evenOdds_22 : decode prog_8_method_8_code 22 = .ok (.iinc 2 1, 3) := by decide +kernel
theorem d_Y_evenOdds_25 : decode prog_8_method_8_code 25 = .ok (.goto (-23), 3) := by decide +kernel
theorem d_Y_evenOdds_28 : decode prog_8_method_8_code 28 = .ok (.return_, 1) := by decide +kernel
theorem d_Y_arc_0 : decode prog_8_method_11_code 0 = .ok (.aload_n 0, 1) := by decide +kernel
theorem d_Y_arc_1 : decode prog_8_method_11_code 1 = .ok (.iload_n 1, 1) := by decide +kernel
theorem d_Y_arc_2 : decode prog_8_method_11_code 2 = .ok (.invokevirtual 77, 3) := by decide +kernel
theorem d_Y_arc_5 : decode prog_8_method_11_code 5 = .ok (.ifCond .eq 16, 3) := by decide +kernel
theorem d_Y_arc_8 : decode prog_8_method_11_code 8 = .ok (.aload_n 0, 1) := by decide +kernel
theorem d_Y_arc_9 : decode prog_8_method_11_code 9 = .ok (.iload_n 2, 1) := by decide +kernel
theorem d_Y_arc_10 : decode prog_8_method_11_code 10 = .ok (.invokevirtual 77, 3) := by decide +kernel
theorem d_Y_arc_13 : decode prog_8_method_11_code 13 = .ok (.ifCond .eq 8, 3) := by decide +kernel
theorem d_Y_arc_16 : decode prog_8_method_11_code 16 = .ok (.iload_n 1, 1) := by decide +kernel
theorem d_Y_arc_17 : decode prog_8_method_11_code 17 = .ok (.iload_n 2, 1) := by decide +kernel
theorem d_Y_arc_18 : decode prog_8_method_11_code 18 = .ok (.if_icmp .ne 6, 3) := by decide +kernel
theorem d_Y_arc_21 : decode prog_8_method_11_code 21 = .ok (.bipush (-2), 2) := by decide +kernel
theorem d_Y_arc_23 : decode prog_8_method_11_code 23 = .ok (.ireturn, 1) := by decide +kernel
theorem d_Y_arc_24 : decode prog_8_method_11_code 24 = .ok (.aload_n 0, 1) := by decide +kernel
theorem d_Y_arc_25 : decode prog_8_method_11_code 25 = .ok (.getfield 7, 3) := by decide +kernel
theorem d_Y_arc_28 : decode prog_8_method_11_code 28 = .ok (.iload_n 2, 1) := by decide +kernel
theorem d_Y_arc_29 : decode prog_8_method_11_code 29 = .ok (.iaload, 1) := by decide +kernel
theorem d_Y_arc_30 : decode prog_8_method_11_code 30 = .ok (.iload_n 1, 1) := by decide +kernel
theorem d_Y_arc_31 : decode prog_8_method_11_code 31 = .ok (.ishr, 1) := by decide +kernel
theorem d_Y_arc_32 : decode prog_8_method_11_code 32 = .ok (.iconst 1, 1) := by decide +kernel
theorem d_Y_arc_33 : decode prog_8_method_11_code 33 = .ok (.iand, 1) := by decide +kernel
theorem d_Y_arc_34 : decode prog_8_method_11_code 34 = .ok (.iconst 1, 1) := by decide +kernel
theorem d_Y_arc_35 : decode prog_8_method_11_code 35 = .ok (.if_icmp .eq 17, 3) := by decide +kernel
theorem d_Y_arc_38 : decode prog_8_method_11_code 38 = .ok (.aload_n 0, 1) := by decide +kernel
theorem d_Y_arc_39 : decode prog_8_method_11_code 39 = .ok (.getfield 7, 3) := by decide +kernel
theorem d_Y_arc_42 : decode prog_8_method_11_code 42 = .ok (.iload_n 1, 1) := by decide +kernel
theorem d_Y_arc_43 : decode prog_8_method_11_code 43 = .ok (.iaload, 1) := by decide +kernel
theorem d_Y_arc_44 : decode prog_8_method_11_code 44 = .ok (.iload_n 2, 1) := by decide +kernel
theorem d_Y_arc_45 : decode prog_8_method_11_code 45 = .ok (.ishr, 1) := by decide +kernel
theorem d_Y_arc_46 : decode prog_8_method_11_code 46 = .ok (.iconst 1, 1) := by decide +kernel
theorem d_Y_arc_47 : decode prog_8_method_11_code 47 = .ok (.iand, 1) := by decide +kernel
theorem d_Y_arc_48 : decode prog_8_method_11_code 48 = .ok (.iconst 1, 1) := by decide +kernel
theorem d_Y_arc_49 : decode prog_8_method_11_code 49 = .ok (.if_icmp .ne 6, 3) := by decide +kernel
theorem d_Y_arc_52 : decode prog_8_method_11_code 52 = .ok (.bipush (-4), 2) := by decide +kernel
theorem d_Y_arc_54 : decode prog_8_method_11_code 54 = .ok (.ireturn, 1) := by decide +kernel
theorem d_Y_arc_55 : decode prog_8_method_11_code 55 = .ok (.aload_n 0, 1) := by decide +kernel
theorem d_Y_arc_56 : decode prog_8_method_11_code 56 = .ok (.aload_n 0, 1) := by decide +kernel
theorem d_Y_arc_57 : decode prog_8_method_11_code 57 = .ok (.getfield 7, 3) := by decide +kernel
theorem d_Y_arc_60 : decode prog_8_method_11_code 60 = .ok (.iconst 1, 1) := by decide +kernel
theorem d_Y_arc_61 : decode prog_8_method_11_code 61 = .ok (.iload_n 1, 1) := by decide +kernel
theorem d_Y_arc_62 : decode prog_8_method_11_code 62 = .ok (.ishl, 1) := by decide +kernel
theorem d_Y_arc_63 : decode prog_8_method_11_code 63 = .ok (.invokevirtual 88, 3) := by decide +kernel
theorem d_Y_arc_66 : decode prog_8_method_11_code 66 = .ok (.iload_n 2, 1) := by decide +kernel
theorem d_Y_arc_67 : decode prog_8_method_11_code 67 = .ok (.ishr, 1) := by decide +kernel
theorem d_Y_arc_68 : decode prog_8_method_11_code 68 = .ok (.iconst 1, 1) := by decide +kernel
theorem d_Y_arc_69 : decode prog_8_method_11_code 69 = .ok (.iand, 1) := by decide +kernel
theorem d_Y_arc_70 : decode prog_8_method_11_code 70 = .ok (.iconst 1, 1) := by decide +kernel
theorem d_Y_arc_71 : decode prog_8_method_11_code 71 = .ok (.if_icmp .ne 6, 3) := by decide +kernel
theorem d_Y_arc_74 : decode prog_8_method_11_code 74 = .ok (.bipush (-5), 2) := by decide +kernel
theorem d_Y_arc_76 : decode prog_8_method_11_code 76 = .ok (.ireturn, 1) := by decide +kernel
theorem d_Y_arc_77 : decode prog_8_method_11_code 77 = .ok (.aload_n 0, 1) := by decide +kernel
theorem d_Y_arc_78 : decode prog_8_method_11_code 78 = .ok (.getfield 67, 3) := by decide +kernel
theorem d_Y_arc_81 : decode prog_8_method_11_code 81 = .ok (.bipush 10, 2) := by decide +kernel
theorem d_Y_arc_83 : decode prog_8_method_11_code 83 = .ok (.if_icmp .ne 6, 3) := by decide +kernel
theorem d_Y_arc_86 : decode prog_8_method_11_code 86 = .ok (.bipush (-3), 2) := by decide +kernel
theorem d_Y_arc_88 : decode prog_8_method_11_code 88 = .ok (.ireturn, 1) := by decide +kernel
theorem d_Y_arc_89 : decode prog_8_method_11_code 89 = .ok (.aload_n 0, 1) := by decide +kernel
theorem d_Y_arc_90 : decode prog_8_method_11_code 90 = .ok (.getfield 7, 3) := by decide +kernel
theorem d_Y_arc_93 : decode prog_8_method_11_code 93 = .ok (.iload_n 2, 1) := by decide +kernel
theorem d_Y_arc_94 : decode prog_8_method_11_code 94 = .ok (.dup2, 1) := by decide +kernel
theorem d_Y_arc_95 : decode prog_8_method_11_code 95 = .ok (.iaload, 1) := by decide +kernel
theorem d_Y_arc_96 : decode prog_8_method_11_code 96 = .ok (.iconst 1, 1) := by decide +kernel
theorem d_Y_arc_97 : decode prog_8_method_11_code 97 = .ok (.iload_n 1, 1) := by decide +kernel
theorem d_Y_arc_98 : decode prog_8_method_11_code 98 = .ok (.ishl, 1) := by decide +kernel
theorem d_Y_arc_99 : decode prog_8_method_11_code 99 = .ok (.ior, 1) := by decide +kernel
theorem d_Y_arc_100 : decode prog_8_method_11_code 100 = .ok (.iastore, 1) := by decide +kernel
theorem d_Y_arc_101 : decode prog_8_method_11_code 101 = .ok (.aload_n 0, 1) := by decide +kernel
theorem d_Y_arc_102 : decode prog_8_method_11_code 102 = .ok (.iload_n 2, 1) := by decide +kernel
theorem d_Y_arc_103 : decode prog_8_method_11_code 103 = .ok (.invokevirtual 84, 3) := by decide +kernel
theorem d_Y_arc_106 : decode prog_8_method_11_code 106 = .ok (.aload_n 0, 1) := by decide +kernel
theorem d_Y_arc_107 : decode prog_8_method_11_code 107 = .ok (.dup, 1) := by decide +kernel
theorem d_Y_arc_108 : decode prog_8_method_11_code 108 = .ok (.getfield 67, 3) := by decide +kernel
theorem d_Y_arc_111 : decode prog_8_method_11_code 111 = .ok (.iconst 1, 1) := by decide +kernel
theorem d_Y_arc_112 : decode prog_8_method_11_code 112 = .ok (.iadd, 1) := by decide +kernel
theorem d_Y_arc_113 : decode prog_8_method_11_code 113 = .ok (.putfield 67, 3) := by decide +kernel
theorem d_Y_arc_116 : decode prog_8_method_11_code 116 = .ok (.aload_n 0, 1) := by decide +kernel
theorem d_Y_arc_117 : decode prog_8_method_11_code 117 = .ok (.iconst 0, 1) := by decide +kernel
theorem d_Y_arc_118 : decode prog_8_method_11_code 118 = .ok (.putfield 74, 3) := by decide +kernel
theorem d_Y_arc_121 : decode prog_8_method_11_code 121 = .ok (.aload_n 0, 1) := by decide +kernel
theorem d_Y_arc_122 : decode prog_8_method_11_code 122 = .ok (.getfield 67, 3) := by decide +kernel
theorem d_Y_arc_125 : decode prog_8_method_11_code 125 = .ok (.ireturn, 1) := by decide +kernel
theorem d_Y_isPlace_0 : decode prog_8_method_4_code 0 = .ok (.iload_n 1, 1) := by decide +kernel
theorem d_Y_isPlace_1 : decode prog_8_method_4_code 1 = .ok (.ifCond .lt 15, 3) := by decide +kernel
theorem d_Y_isPlace_4 : decode prog_8_method_4_code 4 = .ok (.iload_n 1, 1) := by decide +kernel
theorem d_Y_isPlace_5 : decode prog_8_method_4_code 5 = .ok (.aload_n 0, 1) := by decide +kernel
theorem d_Y_isPlace_6 : decode prog_8_method_4_code 6 = .ok (.getfield 63, 3) := by decide +kernel
theorem d_Y_isPlace_9 : decode prog_8_method_4_code 9 = .ok (.if_icmp .ge 7, 3) := by decide +kernel
theorem d_Y_isPlace_12 : decode prog_8_method_4_code 12 = .ok (.iconst 1, 1) := by decide +kernel
theorem d_Y_isPlace_13 : decode prog_8_method_4_code 13 = .ok (.goto 4, 3) := by decide +kernel
theorem d_Y_isPlace_16 : decode prog_8_method_4_code 16 = .ok (.iconst 0, 1) := by decide +kernel
theorem d_Y_isPlace_17 : decode prog_8_method_4_code 17 = .ok (.ireturn, 1) := by decide +kernel
theorem d_Y_aboveOf_0 : decode prog_8_method_10_code 0 = .ok (.iload_n 2, 1) := by decide +kernel
theorem d_Y_aboveOf_1 : decode prog_8_method_10_code 1 = .ok (.istore_n 3, 1) := by decide +kernel
theorem d_Y_aboveOf_2 : decode prog_8_method_10_code 2 = .ok (.iconst (-1), 1) := by decide +kernel
theorem d_Y_aboveOf_3 : decode prog_8_method_10_code 3 = .ok (.istore 4, 2) := by decide +kernel
theorem d_Y_aboveOf_5 : decode prog_8_method_10_code 5 = .ok (.iload_n 3, 1) := by decide +kernel
theorem d_Y_aboveOf_6 : decode prog_8_method_10_code 6 = .ok (.iload 4, 2) := by decide +kernel
theorem d_Y_aboveOf_8 : decode prog_8_method_10_code 8 = .ok (.if_icmp .eq 46, 3) := by decide +kernel
theorem d_Y_aboveOf_11 : decode prog_8_method_10_code 11 = .ok (.iload_n 3, 1) := by decide +kernel
theorem d_Y_aboveOf_12 : decode prog_8_method_10_code 12 = .ok (.istore 4, 2) := by decide +kernel
theorem d_Y_aboveOf_14 : decode prog_8_method_10_code 14 = .ok (.iconst 0, 1) := by decide +kernel
theorem d_Y_aboveOf_15 : decode prog_8_method_10_code 15 = .ok (.istore 5, 2) := by decide +kernel
theorem d_Y_aboveOf_17 : decode prog_8_method_10_code 17 = .ok (.iload_n 3, 1) := by decide +kernel
theorem d_Y_aboveOf_18 : decode prog_8_method_10_code 18 = .ok (.iload 5, 2) := by decide +kernel
theorem d_Y_aboveOf_20 : decode prog_8_method_10_code 20 = .ok (.ishr, 1) := by decide +kernel
theorem d_Y_aboveOf_21 : decode prog_8_method_10_code 21 = .ok (.ifCond .eq 30, 3) := by decide +kernel
theorem d_Y_aboveOf_24 : decode prog_8_method_10_code 24 = .ok (.iload_n 3, 1) := by decide +kernel
theorem d_Y_aboveOf_25 : decode prog_8_method_10_code 25 = .ok (.iload_n 3, 1) := by decide +kernel
theorem d_Y_aboveOf_26 : decode prog_8_method_10_code 26 = .ok (.iload 5, 2) := by decide +kernel
theorem d_Y_aboveOf_28 : decode prog_8_method_10_code 28 = .ok (.ishr, 1) := by decide +kernel
theorem d_Y_aboveOf_29 : decode prog_8_method_10_code 29 = .ok (.iconst 1, 1) := by decide +kernel
theorem d_Y_aboveOf_30 : decode prog_8_method_10_code 30 = .ok (.iand, 1) := by decide +kernel
theorem d_Y_aboveOf_31 : decode prog_8_method_10_code 31 = .ok (.iconst 1, 1) := by decide +kernel
theorem d_Y_aboveOf_32 : decode prog_8_method_10_code 32 = .ok (.if_icmp .ne 10, 3) := by decide +kernel
theorem d_Y_aboveOf_35 : decode prog_8_method_10_code 35 = .ok (.aload_n 1, 1) := by decide +kernel
theorem d_Y_aboveOf_36 : decode prog_8_method_10_code 36 = .ok (.iload 5, 2) := by decide +kernel
theorem d_Y_aboveOf_38 : decode prog_8_method_10_code 38 = .ok (.iaload, 1) := by decide +kernel
theorem d_Y_aboveOf_39 : decode prog_8_method_10_code 39 = .ok (.goto 4, 3) := by decide +kernel
theorem d_Y_aboveOf_42 : decode prog_8_method_10_code 42 = .ok (.iconst 0, 1) := by decide +kernel
theorem d_Y_aboveOf_43 : decode prog_8_method_10_code 43 = .ok (.ior, 1) := by decide +kernel
theorem d_Y_aboveOf_44 : decode prog_8_method_10_code 44 = .ok (.istore_n 3, 1) := by decide +kernel
theorem d_Y_aboveOf_45 : decode prog_8_method_10_code 45 = .ok (.iinc 5 1, 3) := by decide +kernel
theorem d_Y_aboveOf_48 : decode prog_8_method_10_code 48 = .ok (.goto (-31), 3) := by decide +kernel
theorem d_Y_aboveOf_51 : decode prog_8_method_10_code 51 = .ok (.goto (-46), 3) := by decide +kernel
theorem d_Y_aboveOf_54 : decode prog_8_method_10_code 54 = .ok (.iload_n 3, 1) := by decide +kernel
theorem d_Y_aboveOf_55 : decode prog_8_method_10_code 55 = .ok (.ireturn, 1) := by decide +kernel
theorem d_Y_cut_0 : decode prog_8_method_13_code 0 = .ok (.aload_n 0, 1) := by decide +kernel
theorem d_Y_cut_1 : decode prog_8_method_13_code 1 = .ok (.iload_n 1, 1) := by decide +kernel
theorem d_Y_cut_2 : decode prog_8_method_13_code 2 = .ok (.invokevirtual 77, 3) := by decide +kernel
theorem d_Y_cut_5 : decode prog_8_method_13_code 5 = .ok (.ifCond .eq 16, 3) := by decide +kernel
theorem d_Y_cut_8 : decode prog_8_method_13_code 8 = .ok (.aload_n 0, 1) := by decide +kernel
theorem d_Y_cut_9 : decode prog_8_method_13_code 9 = .ok (.iload_n 2, 1) := by decide +kernel
theorem d_Y_cut_10 : decode prog_8_method_13_code 10 = .ok (.invokevirtual 77, 3) := by decide +kernel
theorem d_Y_cut_13 : decode prog_8_method_13_code 13 = .ok (.ifCond .eq 8, 3) := by decide +kernel
theorem d_Y_cut_16 : decode prog_8_method_13_code 16 = .ok (.iload_n 1, 1) := by decide +kernel
theorem d_Y_cut_17 : decode prog_8_method_13_code 17 = .ok (.iload_n 2, 1) := by decide +kernel
theorem d_Y_cut_18 : decode prog_8_method_13_code 18 = .ok (.if_icmp .ne 6, 3) := by decide +kernel
theorem d_Y_cut_21 : decode prog_8_method_13_code 21 = .ok (.bipush (-2), 2) := by decide +kernel
theorem d_Y_cut_23 : decode prog_8_method_13_code 23 = .ok (.ireturn, 1) := by decide +kernel
theorem d_Y_cut_24 : decode prog_8_method_13_code 24 = .ok (.aload_n 0, 1) := by decide +kernel
theorem d_Y_cut_25 : decode prog_8_method_13_code 25 = .ok (.iload_n 1, 1) := by decide +kernel
theorem d_Y_cut_26 : decode prog_8_method_13_code 26 = .ok (.iload_n 2, 1) := by decide +kernel
theorem d_Y_cut_27 : decode prog_8_method_13_code 27 = .ok (.invokevirtual 92, 3) := by decide +kernel
theorem d_Y_cut_30 : decode prog_8_method_13_code 30 = .ok (.ifCond .ne 5, 3) := by decide +kernel
theorem d_Y_cut_33 : decode prog_8_method_13_code 33 = .ok (.iconst (-1), 1) := by decide +kernel
theorem d_Y_cut_34 : decode prog_8_method_13_code 34 = .ok (.ireturn, 1) := by decide +kernel
theorem d_Y_cut_35 : decode prog_8_method_13_code 35 = .ok (.aload_n 0, 1) := by decide +kernel
theorem d_Y_cut_36 : decode prog_8_method_13_code 36 = .ok (.getfield 7, 3) := by decide +kernel
theorem d_Y_cut_39 : decode prog_8_method_13_code 39 = .ok (.iload_n 2, 1) := by decide +kernel
theorem d_Y_cut_40 : decode prog_8_method_13_code 40 = .ok (.dup2, 1) := by decide +kernel
theorem d_Y_cut_41 : decode prog_8_method_13_code 41 = .ok (.iaload, 1) := by decide +kernel
theorem d_Y_cut_42 : decode prog_8_method_13_code 42 = .ok (.iconst 1, 1) := by decide +kernel
theorem d_Y_cut_43 : decode prog_8_method_13_code 43 = .ok (.iload_n 1, 1) := by decide +kernel
theorem d_Y_cut_44 : decode prog_8_method_13_code 44 = .ok (.ishl, 1) := by decide +kernel
theorem d_Y_cut_45 : decode prog_8_method_13_code 45 = .ok (.iconst (-1), 1) := by decide +kernel
theorem d_Y_cut_46 : decode prog_8_method_13_code 46 = .ok (.ixor, 1) := by decide +kernel
theorem d_Y_cut_47 : decode prog_8_method_13_code 47 = .ok (.iand, 1) := by decide +kernel
theorem d_Y_cut_48 : decode prog_8_method_13_code 48 = .ok (.iastore, 1) := by decide +kernel
theorem d_Y_cut_49 : decode prog_8_method_13_code 49 = .ok (.aload_n 0, 1) := by decide +kernel
theorem d_Y_cut_50 : decode prog_8_method_13_code 50 = .ok (.iload_n 2, 1) := by decide +kernel
theorem d_Y_cut_51 : decode prog_8_method_13_code 51 = .ok (.invokevirtual 84, 3) := by decide +kernel
theorem d_Y_cut_54 : decode prog_8_method_13_code 54 = .ok (.aload_n 0, 1) := by decide +kernel
theorem d_Y_cut_55 : decode prog_8_method_13_code 55 = .ok (.dup, 1) := by decide +kernel
theorem d_Y_cut_56 : decode prog_8_method_13_code 56 = .ok (.getfield 67, 3) := by decide +kernel
theorem d_Y_cut_59 : decode prog_8_method_13_code 59 = .ok (.iconst 1, 1) := by decide +kernel
theorem d_Y_cut_60 : decode prog_8_method_13_code 60 = .ok (.isub, 1) := by decide +kernel
theorem d_Y_cut_61 : decode prog_8_method_13_code 61 = .ok (.putfield 67, 3) := by decide +kernel
theorem d_Y_cut_64 : decode prog_8_method_13_code 64 = .ok (.aload_n 0, 1) := by decide +kernel
theorem d_Y_cut_65 : decode prog_8_method_13_code 65 = .ok (.iconst 0, 1) := by decide +kernel
theorem d_Y_cut_66 : decode prog_8_method_13_code 66 = .ok (.putfield 74, 3) := by decide +kernel
theorem d_Y_cut_69 : decode prog_8_method_13_code 69 = .ok (.aload_n 0, 1) := by decide +kernel
theorem d_Y_cut_70 : decode prog_8_method_13_code 70 = .ok (.getfield 67, 3) := by decide +kernel
theorem d_Y_cut_73 : decode prog_8_method_13_code 73 = .ok (.ireturn, 1) := by decide +kernel
theorem d_Y_isArc_0 : decode prog_8_method_12_code 0 = .ok (.aload_n 0, 1) := by decide +kernel
theorem d_Y_isArc_1 : decode prog_8_method_12_code 1 = .ok (.getfield 7, 3) := by decide +kernel
theorem d_Y_isArc_4 : decode prog_8_method_12_code 4 = .ok (.iload_n 2, 1) := by decide +kernel
theorem d_Y_isArc_5 : decode prog_8_method_12_code 5 = .ok (.iaload, 1) := by decide +kernel
theorem d_Y_isArc_6 : decode prog_8_method_12_code 6 = .ok (.iload_n 1, 1) := by decide +kernel
theorem d_Y_isArc_7 : decode prog_8_method_12_code 7 = .ok (.ishr, 1) := by decide +kernel
theorem d_Y_isArc_8 : decode prog_8_method_12_code 8 = .ok (.iconst 1, 1) := by decide +kernel
theorem d_Y_isArc_9 : decode prog_8_method_12_code 9 = .ok (.iand, 1) := by decide +kernel
theorem d_Y_isArc_10 : decode prog_8_method_12_code 10 = .ok (.iconst 1, 1) := by decide +kernel
theorem d_Y_isArc_11 : decode prog_8_method_12_code 11 = .ok (.if_icmp .ne 7, 3) := by decide +kernel
theorem d_Y_isArc_14 : decode prog_8_method_12_code 14 = .ok (.iconst 1, 1) := by decide +kernel
theorem d_Y_isArc_15 : decode prog_8_method_12_code 15 = .ok (.goto 4, 3) := by decide +kernel
theorem d_Y_isArc_18 : decode prog_8_method_12_code 18 = .ok (.iconst 0, 1) := by decide +kernel
theorem d_Y_isArc_19 : decode prog_8_method_12_code 19 = .ok (.ireturn, 1) := by decide +kernel
theorem d_Y_odds_0 : decode prog_8_method_15_code 0 = .ok (.aload_n 0, 1) := by decide +kernel
theorem d_Y_odds_1 : decode prog_8_method_15_code 1 = .ok (.iload_n 1, 1) := by decide +kernel
theorem d_Y_odds_2 : decode prog_8_method_15_code 2 = .ok (.iload_n 2, 1) := by decide +kernel
theorem d_Y_odds_3 : decode prog_8_method_15_code 3 = .ok (.invokevirtual 100, 3) := by decide +kernel
theorem d_Y_odds_6 : decode prog_8_method_15_code 6 = .ok (.ifCond .eq 13, 3) := by decide +kernel
theorem d_Y_odds_9 : decode prog_8_method_15_code 9 = .ok (.iload_n 3, 1) := by decide +kernel
theorem d_Y_odds_10 : decode prog_8_method_15_code 10 = .ok (.ifCond .lt 9, 3) := by decide +kernel
theorem d_Y_odds_13 : decode prog_8_method_15_code 13 = .ok (.iload_n 3, 1) := by decide +kernel
theorem d_Y_odds_14 : decode prog_8_method_15_code 14 = .ok (.bipush 8, 2) := by decide +kernel
theorem d_Y_odds_16 : decode prog_8_method_15_code 16 = .ok (.if_icmp .le 6, 3) := by decide +kernel
theorem d_Y_odds_19 : decode prog_8_method_15_code 19 = .ok (.bipush (-2), 2) := by decide +kernel
theorem d_Y_odds_21 : decode prog_8_method_15_code 21 = .ok (.ireturn, 1) := by decide +kernel
theorem d_Y_odds_22 : decode prog_8_method_15_code 22 = .ok (.aload_n 0, 1) := by decide +kernel
theorem d_Y_odds_23 : decode prog_8_method_15_code 23 = .ok (.getfield 16, 3) := by decide +kernel
theorem d_Y_odds_26 : decode prog_8_method_15_code 26 = .ok (.sipush 128, 3) := by decide +kernel
theorem d_Y_odds_29 : decode prog_8_method_15_code 29 = .ok (.iload_n 1, 1) := by decide +kernel
theorem d_Y_odds_30 : decode prog_8_method_15_code 30 = .ok (.imul, 1) := by decide +kernel
theorem d_Y_odds_31 : decode prog_8_method_15_code 31 = .ok (.iload_n 2, 1) := by decide +kernel
theorem d_Y_odds_32 : decode prog_8_method_15_code 32 = .ok (.iadd, 1) := by decide +kernel
theorem d_Y_odds_33 : decode prog_8_method_15_code 33 = .ok (.iaload, 1) := by decide +kernel
theorem d_Y_odds_34 : decode prog_8_method_15_code 34 = .ok (.istore 4, 2) := by decide +kernel
theorem d_Y_odds_36 : decode prog_8_method_15_code 36 = .ok (.aload_n 0, 1) := by decide +kernel
theorem d_Y_odds_37 : decode prog_8_method_15_code 37 = .ok (.getfield 16, 3) := by decide +kernel
theorem d_Y_odds_40 : decode prog_8_method_15_code 40 = .ok (.sipush 128, 3) := by decide +kernel
theorem d_Y_odds_43 : decode prog_8_method_15_code 43 = .ok (.iload_n 1, 1) := by decide +kernel
theorem d_Y_odds_44 : decode prog_8_method_15_code 44 = .ok (.imul, 1) := by decide +kernel
theorem d_Y_odds_45 : decode prog_8_method_15_code 45 = .ok (.iload_n 2, 1) := by decide +kernel
theorem d_Y_odds_46 : decode prog_8_method_15_code 46 = .ok (.iadd, 1) := by decide +kernel
theorem d_Y_odds_47 : decode prog_8_method_15_code 47 = .ok (.iload_n 3, 1) := by decide +kernel
theorem d_Y_odds_48 : decode prog_8_method_15_code 48 = .ok (.iastore, 1) := by decide +kernel
theorem d_Y_odds_49 : decode prog_8_method_15_code 49 = .ok (.iload 4, 2) := by decide +kernel
theorem d_Y_odds_51 : decode prog_8_method_15_code 51 = .ok (.ireturn, 1) := by decide +kernel
theorem d_Y_isRow_0 : decode prog_8_method_14_code 0 = .ok (.aload_n 0, 1) := by decide +kernel
theorem d_Y_isRow_1 : decode prog_8_method_14_code 1 = .ok (.iload_n 1, 1) := by decide +kernel
theorem d_Y_isRow_2 : decode prog_8_method_14_code 2 = .ok (.invokevirtual 77, 3) := by decide +kernel
theorem d_Y_isRow_5 : decode prog_8_method_14_code 5 = .ok (.ifCond .eq 26, 3) := by decide +kernel
theorem d_Y_isRow_8 : decode prog_8_method_14_code 8 = .ok (.iload_n 2, 1) := by decide +kernel
theorem d_Y_isRow_9 : decode prog_8_method_14_code 9 = .ok (.ifCond .lt 22, 3) := by decide +kernel
theorem d_Y_isRow_12 : decode prog_8_method_14_code 12 = .ok (.iload_n 2, 1) := by decide +kernel
theorem d_Y_isRow_13 : decode prog_8_method_14_code 13 = .ok (.iconst 1, 1) := by decide +kernel
theorem d_Y_isRow_14 : decode prog_8_method_14_code 14 = .ok (.aload_n 0, 1) := by decide +kernel
theorem d_Y_isRow_15 : decode prog_8_method_14_code 15 = .ok (.getfield 7, 3) := by decide +kernel
theorem d_Y_isRow_18 : decode prog_8_method_14_code 18 = .ok (.iload_n 1, 1) := by decide +kernel
theorem d_Y_isRow_19 : decode prog_8_method_14_code 19 = .ok (.iaload, 1) := by decide +kernel
theorem d_Y_isRow_20 : decode prog_8_method_14_code 20 = .ok (.invokestatic 96, 3) := by decide +kernel
theorem d_Y_isRow_23 : decode prog_8_method_14_code 23 = .ok (.ishl, 1) := by decide +kernel
theorem d_Y_isRow_24 : decode prog_8_method_14_code 24 = .ok (.if_icmp .ge 7, 3) := by decide +kernel
theorem d_Y_isRow_27 : decode prog_8_method_14_code 27 = .ok (.iconst 1, 1) := by decide +kernel
theorem d_Y_isRow_28 : decode prog_8_method_14_code 28 = .ok (.goto 4, 3) := by decide +kernel
theorem d_Y_isRow_31 : decode prog_8_method_14_code 31 = .ok (.iconst 0, 1) := by decide +kernel
theorem d_Y_isRow_32 : decode prog_8_method_14_code 32 = .ok (.ireturn, 1) := by decide +kernel
theorem d_Y_many_0 : decode prog_8_method_7_code 0 = .ok (.iconst 0, 1) := by decide +kernel
theorem d_Y_many_1 : decode prog_8_method_7_code 1 = .ok (.istore_n 1, 1) := by decide +kernel
theorem d_Y_many_2 : decode prog_8_method_7_code 2 = .ok (.iload_n 0, 1) := by decide +kernel
theorem d_Y_many_3 : decode prog_8_method_7_code 3 = .ok (.istore_n 2, 1) := by decide +kernel
theorem d_Y_many_4 : decode prog_8_method_7_code 4 = .ok (.iload_n 2, 1) := by decide +kernel
theorem d_Y_many_5 : decode prog_8_method_7_code 5 = .ok (.ifCond .eq 15, 3) := by decide +kernel
theorem d_Y_many_8 : decode prog_8_method_7_code 8 = .ok (.iinc 1 1, 3) := by decide +kernel
theorem d_Y_many_11 : decode prog_8_method_7_code 11 = .ok (.iload_n 2, 1) := by decide +kernel
theorem d_Y_many_12 : decode prog_8_method_7_code 12 = .ok (.iload_n 2, 1) := by decide +kernel
theorem d_Y_many_13 : decode prog_8_method_7_code 13 = .ok (.iconst 1, 1) := by decide +kernel
theorem d_Y_many_14 : decode prog_8_method_7_code 14 = .ok (.isub, 1) := by decide +kernel
theorem d_Y_many_15 : decode prog_8_method_7_code 15 = .ok (.iand, 1) := by decide +kernel
theorem d_Y_many_16 : decode prog_8_method_7_code 16 = .ok (.istore_n 2, 1) := by decide +kernel
theorem d_Y_many_17 : decode prog_8_method_7_code 17 = .ok (.goto (-13), 3) := by decide +kernel
theorem d_Y_many_20 : decode prog_8_method_7_code 20 = .ok (.iload_n 1, 1) := by decide +kernel
theorem d_Y_many_21 : decode prog_8_method_7_code 21 = .ok (.ireturn, 1) := by decide +kernel
theorem d_Y_hold_0 : decode prog_8_method_16_code 0 = .ok (.aload_n 0, 1) := by decide +kernel
theorem d_Y_hold_1 : decode prog_8_method_16_code 1 = .ok (.iload_n 1, 1) := by decide +kernel
theorem d_Y_hold_2 : decode prog_8_method_16_code 2 = .ok (.invokevirtual 77, 3) := by decide +kernel
theorem d_Y_hold_5 : decode prog_8_method_16_code 5 = .ok (.ifCond .eq 13, 3) := by decide +kernel
theorem d_Y_hold_8 : decode prog_8_method_16_code 8 = .ok (.iload_n 2, 1) := by decide +kernel
theorem d_Y_hold_9 : decode prog_8_method_16_code 9 = .ok (.iconst (-1), 1) := by decide +kernel
theorem d_Y_hold_10 : decode prog_8_method_16_code 10 = .ok (.if_icmp .lt 8, 3) := by decide +kernel
theorem d_Y_hold_13 : decode prog_8_method_16_code 13 = .ok (.iload_n 2, 1) := by decide +kernel
theorem d_Y_hold_14 : decode prog_8_method_16_code 14 = .ok (.iconst 1, 1) := by decide +kernel
theorem d_Y_hold_15 : decode prog_8_method_16_code 15 = .ok (.if_icmp .le 6, 3) := by decide +kernel
theorem d_Y_hold_18 : decode prog_8_method_16_code 18 = .ok (.bipush (-2), 2) := by decide +kernel
theorem d_Y_hold_20 : decode prog_8_method_16_code 20 = .ok (.ireturn, 1) := by decide +kernel
theorem d_Y_hold_21 : decode prog_8_method_16_code 21 = .ok (.aload_n 0, 1) := by decide +kernel
theorem d_Y_hold_22 : decode prog_8_method_16_code 22 = .ok (.getfield 13, 3) := by decide +kernel
theorem d_Y_hold_25 : decode prog_8_method_16_code 25 = .ok (.iload_n 1, 1) := by decide +kernel
theorem d_Y_hold_26 : decode prog_8_method_16_code 26 = .ok (.iaload, 1) := by decide +kernel
theorem d_Y_hold_27 : decode prog_8_method_16_code 27 = .ok (.istore_n 3, 1) := by decide +kernel
theorem d_Y_hold_28 : decode prog_8_method_16_code 28 = .ok (.aload_n 0, 1) := by decide +kernel
theorem d_Y_hold_29 : decode prog_8_method_16_code 29 = .ok (.getfield 13, 3) := by decide +kernel
theorem d_Y_hold_32 : decode prog_8_method_16_code 32 = .ok (.iload_n 1, 1) := by decide +kernel
theorem d_Y_hold_33 : decode prog_8_method_16_code 33 = .ok (.iload_n 2, 1) := by decide +kernel
theorem d_Y_hold_34 : decode prog_8_method_16_code 34 = .ok (.iastore, 1) := by decide +kernel
theorem d_Y_hold_35 : decode prog_8_method_16_code 35 = .ok (.iload_n 3, 1) := by decide +kernel
theorem d_Y_hold_36 : decode prog_8_method_16_code 36 = .ok (.ireturn, 1) := by decide +kernel
theorem d_Y_told_0 : decode prog_8_method_17_code 0 = .ok (.aload_n 0, 1) := by decide +kernel
theorem d_Y_told_1 : decode prog_8_method_17_code 1 = .ok (.iload_n 1, 1) := by decide +kernel
theorem d_Y_told_2 : decode prog_8_method_17_code 2 = .ok (.iload_n 2, 1) := by decide +kernel
theorem d_Y_told_3 : decode prog_8_method_17_code 3 = .ok (.invokevirtual 100, 3) := by decide +kernel
theorem d_Y_told_6 : decode prog_8_method_17_code 6 = .ok (.ifCond .eq 18, 3) := by decide +kernel
theorem d_Y_told_9 : decode prog_8_method_17_code 9 = .ok (.aload_n 0, 1) := by decide +kernel
theorem d_Y_told_10 : decode prog_8_method_17_code 10 = .ok (.getfield 16, 3) := by decide +kernel
theorem d_Y_told_13 : decode prog_8_method_17_code 13 = .ok (.sipush 128, 3) := by decide +kernel
theorem d_Y_told_16 : decode prog_8_method_17_code 16 = .ok (.iload_n 1, 1) := by decide +kernel
theorem d_Y_told_17 : decode prog_8_method_17_code 17 = .ok (.imul, 1) := by decide +kernel
theorem d_Y_told_18 : decode prog_8_method_17_code 18 = .ok (.iload_n 2, 1) := by decide +kernel
theorem d_Y_told_19 : decode prog_8_method_17_code 19 = .ok (.iadd, 1) := by decide +kernel
theorem d_Y_told_20 : decode prog_8_method_17_code 20 = .ok (.iaload, 1) := by decide +kernel
theorem d_Y_told_21 : decode prog_8_method_17_code 21 = .ok (.goto 5, 3) := by decide +kernel
theorem d_Y_told_24 : decode prog_8_method_17_code 24 = .ok (.bipush (-2), 2) := by decide +kernel
theorem d_Y_told_26 : decode prog_8_method_17_code 26 = .ok (.ireturn, 1) := by decide +kernel
theorem d_Y_of_0 : decode prog_8_method_20_code 0 = .ok (.aload_n 0, 1) := by decide +kernel
theorem d_Y_of_1 : decode prog_8_method_20_code 1 = .ok (.iload_n 1, 1) := by decide +kernel
theorem d_Y_of_2 : decode prog_8_method_20_code 2 = .ok (.invokevirtual 77, 3) := by decide +kernel
theorem d_Y_of_5 : decode prog_8_method_20_code 5 = .ok (.ifCond .eq 12, 3) := by decide +kernel
theorem d_Y_of_8 : decode prog_8_method_20_code 8 = .ok (.iload_n 2, 1) := by decide +kernel
theorem d_Y_of_9 : decode prog_8_method_20_code 9 = .ok (.ifCond .lt 8, 3) := by decide +kernel
theorem d_Y_of_12 : decode prog_8_method_20_code 12 = .ok (.iload_n 2, 1) := by decide +kernel
theorem d_Y_of_13 : decode prog_8_method_20_code 13 = .ok (.iconst 4, 1) := by decide +kernel
theorem d_Y_of_14 : decode prog_8_method_20_code 14 = .ok (.if_icmp .le 6, 3) := by decide +kernel
theorem d_Y_of_17 : decode prog_8_method_20_code 17 = .ok (.bipush (-2), 2) := by decide +kernel
theorem d_Y_of_19 : decode prog_8_method_20_code 19 = .ok (.ireturn, 1) := by decide +kernel
theorem d_Y_of_20 : decode prog_8_method_20_code 20 = .ok (.iload_n 2, 1) := by decide +kernel
theorem d_Y_of_21 : decode prog_8_method_20_code 21 = .ok (.ifCond .ne 10, 3) := by decide +kernel
theorem d_Y_of_24 : decode prog_8_method_20_code 24 = .ok (.aload_n 0, 1) := by decide +kernel
theorem d_Y_of_25 : decode prog_8_method_20_code 25 = .ok (.getfield 7, 3) := by decide +kernel
theorem d_Y_of_28 : decode prog_8_method_20_code 28 = .ok (.iload_n 1, 1) := by decide +kernel
theorem d_Y_of_29 : decode prog_8_method_20_code 29 = .ok (.iaload, 1) := by decide +kernel
theorem d_Y_of_30 : decode prog_8_method_20_code 30 = .ok (.ireturn, 1) := by decide +kernel
theorem d_Y_of_31 : decode prog_8_method_20_code 31 = .ok (.iload_n 2, 1) := by decide +kernel
theorem d_Y_of_32 : decode prog_8_method_20_code 32 = .ok (.iconst 1, 1) := by decide +kernel
theorem d_Y_of_33 : decode prog_8_method_20_code 33 = .ok (.if_icmp .ne 46, 3) := by decide +kernel
theorem d_Y_of_36 : decode prog_8_method_20_code 36 = .ok (.iconst 0, 1) := by decide +kernel
theorem d_Y_of_37 : decode prog_8_method_20_code 37 = .ok (.istore_n 3, 1) := by decide +kernel
theorem d_Y_of_38 : decode prog_8_method_20_code 38 = .ok (.iconst 0, 1) := by decide +kernel
theorem d_Y_of_39 : decode prog_8_method_20_code 39 = .ok (.istore 4, 2) := by decide +kernel
theorem d_Y_of_41 : decode prog_8_method_20_code 41 = .ok (.iload 4, 2) := by decide +kernel
theorem d_Y_of_43 : decode prog_8_method_20_code 43 = .ok (.aload_n 0, 1) := by decide +kernel
theorem d_Y_of_44 : decode prog_8_method_20_code 44 = .ok (.getfield 63, 3) := by decide +kernel
theorem d_Y_of_47 : decode prog_8_method_20_code 47 = .ok (.if_icmp .ge 30, 3) := by decide +kernel
theorem d_Y_of_50 : decode prog_8_method_20_code 50 = .ok (.iload_n 3, 1) := by decide +kernel
theorem d_Y_of_51 : decode prog_8_method_20_code 51 = .ok (.aload_n 0, 1) := by decide +kernel
theorem d_Y_of_52 : decode prog_8_method_20_code 52 = .ok (.iload_n 1, 1) := by decide +kernel
theorem d_Y_of_53 : decode prog_8_method_20_code 53 = .ok (.iload 4, 2) := by decide +kernel
theorem d_Y_of_55 : decode prog_8_method_20_code 55 = .ok (.invokevirtual 92, 3) := by decide +kernel
theorem d_Y_of_58 : decode prog_8_method_20_code 58 = .ok (.ifCond .eq 10, 3) := by decide +kernel
theorem d_Y_of_61 : decode prog_8_method_20_code 61 = .ok (.iconst 1, 1) := by decide +kernel
theorem d_Y_of_62 : decode prog_8_method_20_code 62 = .ok (.iload 4, 2) := by decide +kernel
theorem d_Y_of_64 : decode prog_8_method_20_code 64 = .ok (.ishl, 1) := by decide +kernel
theorem d_Y_of_65 : decode prog_8_method_20_code 65 = .ok (.goto 4, 3) := by decide +kernel
theorem d_Y_of_68 : decode prog_8_method_20_code 68 = .ok (.iconst 0, 1) := by decide +kernel
theorem d_Y_of_69 : decode prog_8_method_20_code 69 = .ok (.ior, 1) := by decide +kernel
theorem d_Y_of_70 : decode prog_8_method_20_code 70 = .ok (.istore_n 3, 1) := by decide +kernel
theorem d_Y_of_71 : decode prog_8_method_20_code 71 = .ok (.iinc 4 1, 3) := by decide +kernel
theorem d_Y_of_74 : decode prog_8_method_20_code 74 = .ok (.goto (-33), 3) := by decide +kernel
theorem d_Y_of_77 : decode prog_8_method_20_code 77 = .ok (.iload_n 3, 1) := by decide +kernel
theorem d_Y_of_78 : decode prog_8_method_20_code 78 = .ok (.ireturn, 1) := by decide +kernel
theorem d_Y_of_79 : decode prog_8_method_20_code 79 = .ok (.iload_n 2, 1) := by decide +kernel
theorem d_Y_of_80 : decode prog_8_method_20_code 80 = .ok (.iconst 2, 1) := by decide +kernel
theorem d_Y_of_81 : decode prog_8_method_20_code 81 = .ok (.if_icmp .ne 14, 3) := by decide +kernel
theorem d_Y_of_84 : decode prog_8_method_20_code 84 = .ok (.aload_n 0, 1) := by decide +kernel
theorem d_Y_of_85 : decode prog_8_method_20_code 85 = .ok (.iconst (-1), 1) := by decide +kernel
theorem d_Y_of_86 : decode prog_8_method_20_code 86 = .ok (.invokevirtual 103, 3) := by decide +kernel
theorem d_Y_of_89 : decode prog_8_method_20_code 89 = .ok (.aload_n 0, 1) := by decide +kernel
theorem d_Y_of_90 : decode prog_8_method_20_code 90 = .ok (.iload_n 1, 1) := by decide +kernel
theorem d_Y_of_91 : decode prog_8_method_20_code 91 = .ok (.invokevirtual 106, 3) := by decide +kernel
theorem d_Y_of_94 : decode prog_8_method_20_code 94 = .ok (.ireturn, 1) := by decide +kernel
theorem d_Y_of_95 : decode prog_8_method_20_code 95 = .ok (.iload_n 2, 1) := by decide +kernel
theorem d_Y_of_96 : decode prog_8_method_20_code 96 = .ok (.iconst 3, 1) := by decide +kernel
theorem d_Y_of_97 : decode prog_8_method_20_code 97 = .ok (.if_icmp .ne 12, 3) := by decide +kernel
theorem d_Y_of_100 : decode prog_8_method_20_code 100 = .ok (.aload_n 0, 1) := by decide +kernel
theorem d_Y_of_101 : decode prog_8_method_20_code 101 = .ok (.getfield 13, 3) := by decide +kernel
theorem d_Y_of_104 : decode prog_8_method_20_code 104 = .ok (.iload_n 1, 1) := by decide +kernel
theorem d_Y_of_105 : decode prog_8_method_20_code 105 = .ok (.iaload, 1) := by decide +kernel
theorem d_Y_of_106 : decode prog_8_method_20_code 106 = .ok (.goto 14, 3) := by decide +kernel
theorem d_Y_of_109 : decode prog_8_method_20_code 109 = .ok (.iconst 1, 1) := by decide +kernel
theorem d_Y_of_110 : decode prog_8_method_20_code 110 = .ok (.aload_n 0, 1) := by decide +kernel
theorem d_Y_of_111 : decode prog_8_method_20_code 111 = .ok (.getfield 7, 3) := by decide +kernel
theorem d_Y_of_114 : decode prog_8_method_20_code 114 = .ok (.iload_n 1, 1) := by decide +kernel
theorem d_Y_of_115 : decode prog_8_method_20_code 115 = .ok (.iaload, 1) := by decide +kernel
theorem d_Y_of_116 : decode prog_8_method_20_code 116 = .ok (.invokestatic 96, 3) := by decide +kernel
theorem d_Y_of_119 : decode prog_8_method_20_code 119 = .ok (.ishl, 1) := by decide +kernel
theorem d_Y_of_120 : decode prog_8_method_20_code 120 = .ok (.ireturn, 1) := by decide +kernel
theorem d_Y_countArcs_0 : decode prog_8_method_18_code 0 = .ok (.iconst 0, 1) := by decide +kernel
theorem d_Y_countArcs_1 : decode prog_8_method_18_code 1 = .ok (.istore_n 2, 1) := by decide +kernel
theorem d_Y_countArcs_2 : decode prog_8_method_18_code 2 = .ok (.iload_n 2, 1) := by decide +kernel
theorem d_Y_countArcs_3 : decode prog_8_method_18_code 3 = .ok (.bipush 8, 2) := by decide +kernel
theorem d_Y_countArcs_5 : decode prog_8_method_18_code 5 = .ok (.if_icmp .ge 68, 3) := by decide +kernel
theorem d_Y_countArcs_8 : decode prog_8_method_18_code 8 = .ok (.aload_n 0, 1) := by decide +kernel
theorem d_Y_countArcs_9 : decode prog_8_method_18_code 9 = .ok (.getfield 22, 3) := by decide +kernel
theorem d_Y_countArcs_12 : decode prog_8_method_18_code 12 = .ok (.iload_n 2, 1) := by decide +kernel
theorem d_Y_countArcs_13 : decode prog_8_method_18_code 13 = .ok (.iload_n 2, 1) := by decide +kernel
theorem d_Y_countArcs_14 : decode prog_8_method_18_code 14 = .ok (.aload_n 0, 1) := by decide +kernel
theorem d_Y_countArcs_15 : decode prog_8_method_18_code 15 = .ok (.getfield 63, 3) := by decide +kernel
theorem d_Y_countArcs_18 : decode prog_8_method_18_code 18 = .ok (.if_icmp .ge 22, 3) := by decide +kernel
theorem d_Y_countArcs_21 : decode prog_8_method_18_code 21 = .ok (.aload_n 0, 1) := by decide +kernel
theorem d_Y_countArcs_22 : decode prog_8_method_18_code 22 = .ok (.getfield 13, 3) := by decide +kernel
theorem d_Y_countArcs_25 : decode prog_8_method_18_code 25 = .ok (.iload_n 2, 1) := by decide +kernel
theorem d_Y_countArcs_26 : decode prog_8_method_18_code 26 = .ok (.iaload, 1) := by decide +kernel
theorem d_Y_countArcs_27 : decode prog_8_method_18_code 27 = .ok (.iconst (-1), 1) := by decide +kernel
theorem d_Y_countArcs_28 : decode prog_8_method_18_code 28 = .ok (.if_icmp .ne 12, 3) := by decide +kernel
theorem d_Y_countArcs_31 : decode prog_8_method_18_code 31 = .ok (.aload_n 0, 1) := by decide +kernel
theorem d_Y_countArcs_32 : decode prog_8_method_18_code 32 = .ok (.getfield 7, 3) := by decide +kernel
theorem d_Y_countArcs_35 : decode prog_8_method_18_code 35 = .ok (.iload_n 2, 1) := by decide +kernel
theorem d_Y_countArcs_36 : decode prog_8_method_18_code 36 = .ok (.iaload, 1) := by decide +kernel
theorem d_Y_countArcs_37 : decode prog_8_method_18_code 37 = .ok (.goto 4, 3) := by decide +kernel
theorem d_Y_countArcs_40 : decode prog_8_method_18_code 40 = .ok (.iconst 0, 1) := by decide +kernel
theorem d_Y_countArcs_41 : decode prog_8_method_18_code 41 = .ok (.iastore, 1) := by decide +kernel
theorem d_Y_countArcs_42 : decode prog_8_method_18_code 42 = .ok (.iload_n 1, 1) := by decide +kernel
theorem d_Y_countArcs_43 : decode prog_8_method_18_code 43 = .ok (.ifCond .lt 17, 3) := by decide +kernel
theorem d_Y_countArcs_46 : decode prog_8_method_18_code 46 = .ok (.aload_n 0, 1) := by decide +kernel
theorem d_Y_countArcs_47 : decode prog_8_method_18_code 47 = .ok (.getfield 22, 3) := by decide +kernel
theorem d_Y_countArcs_50 : decode prog_8_method_18_code 50 = .ok (.iload_n 2, 1) := by decide +kernel
theorem d_Y_countArcs_51 : decode prog_8_method_18_code 51 = .ok (.dup2, 1) := by decide +kernel
theorem d_Y_countArcs_52 : decode prog_8_method_18_code 52 = .ok (.iaload, 1) := by decide +kernel
theorem d_Y_countArcs_53 : decode prog_8_method_18_code 53 = .ok (.iconst 1, 1) := by decide +kernel
theorem d_Y_countArcs_54 : decode prog_8_method_18_code 54 = .ok (.iload_n 1, 1) := by decide +kernel
theorem d_Y_countArcs_55 : decode prog_8_method_18_code 55 = .ok (.ishl, 1) := by decide +kernel
theorem d_Y_countArcs_56 : decode prog_8_method_18_code 56 = .ok (.iconst (-1), 1) := by decide +kernel
theorem d_Y_countArcs_57 : decode prog_8_method_18_code 57 = .ok (.ixor, 1) := by decide +kernel
theorem d_Y_countArcs_58 : decode prog_8_method_18_code 58 = .ok (.iand, 1) := by decide +kernel
theorem d_Y_countArcs_59 : decode prog_8_method_18_code 59 = .ok (.iastore, 1) := by decide +kernel
theorem d_Y_countArcs_60 : decode prog_8_method_18_code 60 = .ok (.aload_n 0, 1) := by decide +kernel
theorem d_Y_countArcs_61 : decode prog_8_method_18_code 61 = .ok (.getfield 25, 3) := by decide +kernel
theorem d_Y_countArcs_64 : decode prog_8_method_18_code 64 = .ok (.iload_n 2, 1) := by decide +kernel
theorem d_Y_countArcs_65 : decode prog_8_method_18_code 65 = .ok (.iconst 0, 1) := by decide +kernel
theorem d_Y_countArcs_66 : decode prog_8_method_18_code 66 = .ok (.iastore, 1) := by decide +kernel
theorem d_Y_countArcs_67 : decode prog_8_method_18_code 67 = .ok (.iinc 2 1, 3) := by decide +kernel
theorem d_Y_countArcs_70 : decode prog_8_method_18_code 70 = .ok (.goto (-68), 3) := by decide +kernel
theorem d_Y_countArcs_73 : decode prog_8_method_18_code 73 = .ok (.iconst 0, 1) := by decide +kernel
theorem d_Y_countArcs_74 : decode prog_8_method_18_code 74 = .ok (.istore_n 2, 1) := by decide +kernel
theorem d_Y_countArcs_75 : decode prog_8_method_18_code 75 = .ok (.iload_n 2, 1) := by decide +kernel
theorem d_Y_countArcs_76 : decode prog_8_method_18_code 76 = .ok (.bipush 8, 2) := by decide +kernel
theorem d_Y_countArcs_78 : decode prog_8_method_18_code 78 = .ok (.if_icmp .ge 44, 3) := by decide +kernel
theorem d_Y_countArcs_81 : decode prog_8_method_18_code 81 = .ok (.iconst 0, 1) := by decide +kernel
theorem d_Y_countArcs_82 : decode prog_8_method_18_code 82 = .ok (.istore_n 3, 1) := by decide +kernel
theorem d_Y_countArcs_83 : decode prog_8_method_18_code 83 = .ok (.iload_n 3, 1) := by decide +kernel
theorem d_Y_countArcs_84 : decode prog_8_method_18_code 84 = .ok (.bipush 8, 2) := by decide +kernel
theorem d_Y_countArcs_86 : decode prog_8_method_18_code 86 = .ok (.if_icmp .ge 30, 3) := by decide +kernel
theorem d_Y_countArcs_89 : decode prog_8_method_18_code 89 = .ok (.aload_n 0, 1) := by decide +kernel
theorem d_Y_countArcs_90 : decode prog_8_method_18_code 90 = .ok (.getfield 25, 3) := by decide +kernel
theorem d_Y_countArcs_93 : decode prog_8_method_18_code 93 = .ok (.iload_n 3, 1) := by decide +kernel
theorem d_Y_countArcs_94 : decode prog_8_method_18_code 94 = .ok (.dup2, 1) := by decide +kernel
theorem d_Y_countArcs_95 : decode prog_8_method_18_code 95 = .ok (.iaload, 1) := by decide +kernel
theorem d_Y_countArcs_96 : decode prog_8_method_18_code 96 = .ok (.aload_n 0, 1) := by decide +kernel
theorem d_Y_countArcs_97 : decode prog_8_method_18_code 97 = .ok (.getfield 22, 3) := by decide +kernel
theorem d_Y_countArcs_100 : decode prog_8_method_18_code 100 = .ok (.iload_n 2, 1) := by decide +kernel
theorem d_Y_countArcs_101 : decode prog_8_method_18_code 101 = .ok (.iaload, 1) := by decide +kernel
theorem d_Y_countArcs_102 : decode prog_8_method_18_code 102 = .ok (.iload_n 3, 1) := by decide +kernel
theorem d_Y_countArcs_103 : decode prog_8_method_18_code 103 = .ok (.ishr, 1) := by decide +kernel
theorem d_Y_countArcs_104 : decode prog_8_method_18_code 104 = .ok (.iconst 1, 1) := by decide +kernel
theorem d_Y_countArcs_105 : decode prog_8_method_18_code 105 = .ok (.iand, 1) := by decide +kernel
theorem d_Y_countArcs_106 : decode prog_8_method_18_code 106 = .ok (.iload_n 2, 1) := by decide +kernel
theorem d_Y_countArcs_107 : decode prog_8_method_18_code 107 = .ok (.ishl, 1) := by decide +kernel
theorem d_Y_countArcs_108 : decode prog_8_method_18_code 108 = .ok (.ior, 1) := by decide +kernel
theorem d_Y_countArcs_109 : decode prog_8_method_18_code 109 = .ok (.iastore, 1) := by decide +kernel
theorem d_Y_countArcs_110 : decode prog_8_method_18_code 110 = .ok (.iinc 3 1, 3) := by decide +kernel
theorem d_Y_countArcs_113 : decode prog_8_method_18_code 113 = .ok (.goto (-30), 3) := by decide +kernel
theorem d_Y_countArcs_116 : decode prog_8_method_18_code 116 = .ok (.iinc 2 1, 3) := by decide +kernel
theorem d_Y_countArcs_119 : decode prog_8_method_18_code 119 = .ok (.goto (-44), 3) := by decide +kernel
theorem d_Y_countArcs_122 : decode prog_8_method_18_code 122 = .ok (.return_, 1) := by decide +kernel
theorem d_Y_belowOf_0 : decode prog_8_method_19_code 0 = .ok (.aload_n 0, 1) := by decide +kernel
theorem d_Y_belowOf_1 : decode prog_8_method_19_code 1 = .ok (.aload_n 0, 1) := by decide +kernel
theorem d_Y_belowOf_2 : decode prog_8_method_19_code 2 = .ok (.getfield 25, 3) := by decide +kernel
theorem d_Y_belowOf_5 : decode prog_8_method_19_code 5 = .ok (.aload_n 0, 1) := by decide +kernel
theorem d_Y_belowOf_6 : decode prog_8_method_19_code 6 = .ok (.getfield 25, 3) := by decide +kernel
theorem d_Y_belowOf_9 : decode prog_8_method_19_code 9 = .ok (.iload_n 1, 1) := by decide +kernel
theorem d_Y_belowOf_10 : decode prog_8_method_19_code 10 = .ok (.iaload, 1) := by decide +kernel
theorem d_Y_belowOf_11 : decode prog_8_method_19_code 11 = .ok (.invokevirtual 88, 3) := by decide +kernel
theorem d_Y_belowOf_14 : decode prog_8_method_19_code 14 = .ok (.ireturn, 1) := by decide +kernel
theorem d_Y_separated_0 : decode prog_8_method_22_code 0 = .ok (.aload_n 0, 1) := by decide +kernel
theorem d_Y_separated_1 : decode prog_8_method_22_code 1 = .ok (.iload_n 1, 1) := by decide +kernel
theorem d_Y_separated_2 : decode prog_8_method_22_code 2 = .ok (.iload_n 2, 1) := by decide +kernel
theorem d_Y_separated_3 : decode prog_8_method_22_code 3 = .ok (.iload_n 3, 1) := by decide +kernel
theorem d_Y_separated_4 : decode prog_8_method_22_code 4 = .ok (.invokevirtual 109, 3) := by decide +kernel
theorem d_Y_separated_7 : decode prog_8_method_22_code 7 = .ok (.ifCond .ne 6, 3) := by decide +kernel
theorem d_Y_separated_10 : decode prog_8_method_22_code 10 = .ok (.bipush (-2), 2) := by decide +kernel
theorem d_Y_separated_12 : decode prog_8_method_22_code 12 = .ok (.ireturn, 1) := by decide +kernel
theorem d_Y_separated_13 : decode prog_8_method_22_code 13 = .ok (.aload_n 0, 1) := by decide +kernel
theorem d_Y_separated_14 : decode prog_8_method_22_code 14 = .ok (.iconst (-1), 1) := by decide +kernel
theorem d_Y_separated_15 : decode prog_8_method_22_code 15 = .ok (.invokevirtual 103, 3) := by decide +kernel
theorem d_Y_separated_18 : decode prog_8_method_22_code 18 = .ok (.aload_n 0, 1) := by decide +kernel
theorem d_Y_separated_19 : decode prog_8_method_22_code 19 = .ok (.aload_n 0, 1) := by decide +kernel
theorem d_Y_separated_20 : decode prog_8_method_22_code 20 = .ok (.getfield 22, 3) := by decide +kernel
theorem d_Y_separated_23 : decode prog_8_method_22_code 23 = .ok (.iload_n 1, 1) := by decide +kernel
theorem d_Y_separated_24 : decode prog_8_method_22_code 24 = .ok (.iload_n 2, 1) := by decide +kernel
theorem d_Y_separated_25 : decode prog_8_method_22_code 25 = .ok (.iload_n 3, 1) := by decide +kernel
theorem d_Y_separated_26 : decode prog_8_method_22_code 26 = .ok (.invokevirtual 113, 3) := by decide +kernel
theorem d_Y_separated_29 : decode prog_8_method_22_code 29 = .ok (.ifCond .eq 7, 3) := by decide +kernel
theorem d_Y_separated_32 : decode prog_8_method_22_code 32 = .ok (.iconst 1, 1) := by decide +kernel
theorem d_Y_separated_33 : decode prog_8_method_22_code 33 = .ok (.goto 4, 3) := by decide +kernel
theorem d_Y_separated_36 : decode prog_8_method_22_code 36 = .ok (.iconst 0, 1) := by decide +kernel
theorem d_Y_separated_37 : decode prog_8_method_22_code 37 = .ok (.ireturn, 1) := by decide +kernel
theorem d_Y_isAsked_0 : decode prog_8_method_6_code 0 = .ok (.aload_n 0, 1) := by decide +kernel
theorem d_Y_isAsked_1 : decode prog_8_method_6_code 1 = .ok (.iload_n 1, 1) := by decide +kernel
theorem d_Y_isAsked_2 : decode prog_8_method_6_code 2 = .ok (.invokevirtual 77, 3) := by decide +kernel
theorem d_Y_isAsked_5 : decode prog_8_method_6_code 5 = .ok (.ifCond .eq 44, 3) := by decide +kernel
theorem d_Y_isAsked_8 : decode prog_8_method_6_code 8 = .ok (.aload_n 0, 1) := by decide +kernel
theorem d_Y_isAsked_9 : decode prog_8_method_6_code 9 = .ok (.iload_n 2, 1) := by decide +kernel
theorem d_Y_isAsked_10 : decode prog_8_method_6_code 10 = .ok (.invokevirtual 77, 3) := by decide +kernel
theorem d_Y_isAsked_13 : decode prog_8_method_6_code 13 = .ok (.ifCond .eq 36, 3) := by decide +kernel
theorem d_Y_isAsked_16 : decode prog_8_method_6_code 16 = .ok (.iload_n 1, 1) := by decide +kernel
theorem d_Y_isAsked_17 : decode prog_8_method_6_code 17 = .ok (.iload_n 2, 1) := by decide +kernel
theorem d_Y_isAsked_18 : decode prog_8_method_6_code 18 = .ok (.if_icmp .eq 31, 3) := by decide +kernel
theorem d_Y_isAsked_21 : decode prog_8_method_6_code 21 = .ok (.aload_n 0, 1) := by decide +kernel
theorem d_Y_isAsked_22 : decode prog_8_method_6_code 22 = .ok (.iload_n 3, 1) := by decide +kernel
theorem d_Y_isAsked_23 : decode prog_8_method_6_code 23 = .ok (.invokevirtual 81, 3) := by decide +kernel
theorem d_Y_isAsked_26 : decode prog_8_method_6_code 26 = .ok (.ifCond .eq 23, 3) := by decide +kernel
theorem d_Y_isAsked_29 : decode prog_8_method_6_code 29 = .ok (.iload_n 3, 1) := by decide +kernel
theorem d_Y_isAsked_30 : decode prog_8_method_6_code 30 = .ok (.iload_n 1, 1) := by decide +kernel
theorem d_Y_isAsked_31 : decode prog_8_method_6_code 31 = .ok (.ishr, 1) := by decide +kernel
theorem d_Y_isAsked_32 : decode prog_8_method_6_code 32 = .ok (.iconst 1, 1) := by decide +kernel
theorem d_Y_isAsked_33 : decode prog_8_method_6_code 33 = .ok (.iand, 1) := by decide +kernel
theorem d_Y_isAsked_34 : decode prog_8_method_6_code 34 = .ok (.ifCond .ne 15, 3) := by decide +kernel
theorem d_Y_isAsked_37 : decode prog_8_method_6_code 37 = .ok (.iload_n 3, 1) := by decide +kernel
theorem d_Y_isAsked_38 : decode prog_8_method_6_code 38 = .ok (.iload_n 2, 1) := by decide +kernel
theorem d_Y_isAsked_39 : decode prog_8_method_6_code 39 = .ok (.ishr, 1) := by decide +kernel
theorem d_Y_isAsked_40 : decode prog_8_method_6_code 40 = .ok (.iconst 1, 1) := by decide +kernel
theorem d_Y_isAsked_41 : decode prog_8_method_6_code 41 = .ok (.iand, 1) := by decide +kernel
theorem d_Y_isAsked_42 : decode prog_8_method_6_code 42 = .ok (.ifCond .ne 7, 3) := by decide +kernel
theorem d_Y_isAsked_45 : decode prog_8_method_6_code 45 = .ok (.iconst 1, 1) := by decide +kernel
theorem d_Y_isAsked_46 : decode prog_8_method_6_code 46 = .ok (.goto 4, 3) := by decide +kernel
theorem d_Y_isAsked_49 : decode prog_8_method_6_code 49 = .ok (.iconst 0, 1) := by decide +kernel
theorem d_Y_isAsked_50 : decode prog_8_method_6_code 50 = .ok (.ireturn, 1) := by decide +kernel
theorem d_Y_isSet_0 : decode prog_8_method_5_code 0 = .ok (.iload_n 1, 1) := by decide +kernel
theorem d_Y_isSet_1 : decode prog_8_method_5_code 1 = .ok (.ifCond .lt 17, 3) := by decide +kernel
theorem d_Y_isSet_4 : decode prog_8_method_5_code 4 = .ok (.iload_n 1, 1) := by decide +kernel
theorem d_Y_isSet_5 : decode prog_8_method_5_code 5 = .ok (.iconst 1, 1) := by decide +kernel
theorem d_Y_isSet_6 : decode prog_8_method_5_code 6 = .ok (.aload_n 0, 1) := by decide +kernel
theorem d_Y_isSet_7 : decode prog_8_method_5_code 7 = .ok (.getfield 63, 3) := by decide +kernel
theorem d_Y_isSet_10 : decode prog_8_method_5_code 10 = .ok (.ishl, 1) := by decide +kernel
theorem d_Y_isSet_11 : decode prog_8_method_5_code 11 = .ok (.if_icmp .ge 7, 3) := by decide +kernel
theorem d_Y_isSet_14 : decode prog_8_method_5_code 14 = .ok (.iconst 1, 1) := by decide +kernel
theorem d_Y_isSet_15 : decode prog_8_method_5_code 15 = .ok (.goto 4, 3) := by decide +kernel
theorem d_Y_isSet_18 : decode prog_8_method_5_code 18 = .ok (.iconst 0, 1) := by decide +kernel
theorem d_Y_isSet_19 : decode prog_8_method_5_code 19 = .ok (.ireturn, 1) := by decide +kernel
theorem d_Y_isSeparated_0 : decode prog_8_method_21_code 0 = .ok (.aload_n 0, 1) := by decide +kernel
theorem d_Y_isSeparated_1 : decode prog_8_method_21_code 1 = .ok (.aload_n 1, 1) := by decide +kernel
theorem d_Y_isSeparated_2 : decode prog_8_method_21_code 2 = .ok (.iload 4, 2) := by decide +kernel
theorem d_Y_isSeparated_4 : decode prog_8_method_21_code 4 = .ok (.iconst 1, 1) := by decide +kernel
theorem d_Y_isSeparated_5 : decode prog_8_method_21_code 5 = .ok (.iload_n 2, 1) := by decide +kernel
theorem d_Y_isSeparated_6 : decode prog_8_method_21_code 6 = .ok (.ishl, 1) := by decide +kernel
theorem d_Y_isSeparated_7 : decode prog_8_method_21_code 7 = .ok (.ior, 1) := by decide +kernel
theorem d_Y_isSeparated_8 : decode prog_8_method_21_code 8 = .ok (.iconst 1, 1) := by decide +kernel
theorem d_Y_isSeparated_9 : decode prog_8_method_21_code 9 = .ok (.iload_n 3, 1) := by decide +kernel
theorem d_Y_isSeparated_10 : decode prog_8_method_21_code 10 = .ok (.ishl, 1) := by decide +kernel
theorem d_Y_isSeparated_11 : decode prog_8_method_21_code 11 = .ok (.ior, 1) := by decide +kernel
theorem d_Y_isSeparated_12 : decode prog_8_method_21_code 12 = .ok (.invokevirtual 88, 3) := by decide +kernel
theorem d_Y_isSeparated_15 : decode prog_8_method_21_code 15 = .ok (.istore 5, 2) := by decide +kernel
theorem d_Y_isSeparated_17 : decode prog_8_method_21_code 17 = .ok (.iconst 0, 1) := by decide +kernel
theorem d_Y_isSeparated_18 : decode prog_8_method_21_code 18 = .ok (.istore 6, 2) := by decide +kernel
theorem d_Y_isSeparated_20 : decode prog_8_method_21_code 20 = .ok (.iload 6, 2) := by decide +kernel
theorem d_Y_isSeparated_22 : decode prog_8_method_21_code 22 = .ok (.aload_n 0, 1) := by decide +kernel
theorem d_Y_isSeparated_23 : decode prog_8_method_21_code 23 = .ok (.getfield 63, 3) := by decide +kernel
theorem d_Y_isSeparated_26 : decode prog_8_method_21_code 26 = .ok (.if_icmp .ge 17, 3) := by decide +kernel
theorem d_Y_isSeparated_29 : decode prog_8_method_21_code 29 = .ok (.aload_n 0, 1) := by decide +kernel
theorem d_Y_isSeparated_30 : decode prog_8_method_21_code 30 = .ok (.getfield 28, 3) := by decide +kernel
theorem d_Y_isSeparated_33 : decode prog_8_method_21_code 33 = .ok (.iload 6, 2) := by decide +kernel
theorem d_Y_isSeparated_35 : decode prog_8_method_21_code 35 = .ok (.iconst 0, 1) := by decide +kernel
theorem d_Y_isSeparated_36 : decode prog_8_method_21_code 36 = .ok (.iastore, 1) := by decide +kernel
theorem d_Y_isSeparated_37 : decode prog_8_method_21_code 37 = .ok (.iinc 6 1, 3) := by decide +kernel
theorem d_Y_isSeparated_40 : decode prog_8_method_21_code 40 = .ok (.goto (-20), 3) := by decide +kernel
theorem d_Y_isSeparated_43 : decode prog_8_method_21_code 43 = .ok (.iconst 0, 1) := by decide +kernel
theorem d_Y_isSeparated_44 : decode prog_8_method_21_code 44 = .ok (.istore 6, 2) := by decide +kernel
theorem d_Y_isSeparated_46 : decode prog_8_method_21_code 46 = .ok (.iload 6, 2) := by decide +kernel
theorem d_Y_isSeparated_48 : decode prog_8_method_21_code 48 = .ok (.aload_n 0, 1) := by decide +kernel
theorem d_Y_isSeparated_49 : decode prog_8_method_21_code 49 = .ok (.getfield 63, 3) := by decide +kernel
theorem d_Y_isSeparated_52 : decode prog_8_method_21_code 52 = .ok (.if_icmp .ge 91, 3) := by decide +kernel
theorem d_Y_isSeparated_55 : decode prog_8_method_21_code 55 = .ok (.iload 5, 2) := by decide +kernel
theorem d_Y_isSeparated_57 : decode prog_8_method_21_code 57 = .ok (.iload 6, 2) := by decide +kernel
theorem d_Y_isSeparated_59 : decode prog_8_method_21_code 59 = .ok (.ishr, 1) := by decide +kernel
theorem d_Y_isSeparated_60 : decode prog_8_method_21_code 60 = .ok (.iconst 1, 1) := by decide +kernel
theorem d_Y_isSeparated_61 : decode prog_8_method_21_code 61 = .ok (.iand, 1) := by decide +kernel
theorem d_Y_isSeparated_62 : decode prog_8_method_21_code 62 = .ok (.iconst 1, 1) := by decide +kernel
theorem d_Y_isSeparated_63 : decode prog_8_method_21_code 63 = .ok (.if_icmp .ne 10, 3) := by decide +kernel
theorem d_Y_isSeparated_66 : decode prog_8_method_21_code 66 = .ok (.aload_n 1, 1) := by decide +kernel
theorem d_Y_isSeparated_67 : decode prog_8_method_21_code 67 = .ok (.iload 6, 2) := by decide +kernel
theorem d_Y_isSeparated_69 : decode prog_8_method_21_code 69 = .ok (.iaload, 1) := by decide +kernel
theorem d_Y_isSeparated_70 : decode prog_8_method_21_code 70 = .ok (.goto 4, 3) := by decide +kernel
theorem d_Y_isSeparated_73 : decode prog_8_method_21_code 73 = .ok (.iconst 0, 1) := by decide +kernel
theorem d_Y_isSeparated_74 : decode prog_8_method_21_code 74 = .ok (.istore 7, 2) := by decide +kernel
theorem d_Y_isSeparated_76 : decode prog_8_method_21_code 76 = .ok (.aload_n 0, 1) := by decide +kernel
theorem d_Y_isSeparated_77 : decode prog_8_method_21_code 77 = .ok (.getfield 28, 3) := by decide +kernel
theorem d_Y_isSeparated_80 : decode prog_8_method_21_code 80 = .ok (.iload 6, 2) := by decide +kernel
theorem d_Y_isSeparated_82 : decode prog_8_method_21_code 82 = .ok (.dup2, 1) := by decide +kernel
theorem d_Y_isSeparated_83 : decode prog_8_method_21_code 83 = .ok (.iaload, 1) := by decide +kernel
theorem d_Y_isSeparated_84 : decode prog_8_method_21_code 84 = .ok (.iload 7, 2) := by decide +kernel
theorem d_Y_isSeparated_86 : decode prog_8_method_21_code 86 = .ok (.ior, 1) := by decide +kernel
theorem d_Y_isSeparated_87 : decode prog_8_method_21_code 87 = .ok (.iastore, 1) := by decide +kernel
theorem d_Y_isSeparated_88 : decode prog_8_method_21_code 88 = .ok (.iconst 0, 1) := by decide +kernel
theorem d_Y_isSeparated_89 : decode prog_8_method_21_code 89 = .ok (.istore 8, 2) := by decide +kernel
theorem d_Y_isSeparated_91 : decode prog_8_method_21_code 91 = .ok (.iload 7, 2) := by decide +kernel
theorem d_Y_isSeparated_93 : decode prog_8_method_21_code 93 = .ok (.iload 8, 2) := by decide +kernel
theorem d_Y_isSeparated_95 : decode prog_8_method_21_code 95 = .ok (.ishr, 1) := by decide +kernel
theorem d_Y_isSeparated_96 : decode prog_8_method_21_code 96 = .ok (.ifCond .eq 41, 3) := by decide +kernel
theorem d_Y_isSeparated_99 : decode prog_8_method_21_code 99 = .ok (.aload_n 0, 1) := by decide +kernel
theorem d_Y_isSeparated_100 : decode prog_8_method_21_code 100 = .ok (.getfield 28, 3) := by decide +kernel
theorem d_Y_isSeparated_103 : decode prog_8_method_21_code 103 = .ok (.iload 8, 2) := by decide +kernel
theorem d_Y_isSeparated_105 : decode prog_8_method_21_code 105 = .ok (.dup2, 1) := by decide +kernel
theorem d_Y_isSeparated_106 : decode prog_8_method_21_code 106 = .ok (.iaload, 1) := by decide +kernel
theorem d_Y_isSeparated_107 : decode prog_8_method_21_code 107 = .ok (.iload 7, 2) := by decide +kernel
theorem d_Y_isSeparated_109 : decode prog_8_method_21_code 109 = .ok (.iload 8, 2) := by decide +kernel
theorem d_Y_isSeparated_111 : decode prog_8_method_21_code 111 = .ok (.ishr, 1) := by decide +kernel
theorem d_Y_isSeparated_112 : decode prog_8_method_21_code 112 = .ok (.iconst 1, 1) := by decide +kernel
theorem d_Y_isSeparated_113 : decode prog_8_method_21_code 113 = .ok (.iand, 1) := by decide +kernel
theorem d_Y_isSeparated_114 : decode prog_8_method_21_code 114 = .ok (.iconst 1, 1) := by decide +kernel
theorem d_Y_isSeparated_115 : decode prog_8_method_21_code 115 = .ok (.if_icmp .ne 13, 3) := by decide +kernel
theorem d_Y_isSeparated_118 : decode prog_8_method_21_code 118 = .ok (.iload 7, 2) := by decide +kernel
theorem d_Y_isSeparated_120 : decode prog_8_method_21_code 120 = .ok (.iconst 1, 1) := by decide +kernel
theorem d_Y_isSeparated_121 : decode prog_8_method_21_code 121 = .ok (.iload 6, 2) := by decide +kernel
theorem d_Y_isSeparated_123 : decode prog_8_method_21_code 123 = .ok (.ishl, 1) := by decide +kernel
theorem d_Y_isSeparated_124 : decode prog_8_method_21_code 124 = .ok (.ior, 1) := by decide +kernel
theorem d_Y_isSeparated_125 : decode prog_8_method_21_code 125 = .ok (.goto 4, 3) := by decide +kernel
theorem d_Y_isSeparated_128 : decode prog_8_method_21_code 128 = .ok (.iconst 0, 1) := by decide +kernel
theorem d_Y_isSeparated_129 : decode prog_8_method_21_code 129 = .ok (.ior, 1) := by decide +kernel
theorem d_Y_isSeparated_130 : decode prog_8_method_21_code 130 = .ok (.iastore, 1) := by decide +kernel
theorem d_Y_isSeparated_131 : decode prog_8_method_21_code 131 = .ok (.iinc 8 1, 3) := by decide +kernel
theorem d_Y_isSeparated_134 : decode prog_8_method_21_code 134 = .ok (.goto (-43), 3) := by decide +kernel
theorem d_Y_isSeparated_137 : decode prog_8_method_21_code 137 = .ok (.iinc 6 1, 3) := by decide +kernel
theorem d_Y_isSeparated_140 : decode prog_8_method_21_code 140 = .ok (.goto (-94), 3) := by decide +kernel
theorem d_Y_isSeparated_143 : decode prog_8_method_21_code 143 = .ok (.iconst 1, 1) := by decide +kernel
theorem d_Y_isSeparated_144 : decode prog_8_method_21_code 144 = .ok (.iload_n 2, 1) := by decide +kernel
theorem d_Y_isSeparated_145 : decode prog_8_method_21_code 145 = .ok (.ishl, 1) := by decide +kernel
theorem d_Y_isSeparated_146 : decode prog_8_method_21_code 146 = .ok (.istore 6, 2) := by decide +kernel
theorem d_Y_isSeparated_148 : decode prog_8_method_21_code 148 = .ok (.iconst 0, 1) := by decide +kernel
theorem d_Y_isSeparated_149 : decode prog_8_method_21_code 149 = .ok (.istore 7, 2) := by decide +kernel
theorem d_Y_isSeparated_151 : decode prog_8_method_21_code 151 = .ok (.iload 6, 2) := by decide +kernel
theorem d_Y_isSeparated_153 : decode prog_8_method_21_code 153 = .ok (.iload 7, 2) := by decide +kernel
theorem d_Y_isSeparated_155 : decode prog_8_method_21_code 155 = .ok (.if_icmp .eq 68, 3) := by decide +kernel
theorem d_Y_isSeparated_158 : decode prog_8_method_21_code 158 = .ok (.iload 6, 2) := by decide +kernel
theorem d_Y_isSeparated_160 : decode prog_8_method_21_code 160 = .ok (.iload_n 3, 1) := by decide +kernel
theorem d_Y_isSeparated_161 : decode prog_8_method_21_code 161 = .ok (.ishr, 1) := by decide +kernel
theorem d_Y_isSeparated_162 : decode prog_8_method_21_code 162 = .ok (.iconst 1, 1) := by decide +kernel
theorem d_Y_isSeparated_163 : decode prog_8_method_21_code 163 = .ok (.iand, 1) := by decide +kernel
theorem d_Y_isSeparated_164 : decode prog_8_method_21_code 164 = .ok (.ifCond .ne 59, 3) := by decide +kernel
theorem d_Y_isSeparated_167 : decode prog_8_method_21_code 167 = .ok (.iload 6, 2) := by decide +kernel
theorem d_Y_isSeparated_169 : decode prog_8_method_21_code 169 = .ok (.istore 7, 2) := by decide +kernel
theorem d_Y_isSeparated_171 : decode prog_8_method_21_code 171 = .ok (.iconst 0, 1) := by decide +kernel
theorem d_Y_isSeparated_172 : decode prog_8_method_21_code 172 = .ok (.istore 8, 2) := by decide +kernel
theorem d_Y_isSeparated_174 : decode prog_8_method_21_code 174 = .ok (.iload 6, 2) := by decide +kernel
theorem d_Y_isSeparated_176 : decode prog_8_method_21_code 176 = .ok (.iload 8, 2) := by decide +kernel
theorem d_Y_isSeparated_178 : decode prog_8_method_21_code 178 = .ok (.ishr, 1) := by decide +kernel
theorem d_Y_isSeparated_179 : decode prog_8_method_21_code 179 = .ok (.ifCond .eq 41, 3) := by decide +kernel
theorem d_Y_isSeparated_182 : decode prog_8_method_21_code 182 = .ok (.iload 6, 2) := by decide +kernel
theorem d_Y_isSeparated_184 : decode prog_8_method_21_code 184 = .ok (.iload 6, 2) := by decide +kernel
theorem d_Y_isSeparated_186 : decode prog_8_method_21_code 186 = .ok (.iload 8, 2) := by decide +kernel
theorem d_Y_isSeparated_188 : decode prog_8_method_21_code 188 = .ok (.ishr, 1) := by decide +kernel
theorem d_Y_isSeparated_189 : decode prog_8_method_21_code 189 = .ok (.iconst 1, 1) := by decide +kernel
theorem d_Y_isSeparated_190 : decode prog_8_method_21_code 190 = .ok (.iand, 1) := by decide +kernel
theorem d_Y_isSeparated_191 : decode prog_8_method_21_code 191 = .ok (.iconst 1, 1) := by decide +kernel
theorem d_Y_isSeparated_192 : decode prog_8_method_21_code 192 = .ok (.if_icmp .ne 18, 3) := by decide +kernel
theorem d_Y_isSeparated_195 : decode prog_8_method_21_code 195 = .ok (.aload_n 0, 1) := by decide +kernel
theorem d_Y_isSeparated_196 : decode prog_8_method_21_code 196 = .ok (.getfield 28, 3) := by decide +kernel
theorem d_Y_isSeparated_199 : decode prog_8_method_21_code 199 = .ok (.iload 8, 2) := by decide +kernel
theorem d_Y_isSeparated_201 : decode prog_8_method_21_code 201 = .ok (.iaload, 1) := by decide +kernel
theorem d_Y_isSeparated_202 : decode prog_8_method_21_code 202 = .ok (.iload 4, 2) := by decide +kernel
theorem d_Y_isSeparated_204 : decode prog_8_method_21_code 204 = .ok (.iconst (-1), 1) := by decide +kernel
theorem d_Y_isSeparated_205 : decode prog_8_method_21_code 205 = .ok (.ixor, 1) := by decide +kernel
theorem d_Y_isSeparated_206 : decode prog_8_method_21_code 206 = .ok (.iand, 1) := by decide +kernel
theorem d_Y_isSeparated_207 : decode prog_8_method_21_code 207 = .ok (.goto 4, 3) := by decide +kernel
theorem d_Y_isSeparated_210 : decode prog_8_method_21_code 210 = .ok (.iconst 0, 1) := by decide +kernel
theorem d_Y_isSeparated_211 : decode prog_8_method_21_code 211 = .ok (.ior, 1) := by decide +kernel
theorem d_Y_isSeparated_212 : decode prog_8_method_21_code 212 = .ok (.istore 6, 2) := by decide +kernel
theorem d_Y_isSeparated_214 : decode prog_8_method_21_code 214 = .ok (.iinc 8 1, 3) := by decide +kernel
theorem d_Y_isSeparated_217 : decode prog_8_method_21_code 217 = .ok (.goto (-43), 3) := by decide +kernel
theorem d_Y_isSeparated_220 : decode prog_8_method_21_code 220 = .ok (.goto (-69), 3) := by decide +kernel
theorem d_Y_isSeparated_223 : decode prog_8_method_21_code 223 = .ok (.iload 6, 2) := by decide +kernel
theorem d_Y_isSeparated_225 : decode prog_8_method_21_code 225 = .ok (.iload_n 3, 1) := by decide +kernel
theorem d_Y_isSeparated_226 : decode prog_8_method_21_code 226 = .ok (.ishr, 1) := by decide +kernel
theorem d_Y_isSeparated_227 : decode prog_8_method_21_code 227 = .ok (.iconst 1, 1) := by decide +kernel
theorem d_Y_isSeparated_228 : decode prog_8_method_21_code 228 = .ok (.iand, 1) := by decide +kernel
theorem d_Y_isSeparated_229 : decode prog_8_method_21_code 229 = .ok (.ifCond .ne 7, 3) := by decide +kernel
theorem d_Y_isSeparated_232 : decode prog_8_method_21_code 232 = .ok (.iconst 1, 1) := by decide +kernel
theorem d_Y_isSeparated_233 : decode prog_8_method_21_code 233 = .ok (.goto 4, 3) := by decide +kernel
theorem d_Y_isSeparated_236 : decode prog_8_method_21_code 236 = .ok (.iconst 0, 1) := by decide +kernel
theorem d_Y_isSeparated_237 : decode prog_8_method_21_code 237 = .ok (.ireturn, 1) := by decide +kernel
theorem d_Y_walk_0 : decode prog_8_method_23_code 0 = .ok (.aload_n 0, 1) := by decide +kernel
theorem d_Y_walk_1 : decode prog_8_method_23_code 1 = .ok (.iload_n 1, 1) := by decide +kernel
theorem d_Y_walk_2 : decode prog_8_method_23_code 2 = .ok (.iload_n 2, 1) := by decide +kernel
theorem d_Y_walk_3 : decode prog_8_method_23_code 3 = .ok (.iload_n 3, 1) := by decide +kernel
theorem d_Y_walk_4 : decode prog_8_method_23_code 4 = .ok (.invokevirtual 109, 3) := by decide +kernel
theorem d_Y_walk_7 : decode prog_8_method_23_code 7 = .ok (.ifCond .ne 6, 3) := by decide +kernel
theorem d_Y_walk_10 : decode prog_8_method_23_code 10 = .ok (.bipush (-2), 2) := by decide +kernel
theorem d_Y_walk_12 : decode prog_8_method_23_code 12 = .ok (.ireturn, 1) := by decide +kernel
theorem d_Y_walk_13 : decode prog_8_method_23_code 13 = .ok (.aload_n 0, 1) := by decide +kernel
theorem d_Y_walk_14 : decode prog_8_method_23_code 14 = .ok (.iconst (-1), 1) := by decide +kernel
theorem d_Y_walk_15 : decode prog_8_method_23_code 15 = .ok (.invokevirtual 103, 3) := by decide +kernel
theorem d_Y_walk_18 : decode prog_8_method_23_code 18 = .ok (.aload_n 0, 1) := by decide +kernel
theorem d_Y_walk_19 : decode prog_8_method_23_code 19 = .ok (.aload_n 0, 1) := by decide +kernel
theorem d_Y_walk_20 : decode prog_8_method_23_code 20 = .ok (.getfield 22, 3) := by decide +kernel
theorem d_Y_walk_23 : decode prog_8_method_23_code 23 = .ok (.iload_n 3, 1) := by decide +kernel
theorem d_Y_walk_24 : decode prog_8_method_23_code 24 = .ok (.invokevirtual 88, 3) := by decide +kernel
theorem d_Y_walk_27 : decode prog_8_method_23_code 27 = .ok (.istore 4, 2) := by decide +kernel
theorem d_Y_walk_29 : decode prog_8_method_23_code 29 = .ok (.aload_n 0, 1) := by decide +kernel
theorem d_Y_walk_30 : decode prog_8_method_23_code 30 = .ok (.getfield 37, 3) := by decide +kernel
theorem d_Y_walk_33 : decode prog_8_method_23_code 33 = .ok (.iconst 0, 1) := by decide +kernel
theorem d_Y_walk_34 : decode prog_8_method_23_code 34 = .ok (.iconst 0, 1) := by decide +kernel
theorem d_Y_walk_35 : decode prog_8_method_23_code 35 = .ok (.iastore, 1) := by decide +kernel
theorem d_Y_walk_36 : decode prog_8_method_23_code 36 = .ok (.aload_n 0, 1) := by decide +kernel
theorem d_Y_walk_37 : decode prog_8_method_23_code 37 = .ok (.getfield 37, 3) := by decide +kernel
theorem d_Y_walk_40 : decode prog_8_method_23_code 40 = .ok (.iconst 1, 1) := by decide +kernel
theorem d_Y_walk_41 : decode prog_8_method_23_code 41 = .ok (.iconst 0, 1) := by decide +kernel
theorem d_Y_walk_42 : decode prog_8_method_23_code 42 = .ok (.iastore, 1) := by decide +kernel
theorem d_Y_walk_43 : decode prog_8_method_23_code 43 = .ok (.aload_n 0, 1) := by decide +kernel
theorem d_Y_walk_44 : decode prog_8_method_23_code 44 = .ok (.getfield 31, 3) := by decide +kernel
theorem d_Y_walk_47 : decode prog_8_method_23_code 47 = .ok (.iconst 0, 1) := by decide +kernel
theorem d_Y_walk_48 : decode prog_8_method_23_code 48 = .ok (.aload_n 0, 1) := by decide +kernel
theorem d_Y_walk_49 : decode prog_8_method_23_code 49 = .ok (.iload_n 1, 1) := by decide +kernel
theorem d_Y_walk_50 : decode prog_8_method_23_code 50 = .ok (.iconst 0, 1) := by decide +kernel
theorem d_Y_walk_51 : decode prog_8_method_23_code 51 = .ok (.invokevirtual 117, 3) := by decide +kernel
theorem d_Y_walk_54 : decode prog_8_method_23_code 54 = .ok (.iastore, 1) := by decide +kernel
theorem d_Y_walk_55 : decode prog_8_method_23_code 55 = .ok (.aload_n 0, 1) := by decide +kernel
theorem d_Y_walk_56 : decode prog_8_method_23_code 56 = .ok (.getfield 31, 3) := by decide +kernel
theorem d_Y_walk_59 : decode prog_8_method_23_code 59 = .ok (.iconst 1, 1) := by decide +kernel
theorem d_Y_walk_60 : decode prog_8_method_23_code 60 = .ok (.aload_n 0, 1) := by decide +kernel
theorem d_Y_walk_61 : decode prog_8_method_23_code 61 = .ok (.iload_n 1, 1) := by decide +kernel
theorem d_Y_walk_62 : decode prog_8_method_23_code 62 = .ok (.iconst 1, 1) := by decide +kernel
theorem d_Y_walk_63 : decode prog_8_method_23_code 63 = .ok (.invokevirtual 117, 3) := by decide +kernel
theorem d_Y_walk_66 : decode prog_8_method_23_code 66 = .ok (.iastore, 1) := by decide +kernel
