theorem d_X_init_0 : decode prog_1_method_1_code 0 = .ok (.aload_n 0, 1) := by decide +kernel
theorem d_X_init_1 : decode prog_1_method_1_code 1 = .ok (.invokespecial 3, 3) := by decide +kernel
theorem d_X_init_4 : decode prog_1_method_1_code 4 = .ok (.aload_n 0, 1) := by decide +kernel
theorem d_X_init_5 : decode prog_1_method_1_code 5 = .ok (.new 9, 3) := by decide +kernel
theorem d_X_init_8 : decode prog_1_method_1_code 8 = .ok (.dup, 1) := by decide +kernel
theorem d_X_init_9 : decode prog_1_method_1_code 9 = .ok (.invokespecial 11, 3) := by decide +kernel
theorem d_X_init_12 : decode prog_1_method_1_code 12 = .ok (.putfield 12, 3) := by decide +kernel
theorem d_X_init_15 : decode prog_1_method_1_code 15 = .ok (.aload_n 0, 1) := by decide +kernel
theorem d_X_init_16 : decode prog_1_method_1_code 16 = .ok (.new 9, 3) := by decide +kernel
theorem d_X_init_19 : decode prog_1_method_1_code 19 = .ok (.dup, 1) := by decide +kernel
theorem d_X_init_20 : decode prog_1_method_1_code 20 = .ok (.invokespecial 11, 3) := by decide +kernel
theorem d_X_init_23 : decode prog_1_method_1_code 23 = .ok (.putfield 16, 3) := by decide +kernel
theorem d_X_init_26 : decode prog_1_method_1_code 26 = .ok (.aload_n 0, 1) := by decide +kernel
theorem d_X_init_27 : decode prog_1_method_1_code 27 = .ok (.iconst 0, 1) := by decide +kernel
theorem d_X_init_28 : decode prog_1_method_1_code 28 = .ok (.putfield 19, 3) := by decide +kernel
theorem d_X_init_31 : decode prog_1_method_1_code 31 = .ok (.aload_n 0, 1) := by decide +kernel
theorem d_X_init_32 : decode prog_1_method_1_code 32 = .ok (.new 23, 3) := by decide +kernel
theorem d_X_init_35 : decode prog_1_method_1_code 35 = .ok (.dup, 1) := by decide +kernel
theorem d_X_init_36 : decode prog_1_method_1_code 36 = .ok (.invokespecial 25, 3) := by decide +kernel
theorem d_X_init_39 : decode prog_1_method_1_code 39 = .ok (.putfield 26, 3) := by decide +kernel
theorem d_X_init_42 : decode prog_1_method_1_code 42 = .ok (.aload_n 0, 1) := by decide +kernel
theorem d_X_init_43 : decode prog_1_method_1_code 43 = .ok (.new 30, 3) := by decide +kernel
theorem d_X_init_46 : decode prog_1_method_1_code 46 = .ok (.dup, 1) := by decide +kernel
theorem d_X_init_47 : decode prog_1_method_1_code 47 = .ok (.invokespecial 32, 3) := by decide +kernel
theorem d_X_init_50 : decode prog_1_method_1_code 50 = .ok (.putfield 33, 3) := by decide +kernel
theorem d_X_init_53 : decode prog_1_method_1_code 53 = .ok (.aload_n 0, 1) := by decide +kernel
theorem d_X_init_54 : decode prog_1_method_1_code 54 = .ok (.new 37, 3) := by decide +kernel
theorem d_X_init_57 : decode prog_1_method_1_code 57 = .ok (.dup, 1) := by decide +kernel
theorem d_X_init_58 : decode prog_1_method_1_code 58 = .ok (.invokespecial 39, 3) := by decide +kernel
theorem d_X_init_61 : decode prog_1_method_1_code 61 = .ok (.putfield 40, 3) := by decide +kernel
theorem d_X_init_64 : decode prog_1_method_1_code 64 = .ok (.aload_n 0, 1) := by decide +kernel
theorem d_X_init_65 : decode prog_1_method_1_code 65 = .ok (.new 44, 3) := by decide +kernel
theorem d_X_init_68 : decode prog_1_method_1_code 68 = .ok (.dup, 1) := by decide +kernel
theorem d_X_init_69 : decode prog_1_method_1_code 69 = .ok (.invokespecial 46, 3) := by decide +kernel
theorem d_X_init_72 : decode prog_1_method_1_code 72 = .ok (.putfield 47, 3) := by decide +kernel
theorem d_X_init_75 : decode prog_1_method_1_code 75 = .ok (.aload_n 0, 1) := by decide +kernel
theorem d_X_init_76 : decode prog_1_method_1_code 76 = .ok (.new 44, 3) := by decide +kernel
theorem d_X_init_79 : decode prog_1_method_1_code 79 = .ok (.dup, 1) := by decide +kernel
theorem d_X_init_80 : decode prog_1_method_1_code 80 = .ok (.invokespecial 46, 3) := by decide +kernel
theorem d_X_init_83 : decode prog_1_method_1_code 83 = .ok (.putfield 51, 3) := by decide +kernel
theorem d_X_init_86 : decode prog_1_method_1_code 86 = .ok (.aload_n 0, 1) := by decide +kernel
theorem d_X_init_87 : decode prog_1_method_1_code 87 = .ok (.new 44, 3) := by decide +kernel
theorem d_X_init_90 : decode prog_1_method_1_code 90 = .ok (.dup, 1) := by decide +kernel
theorem d_X_init_91 : decode prog_1_method_1_code 91 = .ok (.invokespecial 46, 3) := by decide +kernel
theorem d_X_init_94 : decode prog_1_method_1_code 94 = .ok (.putfield 54, 3) := by decide +kernel
theorem d_X_init_97 : decode prog_1_method_1_code 97 = .ok (.aload_n 0, 1) := by decide +kernel
theorem d_X_init_98 : decode prog_1_method_1_code 98 = .ok (.new 44, 3) := by decide +kernel
theorem d_X_init_101 : decode prog_1_method_1_code 101 = .ok (.dup, 1) := by decide +kernel
theorem d_X_init_102 : decode prog_1_method_1_code 102 = .ok (.invokespecial 46, 3) := by decide +kernel
theorem d_X_init_105 : decode prog_1_method_1_code 105 = .ok (.putfield 57, 3) := by decide +kernel
theorem d_X_init_108 : decode prog_1_method_1_code 108 = .ok (.return_, 1) := by decide +kernel
theorem d_G_init_0 : decode prog_2_method_1_code 0 = .ok (.aload_n 0, 1) := by decide +kernel
theorem d_G_init_1 : decode prog_2_method_1_code 1 = .ok (.invokespecial 3, 3) := by decide +kernel
theorem d_G_init_4 : decode prog_2_method_1_code 4 = .ok (.aload_n 0, 1) := by decide +kernel
theorem d_G_init_5 : decode prog_2_method_1_code 5 = .ok (.iconst 0, 1) := by decide +kernel
theorem d_G_init_6 : decode prog_2_method_1_code 6 = .ok (.putfield 9, 3) := by decide +kernel
theorem d_G_init_9 : decode prog_2_method_1_code 9 = .ok (.aload_n 0, 1) := by decide +kernel
theorem d_G_init_10 : decode prog_2_method_1_code 10 = .ok (.iconst 0, 1) := by decide +kernel
theorem d_G_init_11 : decode prog_2_method_1_code 11 = .ok (.putfield 15, 3) := by decide +kernel
theorem d_G_init_14 : decode prog_2_method_1_code 14 = .ok (.aload_n 0, 1) := by decide +kernel
theorem d_G_init_15 : decode prog_2_method_1_code 15 = .ok (.bipush 8, 2) := by decide +kernel
theorem d_G_init_17 : decode prog_2_method_1_code 17 = .ok (.newarray .int, 2) := by decide +kernel
theorem d_G_init_19 : decode prog_2_method_1_code 19 = .ok (.putfield 18, 3) := by decide +kernel
theorem d_G_init_22 : decode prog_2_method_1_code 22 = .ok (.aload_n 0, 1) := by decide +kernel
theorem d_G_init_23 : decode prog_2_method_1_code 23 = .ok (.bipush 8, 2) := by decide +kernel
theorem d_G_init_25 : decode prog_2_method_1_code 25 = .ok (.newarray .int, 2) := by decide +kernel
theorem d_G_init_27 : decode prog_2_method_1_code 27 = .ok (.putfield 22, 3) := by decide +kernel
theorem d_G_init_30 : decode prog_2_method_1_code 30 = .ok (.return_, 1) := by decide +kernel
theorem d_T_init_0 : decode prog_5_method_1_code 0 = .ok (.aload_n 0, 1) := by decide +kernel
theorem d_T_init_1 : decode prog_5_method_1_code 1 = .ok (.invokespecial 3, 3) := by decide +kernel
theorem d_T_init_4 : decode prog_5_method_1_code 4 = .ok (.aload_n 0, 1) := by decide +kernel
theorem d_T_init_5 : decode prog_5_method_1_code 5 = .ok (.bipush 8, 2) := by decide +kernel
theorem d_T_init_7 : decode prog_5_method_1_code 7 = .ok (.sipush 128, 3) := by decide +kernel
theorem d_T_init_10 : decode prog_5_method_1_code 10 = .ok (.multianewarray 9 2, 4) := by decide +kernel
theorem d_T_init_14 : decode prog_5_method_1_code 14 = .ok (.putfield 11, 3) := by decide +kernel
theorem d_T_init_17 : decode prog_5_method_1_code 17 = .ok (.aload_n 0, 1) := by decide +kernel
theorem d_T_init_18 : decode prog_5_method_1_code 18 = .ok (.iconst 0, 1) := by decide +kernel
theorem d_T_init_19 : decode prog_5_method_1_code 19 = .ok (.putfield 16, 3) := by decide +kernel
theorem d_T_init_22 : decode prog_5_method_1_code 22 = .ok (.aload_n 0, 1) := by decide +kernel
theorem d_T_init_23 : decode prog_5_method_1_code 23 = .ok (.iconst 0, 1) := by decide +kernel
theorem d_T_init_24 : decode prog_5_method_1_code 24 = .ok (.putfield 20, 3) := by decide +kernel
theorem d_T_init_27 : decode prog_5_method_1_code 27 = .ok (.return_, 1) := by decide +kernel
theorem d_V_init_0 : decode prog_6_method_1_code 0 = .ok (.aload_n 0, 1) := by decide +kernel
theorem d_V_init_1 : decode prog_6_method_1_code 1 = .ok (.invokespecial 3, 3) := by decide +kernel
theorem d_V_init_4 : decode prog_6_method_1_code 4 = .ok (.aload_n 0, 1) := by decide +kernel
theorem d_V_init_5 : decode prog_6_method_1_code 5 = .ok (.bipush 8, 2) := by decide +kernel
theorem d_V_init_7 : decode prog_6_method_1_code 7 = .ok (.newarray .int, 2) := by decide +kernel
theorem d_V_init_9 : decode prog_6_method_1_code 9 = .ok (.putfield 9, 3) := by decide +kernel
theorem d_V_init_12 : decode prog_6_method_1_code 12 = .ok (.aload_n 0, 1) := by decide +kernel
theorem d_V_init_13 : decode prog_6_method_1_code 13 = .ok (.bipush 8, 2) := by decide +kernel
theorem d_V_init_15 : decode prog_6_method_1_code 15 = .ok (.newarray .int, 2) := by decide +kernel
theorem d_V_init_17 : decode prog_6_method_1_code 17 = .ok (.putfield 15, 3) := by decide +kernel
theorem d_V_init_20 : decode prog_6_method_1_code 20 = .ok (.aload_n 0, 1) := by decide +kernel
theorem d_V_init_21 : decode prog_6_method_1_code 21 = .ok (.iconst 0, 1) := by decide +kernel
theorem d_V_init_22 : decode prog_6_method_1_code 22 = .ok (.putfield 18, 3) := by decide +kernel
theorem d_V_init_25 : decode prog_6_method_1_code 25 = .ok (.aload_n 0, 1) := by decide +kernel
theorem d_V_init_26 : decode prog_6_method_1_code 26 = .ok (.iconst 0, 1) := by decide +kernel
theorem d_V_init_27 : decode prog_6_method_1_code 27 = .ok (.putfield 22, 3) := by decide +kernel
theorem d_V_init_30 : decode prog_6_method_1_code 30 = .ok (.aload_n 0, 1) := by decide +kernel
theorem d_V_init_31 : decode prog_6_method_1_code 31 = .ok (.iconst 0, 1) := by decide +kernel
theorem d_V_init_32 : decode prog_6_method_1_code 32 = .ok (.putfield 25, 3) := by decide +kernel
theorem d_V_init_35 : decode prog_6_method_1_code 35 = .ok (.aload_n 0, 1) := by decide +kernel
theorem d_V_init_36 : decode prog_6_method_1_code 36 = .ok (.iconst 0, 1) := by decide +kernel
theorem d_V_init_37 : decode prog_6_method_1_code 37 = .ok (.putfield 28, 3) := by decide +kernel
theorem d_V_init_40 : decode prog_6_method_1_code 40 = .ok (.aload_n 0, 1) := by decide +kernel
theorem d_V_init_41 : decode prog_6_method_1_code 41 = .ok (.iconst 0, 1) := by decide +kernel
theorem d_V_init_42 : decode prog_6_method_1_code 42 = .ok (.putfield 31, 3) := by decide +kernel
theorem d_V_init_45 : decode prog_6_method_1_code 45 = .ok (.aload_n 0, 1) := by decide +kernel
theorem d_V_init_46 : decode prog_6_method_1_code 46 = .ok (.iconst 0, 1) := by decide +kernel
theorem d_V_init_47 : decode prog_6_method_1_code 47 = .ok (.putfield 34, 3) := by decide +kernel
theorem d_V_init_50 : decode prog_6_method_1_code 50 = .ok (.return_, 1) := by decide +kernel
theorem d_K_init_0 : decode prog_3_method_1_code 0 = .ok (.aload_n 0, 1) := by decide +kernel
theorem d_K_init_1 : decode prog_3_method_1_code 1 = .ok (.invokespecial 3, 3) := by decide +kernel
theorem d_K_init_4 : decode prog_3_method_1_code 4 = .ok (.aload_n 0, 1) := by decide +kernel
theorem d_K_init_5 : decode prog_3_method_1_code 5 = .ok (.new 9, 3) := by decide +kernel
theorem d_K_init_8 : decode prog_3_method_1_code 8 = .ok (.dup, 1) := by decide +kernel
theorem d_K_init_9 : decode prog_3_method_1_code 9 = .ok (.invokespecial 11, 3) := by decide +kernel
theorem d_K_init_12 : decode prog_3_method_1_code 12 = .ok (.putfield 12, 3) := by decide +kernel
theorem d_K_init_15 : decode prog_3_method_1_code 15 = .ok (.aload_n 0, 1) := by decide +kernel
theorem d_K_init_16 : decode prog_3_method_1_code 16 = .ok (.iconst 0, 1) := by decide +kernel
theorem d_K_init_17 : decode prog_3_method_1_code 17 = .ok (.putfield 18, 3) := by decide +kernel
theorem d_K_init_20 : decode prog_3_method_1_code 20 = .ok (.aload_n 0, 1) := by decide +kernel
theorem d_K_init_21 : decode prog_3_method_1_code 21 = .ok (.bipush 10, 2) := by decide +kernel
theorem d_K_init_23 : decode prog_3_method_1_code 23 = .ok (.newarray .int, 2) := by decide +kernel
theorem d_K_init_25 : decode prog_3_method_1_code 25 = .ok (.putfield 22, 3) := by decide +kernel
theorem d_K_init_28 : decode prog_3_method_1_code 28 = .ok (.aload_n 0, 1) := by decide +kernel
theorem d_K_init_29 : decode prog_3_method_1_code 29 = .ok (.bipush 10, 2) := by decide +kernel
theorem d_K_init_31 : decode prog_3_method_1_code 31 = .ok (.newarray .int, 2) := by decide +kernel
theorem d_K_init_33 : decode prog_3_method_1_code 33 = .ok (.putfield 26, 3) := by decide +kernel
theorem d_K_init_36 : decode prog_3_method_1_code 36 = .ok (.aload_n 0, 1) := by decide +kernel
theorem d_K_init_37 : decode prog_3_method_1_code 37 = .ok (.bipush 8, 2) := by decide +kernel
theorem d_K_init_39 : decode prog_3_method_1_code 39 = .ok (.newarray .int, 2) := by decide +kernel
theorem d_K_init_41 : decode prog_3_method_1_code 41 = .ok (.putfield 29, 3) := by decide +kernel
theorem d_K_init_44 : decode prog_3_method_1_code 44 = .ok (.aload_n 0, 1) := by decide +kernel
theorem d_K_init_45 : decode prog_3_method_1_code 45 = .ok (.iconst 0, 1) := by decide +kernel
theorem d_K_init_46 : decode prog_3_method_1_code 46 = .ok (.putfield 32, 3) := by decide +kernel
theorem d_K_init_49 : decode prog_3_method_1_code 49 = .ok (.aload_n 0, 1) := by decide +kernel
theorem d_K_init_50 : decode prog_3_method_1_code 50 = .ok (.iconst 0, 1) := by decide +kernel
theorem d_K_init_51 : decode prog_3_method_1_code 51 = .ok (.putfield 35, 3) := by decide +kernel
theorem d_K_init_54 : decode prog_3_method_1_code 54 = .ok (.return_, 1) := by decide +kernel
theorem d_N_init_0 : decode prog_4_method_1_code 0 = .ok (.aload_n 0, 1) := by decide +kernel
theorem d_N_init_1 : decode prog_4_method_1_code 1 = .ok (.invokespecial 3, 3) := by decide +kernel
theorem d_N_init_4 : decode prog_4_method_1_code 4 = .ok (.aload_n 0, 1) := by decide +kernel
theorem d_N_init_5 : decode prog_4_method_1_code 5 = .ok (.iconst 0, 1) := by decide +kernel
theorem d_N_init_6 : decode prog_4_method_1_code 6 = .ok (.putfield 9, 3) := by decide +kernel
theorem d_N_init_9 : decode prog_4_method_1_code 9 = .ok (.aload_n 0, 1) := by decide +kernel
theorem d_N_init_10 : decode prog_4_method_1_code 10 = .ok (.sipush 256, 3) := by decide +kernel
theorem d_N_init_13 : decode prog_4_method_1_code 13 = .ok (.newarray .long, 2) := by decide +kernel
theorem d_N_init_15 : decode prog_4_method_1_code 15 = .ok (.putfield 15, 3) := by decide +kernel
theorem d_N_init_18 : decode prog_4_method_1_code 18 = .ok (.return_, 1) := by decide +kernel
theorem d_X_clear_0 : decode prog_1_method_2_code 0 = .ok (.aload_n 0, 1) := by decide +kernel
theorem d_X_clear_1 : decode prog_1_method_2_code 1 = .ok (.getfield 12, 3) := by decide +kernel
theorem d_X_clear_4 : decode prog_1_method_2_code 4 = .ok (.getfield 60, 3) := by decide +kernel
theorem d_X_clear_7 : decode prog_1_method_2_code 7 = .ok (.istore_n 1, 1) := by decide +kernel
theorem d_X_clear_8 : decode prog_1_method_2_code 8 = .ok (.aload_n 0, 1) := by decide +kernel
theorem d_X_clear_9 : decode prog_1_method_2_code 9 = .ok (.getfield 12, 3) := by decide +kernel
theorem d_X_clear_12 : decode prog_1_method_2_code 12 = .ok (.invokevirtual 64, 3) := by decide +kernel
theorem d_X_clear_15 : decode prog_1_method_2_code 15 = .ok (.aload_n 0, 1) := by decide +kernel
theorem d_X_clear_16 : decode prog_1_method_2_code 16 = .ok (.getfield 26, 3) := by decide +kernel
theorem d_X_clear_19 : decode prog_1_method_2_code 19 = .ok (.invokevirtual 67, 3) := by decide +kernel
theorem d_X_clear_22 : decode prog_1_method_2_code 22 = .ok (.aload_n 0, 1) := by decide +kernel
theorem d_X_clear_23 : decode prog_1_method_2_code 23 = .ok (.iconst 0, 1) := by decide +kernel
theorem d_X_clear_24 : decode prog_1_method_2_code 24 = .ok (.putfield 19, 3) := by decide +kernel
theorem d_X_clear_27 : decode prog_1_method_2_code 27 = .ok (.iload_n 1, 1) := by decide +kernel
theorem d_X_clear_28 : decode prog_1_method_2_code 28 = .ok (.ireturn, 1) := by decide +kernel
theorem d_G_empty_0 : decode prog_2_method_2_code 0 = .ok (.aload_n 0, 1) := by decide +kernel
theorem d_G_empty_1 : decode prog_2_method_2_code 1 = .ok (.iconst 0, 1) := by decide +kernel
theorem d_G_empty_2 : decode prog_2_method_2_code 2 = .ok (.putfield 9, 3) := by decide +kernel
theorem d_G_empty_5 : decode prog_2_method_2_code 5 = .ok (.aload_n 0, 1) := by decide +kernel
theorem d_G_empty_6 : decode prog_2_method_2_code 6 = .ok (.iconst 0, 1) := by decide +kernel
theorem d_G_empty_7 : decode prog_2_method_2_code 7 = .ok (.putfield 15, 3) := by decide +kernel
theorem d_G_empty_10 : decode prog_2_method_2_code 10 = .ok (.aload_n 0, 1) := by decide +kernel
theorem d_G_empty_11 : decode prog_2_method_2_code 11 = .ok (.getfield 18, 3) := by decide +kernel
theorem d_G_empty_14 : decode prog_2_method_2_code 14 = .ok (.iconst 0, 1) := by decide +kernel
theorem d_G_empty_15 : decode prog_2_method_2_code 15 = .ok (.invokestatic 25, 3) := by decide +kernel
theorem d_G_empty_18 : decode prog_2_method_2_code 18 = .ok (.aload_n 0, 1) := by decide +kernel
theorem d_G_empty_19 : decode prog_2_method_2_code 19 = .ok (.getfield 22, 3) := by decide +kernel
theorem d_G_empty_22 : decode prog_2_method_2_code 22 = .ok (.iconst 0, 1) := by decide +kernel
theorem d_G_empty_23 : decode prog_2_method_2_code 23 = .ok (.invokestatic 25, 3) := by decide +kernel
theorem d_G_empty_26 : decode prog_2_method_2_code 26 = .ok (.return_, 1) := by decide +kernel
theorem d_A_fillI_0 : decode prog_11_method_103_code 0 = .ok (.iconst 0, 1) := by decide +kernel
theorem d_A_fillI_1 : decode prog_11_method_103_code 1 = .ok (.istore_n 2, 1) := by decide +kernel
theorem d_A_fillI_2 : decode prog_11_method_103_code 2 = .ok (.aload_n 0, 1) := by decide +kernel
theorem d_A_fillI_3 : decode prog_11_method_103_code 3 = .ok (.arraylength, 1) := by decide +kernel
theorem d_A_fillI_4 : decode prog_11_method_103_code 4 = .ok (.istore_n 3, 1) := by decide +kernel
theorem d_A_fillI_5 : decode prog_11_method_103_code 5 = .ok (.iload_n 2, 1) := by decide +kernel
theorem d_A_fillI_6 : decode prog_11_method_103_code 6 = .ok (.iload_n 3, 1) := by decide +kernel
theorem d_A_fillI_7 : decode prog_11_method_103_code 7 = .ok (.if_icmp .ge 13, 3) := by decide +kernel
theorem d_A_fillI_10 : decode prog_11_method_103_code 10 = .ok (.aload_n 0, 1) := by decide +kernel
theorem d_A_fillI_11 : decode prog_11_method_103_code 11 = .ok (.iload_n 2, 1) := by decide +kernel
theorem d_A_fillI_12 : decode prog_11_method_103_code 12 = .ok (.iload_n 1, 1) := by decide +kernel
theorem d_A_fillI_13 : decode prog_11_method_103_code 13 = .ok (.iastore, 1) := by decide +kernel
theorem d_A_fillI_14 : decode prog_11_method_103_code 14 = .ok (.iinc 2 1, 3) := by decide +kernel
theorem d_A_fillI_17 : decode prog_11_method_103_code 17 = .ok (.goto (-12), 3) := by decide +kernel
theorem d_A_fillI_20 : decode prog_11_method_103_code 20 = .ok (.return_, 1) := by decide +kernel
theorem d_T_releaseAll_0 : decode prog_5_method_3_code 0 = .ok (.aload_n 0, 1) := by decide +kernel
theorem d_T_releaseAll_1 : decode prog_5_method_3_code 1 = .ok (.iconst 0, 1) := by decide +kernel
theorem d_T_releaseAll_2 : decode prog_5_method_3_code 2 = .ok (.putfield 16, 3) := by decide +kernel
theorem d_T_releaseAll_5 : decode prog_5_method_3_code 5 = .ok (.aload_n 0, 1) := by decide +kernel
theorem d_T_releaseAll_6 : decode prog_5_method_3_code 6 = .ok (.iconst 0, 1) := by decide +kernel
theorem d_T_releaseAll_7 : decode prog_5_method_3_code 7 = .ok (.putfield 20, 3) := by decide +kernel
theorem d_T_releaseAll_10 : decode prog_5_method_3_code 10 = .ok (.return_, 1) := by decide +kernel
theorem d_X_place_0 : decode prog_1_method_3_code 0 = .ok (.aload_n 0, 1) := by decide +kernel
theorem d_X_place_1 : decode prog_1_method_3_code 1 = .ok (.getfield 12, 3) := by decide +kernel
theorem d_X_place_4 : decode prog_1_method_3_code 4 = .ok (.getfield 60, 3) := by decide +kernel
theorem d_X_place_7 : decode prog_1_method_3_code 7 = .ok (.bipush 8, 2) := by decide +kernel
theorem d_X_place_9 : decode prog_1_method_3_code 9 = .ok (.if_icmp .lt 6, 3) := by decide +kernel
theorem d_X_place_12 : decode prog_1_method_3_code 12 = .ok (.bipush (-3), 2) := by decide +kernel
theorem d_X_place_14 : decode prog_1_method_3_code 14 = .ok (.ireturn, 1) := by decide +kernel
theorem d_X_place_15 : decode prog_1_method_3_code 15 = .ok (.aload_n 0, 1) := by decide +kernel
theorem d_X_place_16 : decode prog_1_method_3_code 16 = .ok (.getfield 12, 3) := by decide +kernel
theorem d_X_place_19 : decode prog_1_method_3_code 19 = .ok (.getfield 60, 3) := by decide +kernel
theorem d_X_place_22 : decode prog_1_method_3_code 22 = .ok (.istore_n 1, 1) := by decide +kernel
theorem d_X_place_23 : decode prog_1_method_3_code 23 = .ok (.aload_n 0, 1) := by decide +kernel
theorem d_X_place_24 : decode prog_1_method_3_code 24 = .ok (.getfield 12, 3) := by decide +kernel
theorem d_X_place_27 : decode prog_1_method_3_code 27 = .ok (.iload_n 1, 1) := by decide +kernel
theorem d_X_place_28 : decode prog_1_method_3_code 28 = .ok (.iconst 1, 1) := by decide +kernel
theorem d_X_place_29 : decode prog_1_method_3_code 29 = .ok (.iadd, 1) := by decide +kernel
theorem d_X_place_30 : decode prog_1_method_3_code 30 = .ok (.putfield 60, 3) := by decide +kernel
theorem d_X_place_33 : decode prog_1_method_3_code 33 = .ok (.aload_n 0, 1) := by decide +kernel
theorem d_X_place_34 : decode prog_1_method_3_code 34 = .ok (.getfield 26, 3) := by decide +kernel
theorem d_X_place_37 : decode prog_1_method_3_code 37 = .ok (.iload_n 1, 1) := by decide +kernel
theorem d_X_place_38 : decode prog_1_method_3_code 38 = .ok (.invokevirtual 70, 3) := by decide +kernel
theorem d_X_place_41 : decode prog_1_method_3_code 41 = .ok (.iload_n 1, 1) := by decide +kernel
theorem d_X_place_42 : decode prog_1_method_3_code 42 = .ok (.ireturn, 1) := by decide +kernel
theorem d_T_startRows_0 : decode prog_5_method_2_code 0 = .ok (.aload_n 0, 1) := by decide +kernel
theorem d_T_startRows_1 : decode prog_5_method_2_code 1 = .ok (.getfield 11, 3) := by decide +kernel
theorem d_T_startRows_4 : decode prog_5_method_2_code 4 = .ok (.iload_n 1, 1) := by decide +kernel
theorem d_T_startRows_5 : decode prog_5_method_2_code 5 = .ok (.aaload, 1) := by decide +kernel
theorem d_T_startRows_6 : decode prog_5_method_2_code 6 = .ok (.iconst 4, 1) := by decide +kernel
theorem d_T_startRows_7 : decode prog_5_method_2_code 7 = .ok (.invokestatic 23, 3) := by decide +kernel
theorem d_T_startRows_10 : decode prog_5_method_2_code 10 = .ok (.return_, 1) := by decide +kernel
theorem d_X_arc_0 : decode prog_1_method_4_code 0 = .ok (.aload_n 0, 1) := by decide +kernel
theorem d_X_arc_1 : decode prog_1_method_4_code 1 = .ok (.iload_n 1, 1) := by decide +kernel
theorem d_X_arc_2 : decode prog_1_method_4_code 2 = .ok (.iload_n 2, 1) := by decide +kernel
theorem d_X_arc_3 : decode prog_1_method_4_code 3 = .ok (.invokevirtual 74, 3) := by decide +kernel
theorem d_X_arc_6 : decode prog_1_method_4_code 6 = .ok (.ifCond .ne 6, 3) := by decide +kernel
theorem d_X_arc_9 : decode prog_1_method_4_code 9 = .ok (.bipush (-2), 2) := by decide +kernel
theorem d_X_arc_11 : decode prog_1_method_4_code 11 = .ok (.ireturn, 1) := by decide +kernel
theorem d_X_arc_12 : decode prog_1_method_4_code 12 = .ok (.aload_n 0, 1) := by decide +kernel
theorem d_X_arc_13 : decode prog_1_method_4_code 13 = .ok (.getfield 12, 3) := by decide +kernel
theorem d_X_arc_16 : decode prog_1_method_4_code 16 = .ok (.iload_n 1, 1) := by decide +kernel
theorem d_X_arc_17 : decode prog_1_method_4_code 17 = .ok (.invokevirtual 78, 3) := by decide +kernel
theorem d_X_arc_20 : decode prog_1_method_4_code 20 = .ok (.iload_n 2, 1) := by decide +kernel
theorem d_X_arc_21 : decode prog_1_method_4_code 21 = .ok (.invokestatic 82, 3) := by decide +kernel
theorem d_X_arc_24 : decode prog_1_method_4_code 24 = .ok (.ifCond .eq 6, 3) := by decide +kernel
theorem d_X_arc_27 : decode prog_1_method_4_code 27 = .ok (.bipush (-4), 2) := by decide +kernel
theorem d_X_arc_29 : decode prog_1_method_4_code 29 = .ok (.ireturn, 1) := by decide +kernel
theorem d_X_arc_30 : decode prog_1_method_4_code 30 = .ok (.aload_n 0, 1) := by decide +kernel
theorem d_X_arc_31 : decode prog_1_method_4_code 31 = .ok (.getfield 12, 3) := by decide +kernel
theorem d_X_arc_34 : decode prog_1_method_4_code 34 = .ok (.getfield 85, 3) := by decide +kernel
theorem d_X_arc_37 : decode prog_1_method_4_code 37 = .ok (.iload_n 2, 1) := by decide +kernel
theorem d_X_arc_38 : decode prog_1_method_4_code 38 = .ok (.invokestatic 89, 3) := by decide +kernel
theorem d_X_arc_41 : decode prog_1_method_4_code 41 = .ok (.invokestatic 92, 3) := by decide +kernel
theorem d_X_arc_44 : decode prog_1_method_4_code 44 = .ok (.iload_n 1, 1) := by decide +kernel
theorem d_X_arc_45 : decode prog_1_method_4_code 45 = .ok (.invokestatic 82, 3) := by decide +kernel
theorem d_X_arc_48 : decode prog_1_method_4_code 48 = .ok (.ifCond .eq 6, 3) := by decide +kernel
theorem d_X_arc_51 : decode prog_1_method_4_code 51 = .ok (.bipush (-5), 2) := by decide +kernel
theorem d_X_arc_53 : decode prog_1_method_4_code 53 = .ok (.ireturn, 1) := by decide +kernel
theorem d_X_arc_54 : decode prog_1_method_4_code 54 = .ok (.aload_n 0, 1) := by decide +kernel
theorem d_X_arc_55 : decode prog_1_method_4_code 55 = .ok (.getfield 12, 3) := by decide +kernel
theorem d_X_arc_58 : decode prog_1_method_4_code 58 = .ok (.getfield 96, 3) := by decide +kernel
theorem d_X_arc_61 : decode prog_1_method_4_code 61 = .ok (.bipush 10, 2) := by decide +kernel
theorem d_X_arc_63 : decode prog_1_method_4_code 63 = .ok (.if_icmp .lt 6, 3) := by decide +kernel
theorem d_X_arc_66 : decode prog_1_method_4_code 66 = .ok (.bipush (-3), 2) := by decide +kernel
theorem d_X_arc_68 : decode prog_1_method_4_code 68 = .ok (.ireturn, 1) := by decide +kernel
theorem d_X_arc_69 : decode prog_1_method_4_code 69 = .ok (.aload_n 0, 1) := by decide +kernel
theorem d_X_arc_70 : decode prog_1_method_4_code 70 = .ok (.getfield 12, 3) := by decide +kernel
theorem d_X_arc_73 : decode prog_1_method_4_code 73 = .ok (.iload_n 1, 1) := by decide +kernel
theorem d_X_arc_74 : decode prog_1_method_4_code 74 = .ok (.iload_n 2, 1) := by decide +kernel
theorem d_X_arc_75 : decode prog_1_method_4_code 75 = .ok (.invokevirtual 99, 3) := by decide +kernel
theorem d_X_arc_78 : decode prog_1_method_4_code 78 = .ok (.aload_n 0, 1) := by decide +kernel
theorem d_X_arc_79 : decode prog_1_method_4_code 79 = .ok (.getfield 26, 3) := by decide +kernel
theorem d_X_arc_82 : decode prog_1_method_4_code 82 = .ok (.iload_n 2, 1) := by decide +kernel
theorem d_X_arc_83 : decode prog_1_method_4_code 83 = .ok (.invokevirtual 70, 3) := by decide +kernel
theorem d_X_arc_86 : decode prog_1_method_4_code 86 = .ok (.aload_n 0, 1) := by decide +kernel
theorem d_X_arc_87 : decode prog_1_method_4_code 87 = .ok (.getfield 12, 3) := by decide +kernel
theorem d_X_arc_90 : decode prog_1_method_4_code 90 = .ok (.getfield 96, 3) := by decide +kernel
theorem d_X_arc_93 : decode prog_1_method_4_code 93 = .ok (.ireturn, 1) := by decide +kernel
theorem d_X_isPair_0 : decode prog_1_method_24_code 0 = .ok (.aload_n 0, 1) := by decide +kernel
theorem d_X_isPair_1 : decode prog_1_method_24_code 1 = .ok (.iload_n 1, 1) := by decide +kernel
theorem d_X_isPair_2 : decode prog_1_method_24_code 2 = .ok (.invokevirtual 113, 3) := by decide +kernel
theorem d_X_isPair_5 : decode prog_1_method_24_code 5 = .ok (.ifCond .eq 20, 3) := by decide +kernel
theorem d_X_isPair_8 : decode prog_1_method_24_code 8 = .ok (.aload_n 0, 1) := by decide +kernel
theorem d_X_isPair_9 : decode prog_1_method_24_code 9 = .ok (.iload_n 2, 1) := by decide +kernel
theorem d_X_isPair_10 : decode prog_1_method_24_code 10 = .ok (.invokevirtual 113, 3) := by decide +kernel
theorem d_X_isPair_13 : decode prog_1_method_24_code 13 = .ok (.ifCond .eq 12, 3) := by decide +kernel
theorem d_X_isPair_16 : decode prog_1_method_24_code 16 = .ok (.iload_n 1, 1) := by decide +kernel
theorem d_X_isPair_17 : decode prog_1_method_24_code 17 = .ok (.iload_n 2, 1) := by decide +kernel
theorem d_X_isPair_18 : decode prog_1_method_24_code 18 = .ok (.if_icmp .eq 7, 3) := by decide +kernel
theorem d_X_isPair_21 : decode prog_1_method_24_code 21 = .ok (.iconst 1, 1) := by decide +kernel
theorem d_X_isPair_22 : decode prog_1_method_24_code 22 = .ok (.goto 4, 3) := by decide +kernel
theorem d_X_isPair_25 : decode prog_1_method_24_code 25 = .ok (.iconst 0, 1) := by decide +kernel
theorem d_X_isPair_26 : decode prog_1_method_24_code 26 = .ok (.ireturn, 1) := by decide +kernel
theorem d_X_isPlace_0 : decode prog_1_method_23_code 0 = .ok (.iload_n 1, 1) := by decide +kernel
theorem d_X_isPlace_1 : decode prog_1_method_23_code 1 = .ok (.ifCond .lt 18, 3) := by decide +kernel
theorem d_X_isPlace_4 : decode prog_1_method_23_code 4 = .ok (.iload_n 1, 1) := by decide +kernel
theorem d_X_isPlace_5 : decode prog_1_method_23_code 5 = .ok (.aload_n 0, 1) := by decide +kernel
theorem d_X_isPlace_6 : decode prog_1_method_23_code 6 = .ok (.getfield 12, 3) := by decide +kernel
theorem d_X_isPlace_9 : decode prog_1_method_23_code 9 = .ok (.getfield 60, 3) := by decide +kernel
theorem d_X_isPlace_12 : decode prog_1_method_23_code 12 = .ok (.if_icmp .ge 7, 3) := by decide +kernel
theorem d_X_isPlace_15 : decode prog_1_method_23_code 15 = .ok (.iconst 1, 1) := by decide +kernel
theorem d_X_isPlace_16 : decode prog_1_method_23_code 16 = .ok (.goto 4, 3) := by decide +kernel
theorem d_X_isPlace_19 : decode prog_1_method_23_code 19 = .ok (.iconst 0, 1) := by decide +kernel
theorem d_X_isPlace_20 : decode prog_1_method_23_code 20 = .ok (.ireturn, 1) := by decide +kernel
theorem d_G_neighbours_0 : decode prog_2_method_7_code 0 = .ok (.aload_n 0, 1) := by decide +kernel
theorem d_G_neighbours_1 : decode prog_2_method_7_code 1 = .ok (.getfield 18, 3) := by decide +kernel
theorem d_G_neighbours_4 : decode prog_2_method_7_code 4 = .ok (.iload_n 1, 1) := by decide +kernel
theorem d_G_neighbours_5 : decode prog_2_method_7_code 5 = .ok (.iaload, 1) := by decide +kernel
theorem d_G_neighbours_6 : decode prog_2_method_7_code 6 = .ok (.aload_n 0, 1) := by decide +kernel
theorem d_G_neighbours_7 : decode prog_2_method_7_code 7 = .ok (.getfield 22, 3) := by decide +kernel
theorem d_G_neighbours_10 : decode prog_2_method_7_code 10 = .ok (.iload_n 1, 1) := by decide +kernel
theorem d_G_neighbours_11 : decode prog_2_method_7_code 11 = .ok (.iaload, 1) := by decide +kernel
theorem d_G_neighbours_12 : decode prog_2_method_7_code 12 = .ok (.ior, 1) := by decide +kernel
theorem d_G_neighbours_13 : decode prog_2_method_7_code 13 = .ok (.ireturn, 1) := by decide +kernel
theorem d_X_has_0 : decode prog_1_method_32_code 0 = .ok (.iload_n 0, 1) := by decide +kernel
theorem d_X_has_1 : decode prog_1_method_32_code 1 = .ok (.iload_n 1, 1) := by decide +kernel
theorem d_X_has_2 : decode prog_1_method_32_code 2 = .ok (.ishr, 1) := by decide +kernel
theorem d_X_has_3 : decode prog_1_method_32_code 3 = .ok (.iconst 1, 1) := by decide +kernel
theorem d_X_has_4 : decode prog_1_method_32_code 4 = .ok (.iand, 1) := by decide +kernel
theorem d_X_has_5 : decode prog_1_method_32_code 5 = .ok (.ifCond .eq 7, 3) := by decide +kernel
theorem d_X_has_8 : decode prog_1_method_32_code 8 = .ok (.iconst 1, 1) := by decide +kernel
theorem d_X_has_9 : decode prog_1_method_32_code 9 = .ok (.goto 4, 3) := by decide +kernel
theorem d_X_has_12 : decode prog_1_method_32_code 12 = .ok (.iconst 0, 1) := by decide +kernel
theorem d_X_has_13 : decode prog_1_method_32_code 13 = .ok (.ireturn, 1) := by decide +kernel
theorem d_X_bit_0 : decode prog_1_method_31_code 0 = .ok (.iconst 1, 1) := by decide +kernel
theorem d_X_bit_1 : decode prog_1_method_31_code 1 = .ok (.iload_n 0, 1) := by decide +kernel
theorem d_X_bit_2 : decode prog_1_method_31_code 2 = .ok (.ishl, 1) := by decide +kernel
theorem d_X_bit_3 : decode prog_1_method_31_code 3 = .ok (.ireturn, 1) := by decide +kernel
theorem d_X_closure_0 : decode prog_1_method_34_code 0 = .ok (.iload_n 1, 1) := by decide +kernel
theorem d_X_closure_1 : decode prog_1_method_34_code 1 = .ok (.istore_n 2, 1) := by decide +kernel
theorem d_X_closure_2 : decode prog_1_method_34_code 2 = .ok (.iconst 0, 1) := by decide +kernel
theorem d_X_closure_3 : decode prog_1_method_34_code 3 = .ok (.istore_n 3, 1) := by decide +kernel
theorem d_X_closure_4 : decode prog_1_method_34_code 4 = .ok (.iload_n 3, 1) := by decide +kernel
theorem d_X_closure_5 : decode prog_1_method_34_code 5 = .ok (.aload_n 0, 1) := by decide +kernel
theorem d_X_closure_6 : decode prog_1_method_34_code 6 = .ok (.arraylength, 1) := by decide +kernel
theorem d_X_closure_7 : decode prog_1_method_34_code 7 = .ok (.if_icmp .ge 30, 3) := by decide +kernel
theorem d_X_closure_10 : decode prog_1_method_34_code 10 = .ok (.iload_n 2, 1) := by decide +kernel
theorem d_X_closure_11 : decode prog_1_method_34_code 11 = .ok (.aload_n 0, 1) := by decide +kernel
theorem d_X_closure_12 : decode prog_1_method_34_code 12 = .ok (.iload_n 2, 1) := by decide +kernel
theorem d_X_closure_13 : decode prog_1_method_34_code 13 = .ok (.invokestatic 210, 3) := by decide +kernel
theorem d_X_closure_16 : decode prog_1_method_34_code 16 = .ok (.ior, 1) := by decide +kernel
theorem d_X_closure_17 : decode prog_1_method_34_code 17 = .ok (.istore 4, 2) := by decide +kernel
theorem d_X_closure_19 : decode prog_1_method_34_code 19 = .ok (.iload 4, 2) := by decide +kernel
theorem d_X_closure_21 : decode prog_1_method_34_code 21 = .ok (.iload_n 2, 1) := by decide +kernel
theorem d_X_closure_22 : decode prog_1_method_34_code 22 = .ok (.if_icmp .ne 6, 3) := by decide +kernel
theorem d_X_closure_25 : decode prog_1_method_34_code 25 = .ok (.goto 12, 3) := by decide +kernel
theorem d_X_closure_28 : decode prog_1_method_34_code 28 = .ok (.iload 4, 2) := by decide +kernel
theorem d_X_closure_30 : decode prog_1_method_34_code 30 = .ok (.istore_n 2, 1) := by decide +kernel
theorem d_X_closure_31 : decode prog_1_method_34_code 31 = .ok (.iinc 3 1, 3) := by decide +kernel
theorem d_X_closure_34 : decode prog_1_method_34_code 34 = .ok (.goto (-30), 3) := by decide +kernel
theorem d_X_closure_37 : decode prog_1_method_34_code 37 = .ok (.iload_n 2, 1) := by decide +kernel
theorem d_X_closure_38 : decode prog_1_method_34_code 38 = .ok (.ireturn, 1) := by decide +kernel
theorem d_X_union_0 : decode prog_1_method_33_code 0 = .ok (.iconst 0, 1) := by decide +kernel
theorem d_X_union_1 : decode prog_1_method_33_code 1 = .ok (.istore_n 2, 1) := by decide +kernel
theorem d_X_union_2 : decode prog_1_method_33_code 2 = .ok (.iconst 0, 1) := by decide +kernel
theorem d_X_union_3 : decode prog_1_method_33_code 3 = .ok (.istore_n 3, 1) := by decide +kernel
theorem d_X_union_4 : decode prog_1_method_33_code 4 = .ok (.iload_n 3, 1) := by decide +kernel
theorem d_X_union_5 : decode prog_1_method_33_code 5 = .ok (.aload_n 0, 1) := by decide +kernel
theorem d_X_union_6 : decode prog_1_method_33_code 6 = .ok (.arraylength, 1) := by decide +kernel
theorem d_X_union_7 : decode prog_1_method_33_code 7 = .ok (.if_icmp .ge 23, 3) := by decide +kernel
theorem d_X_union_10 : decode prog_1_method_33_code 10 = .ok (.iload_n 1, 1) := by decide +kernel
theorem d_X_union_11 : decode prog_1_method_33_code 11 = .ok (.iload_n 3, 1) := by decide +kernel
theorem d_X_union_12 : decode prog_1_method_33_code 12 = .ok (.invokestatic 82, 3) := by decide +kernel
theorem d_X_union_15 : decode prog_1_method_33_code 15 = .ok (.ifCond .eq 9, 3) := by decide +kernel
theorem d_X_union_18 : decode prog_1_method_33_code 18 = .ok (.iload_n 2, 1) := by decide +kernel
theorem d_X_union_19 : decode prog_1_method_33_code 19 = .ok (.aload_n 0, 1) := by decide +kernel
theorem d_X_union_20 : decode prog_1_method_33_code 20 = .ok (.iload_n 3, 1) := by decide +kernel
theorem d_X_union_21 : decode prog_1_method_33_code 21 = .ok (.iaload, 1) := by decide +kernel
theorem d_X_union_22 : decode prog_1_method_33_code 22 = .ok (.ior, 1) := by decide +kernel
theorem d_X_union_23 : decode prog_1_method_33_code 23 = .ok (.istore_n 2, 1) := by decide +kernel
theorem d_X_union_24 : decode prog_1_method_33_code 24 = .ok (.iinc 3 1, 3) := by decide +kernel
theorem d_X_union_27 : decode prog_1_method_33_code 27 = .ok (.goto (-23), 3) := by decide +kernel
theorem d_X_union_30 : decode prog_1_method_33_code 30 = .ok (.iload_n 2, 1) := by decide +kernel
theorem d_X_union_31 : decode prog_1_method_33_code 31 = .ok (.ireturn, 1) := by decide +kernel
theorem d_G_join_0 : decode prog_2_method_4_code 0 = .ok (.aload_n 0, 1) := by decide +kernel
theorem d_G_join_1 : decode prog_2_method_4_code 1 = .ok (.getfield 22, 3) := by decide +kernel
theorem d_G_join_4 : decode prog_2_method_4_code 4 = .ok (.iload_n 1, 1) := by decide +kernel
theorem d_G_join_5 : decode prog_2_method_4_code 5 = .ok (.dup2, 1) := by decide +kernel
theorem d_G_join_6 : decode prog_2_method_4_code 6 = .ok (.iaload, 1) := by decide +kernel
theorem d_G_join_7 : decode prog_2_method_4_code 7 = .ok (.iload_n 2, 1) := by decide +kernel
theorem d_G_join_8 : decode prog_2_method_4_code 8 = .ok (.invokestatic 37, 3) := by decide +kernel
theorem d_G_join_11 : decode prog_2_method_4_code 11 = .ok (.ior, 1) := by decide +kernel
theorem d_G_join_12 : decode prog_2_method_4_code 12 = .ok (.iastore, 1) := by decide +kernel
theorem d_G_join_13 : decode prog_2_method_4_code 13 = .ok (.aload_n 0, 1) := by decide +kernel
theorem d_G_join_14 : decode prog_2_method_4_code 14 = .ok (.getfield 18, 3) := by decide +kernel
theorem d_G_join_17 : decode prog_2_method_4_code 17 = .ok (.iload_n 2, 1) := by decide +kernel
theorem d_G_join_18 : decode prog_2_method_4_code 18 = .ok (.dup2, 1) := by decide +kernel
theorem d_G_join_19 : decode prog_2_method_4_code 19 = .ok (.iaload, 1) := by decide +kernel
theorem d_G_join_20 : decode prog_2_method_4_code 20 = .ok (.iload_n 1, 1) := by decide +kernel
theorem d_G_join_21 : decode prog_2_method_4_code 21 = .ok (.invokestatic 37, 3) := by decide +kernel
theorem d_G_join_24 : decode prog_2_method_4_code 24 = .ok (.ior, 1) := by decide +kernel
theorem d_G_join_25 : decode prog_2_method_4_code 25 = .ok (.iastore, 1) := by decide +kernel
theorem d_G_join_26 : decode prog_2_method_4_code 26 = .ok (.aload_n 0, 1) := by decide +kernel
theorem d_G_join_27 : decode prog_2_method_4_code 27 = .ok (.dup, 1) := by decide +kernel
theorem d_G_join_28 : decode prog_2_method_4_code 28 = .ok (.getfield 15, 3) := by decide +kernel
theorem d_G_join_31 : decode prog_2_method_4_code 31 = .ok (.iconst 1, 1) := by decide +kernel
theorem d_G_join_32 : decode prog_2_method_4_code 32 = .ok (.iadd, 1) := by decide +kernel
theorem d_G_join_33 : decode prog_2_method_4_code 33 = .ok (.putfield 15, 3) := by decide +kernel
theorem d_G_join_36 : decode prog_2_method_4_code 36 = .ok (.return_, 1) := by decide +kernel
theorem d_X_cut_0 : decode prog_1_method_5_code 0 = .ok (.aload_n 0, 1) := by decide +kernel
theorem d_X_cut_1 : decode prog_1_method_5_code 1 = .ok (.iload_n 1, 1) := by decide +kernel
theorem d_X_cut_2 : decode prog_1_method_5_code 2 = .ok (.iload_n 2, 1) := by decide +kernel
theorem d_X_cut_3 : decode prog_1_method_5_code 3 = .ok (.invokevirtual 74, 3) := by decide +kernel
theorem d_X_cut_6 : decode prog_1_method_5_code 6 = .ok (.ifCond .ne 6, 3) := by decide +kernel
theorem d_X_cut_9 : decode prog_1_method_5_code 9 = .ok (.bipush (-2), 2) := by decide +kernel
theorem d_X_cut_11 : decode prog_1_method_5_code 11 = .ok (.ireturn, 1) := by decide +kernel
theorem d_X_cut_12 : decode prog_1_method_5_code 12 = .ok (.aload_n 0, 1) := by decide +kernel
theorem d_X_cut_13 : decode prog_1_method_5_code 13 = .ok (.getfield 12, 3) := by decide +kernel
theorem d_X_cut_16 : decode prog_1_method_5_code 16 = .ok (.getfield 85, 3) := by decide +kernel
theorem d_X_cut_19 : decode prog_1_method_5_code 19 = .ok (.iload_n 1, 1) := by decide +kernel
theorem d_X_cut_20 : decode prog_1_method_5_code 20 = .ok (.iaload, 1) := by decide +kernel
theorem d_X_cut_21 : decode prog_1_method_5_code 21 = .ok (.iload_n 2, 1) := by decide +kernel
theorem d_X_cut_22 : decode prog_1_method_5_code 22 = .ok (.invokestatic 82, 3) := by decide +kernel
theorem d_X_cut_25 : decode prog_1_method_5_code 25 = .ok (.ifCond .ne 5, 3) := by decide +kernel
theorem d_X_cut_28 : decode prog_1_method_5_code 28 = .ok (.iconst (-1), 1) := by decide +kernel
theorem d_X_cut_29 : decode prog_1_method_5_code 29 = .ok (.ireturn, 1) := by decide +kernel
theorem d_X_cut_30 : decode prog_1_method_5_code 30 = .ok (.aload_n 0, 1) := by decide +kernel
theorem d_X_cut_31 : decode prog_1_method_5_code 31 = .ok (.getfield 12, 3) := by decide +kernel
theorem d_X_cut_34 : decode prog_1_method_5_code 34 = .ok (.iload_n 1, 1) := by decide +kernel
theorem d_X_cut_35 : decode prog_1_method_5_code 35 = .ok (.iload_n 2, 1) := by decide +kernel
theorem d_X_cut_36 : decode prog_1_method_5_code 36 = .ok (.invokevirtual 103, 3) := by decide +kernel
theorem d_X_cut_39 : decode prog_1_method_5_code 39 = .ok (.aload_n 0, 1) := by decide +kernel
theorem d_X_cut_40 : decode prog_1_method_5_code 40 = .ok (.getfield 26, 3) := by decide +kernel
theorem d_X_cut_43 : decode prog_1_method_5_code 43 = .ok (.iload_n 2, 1) := by decide +kernel
theorem d_X_cut_44 : decode prog_1_method_5_code 44 = .ok (.invokevirtual 70, 3) := by decide +kernel
theorem d_X_cut_47 : decode prog_1_method_5_code 47 = .ok (.aload_n 0, 1) := by decide +kernel
theorem d_X_cut_48 : decode prog_1_method_5_code 48 = .ok (.getfield 12, 3) := by decide +kernel
theorem d_X_cut_51 : decode prog_1_method_5_code 51 = .ok (.getfield 96, 3) := by decide +kernel
theorem d_X_cut_54 : decode prog_1_method_5_code 54 = .ok (.ireturn, 1) := by decide +kernel
theorem d_G_part_0 : decode prog_2_method_5_code 0 = .ok (.aload_n 0, 1) := by decide +kernel
theorem d_G_part_1 : decode prog_2_method_5_code 1 = .ok (.getfield 22, 3) := by decide +kernel
theorem d_G_part_4 : decode prog_2_method_5_code 4 = .ok (.iload_n 1, 1) := by decide +kernel
theorem d_G_part_5 : decode prog_2_method_5_code 5 = .ok (.dup2, 1) := by decide +kernel
theorem d_G_part_6 : decode prog_2_method_5_code 6 = .ok (.iaload, 1) := by decide +kernel
theorem d_G_part_7 : decode prog_2_method_5_code 7 = .ok (.iload_n 2, 1) := by decide +kernel
theorem d_G_part_8 : decode prog_2_method_5_code 8 = .ok (.invokestatic 37, 3) := by decide +kernel
theorem d_G_part_11 : decode prog_2_method_5_code 11 = .ok (.iconst (-1), 1) := by decide +kernel
theorem d_G_part_12 : decode prog_2_method_5_code 12 = .ok (.ixor, 1) := by decide +kernel
theorem d_G_part_13 : decode prog_2_method_5_code 13 = .ok (.iand, 1) := by decide +kernel
theorem d_G_part_14 : decode prog_2_method_5_code 14 = .ok (.iastore, 1) := by decide +kernel
theorem d_G_part_15 : decode prog_2_method_5_code 15 = .ok (.aload_n 0, 1) := by decide +kernel
theorem d_G_part_16 : decode prog_2_method_5_code 16 = .ok (.getfield 18, 3) := by decide +kernel
theorem d_G_part_19 : decode prog_2_method_5_code 19 = .ok (.iload_n 2, 1) := by decide +kernel
theorem d_G_part_20 : decode prog_2_method_5_code 20 = .ok (.dup2, 1) := by decide +kernel
theorem d_G_part_21 : decode prog_2_method_5_code 21 = .ok (.iaload, 1) := by decide +kernel
theorem d_G_part_22 : decode prog_2_method_5_code 22 = .ok (.iload_n 1, 1) := by decide +kernel
theorem d_G_part_23 : decode prog_2_method_5_code 23 = .ok (.invokestatic 37, 3) := by decide +kernel
theorem d_G_part_26 : decode prog_2_method_5_code 26 = .ok (.iconst (-1), 1) := by decide +kernel
theorem d_G_part_27 : decode prog_2_method_5_code 27 = .ok (.ixor, 1) := by decide +kernel
theorem d_G_part_28 : decode prog_2_method_5_code 28 = .ok (.iand, 1) := by decide +kernel
theorem d_G_part_29 : decode prog_2_method_5_code 29 = .ok (.iastore, 1) := by decide +kernel
theorem d_G_part_30 : decode prog_2_method_5_code 30 = .ok (.aload_n 0, 1) := by decide +kernel
theorem d_G_part_31 : decode prog_2_method_5_code 31 = .ok (.dup, 1) := by decide +kernel
theorem d_G_part_32 : decode prog_2_method_5_code 32 = .ok (.getfield 15, 3) := by decide +kernel
theorem d_G_part_35 : decode prog_2_method_5_code 35 = .ok (.iconst 1, 1) := by decide +kernel
theorem d_G_part_36 : decode prog_2_method_5_code 36 = .ok (.isub, 1) := by decide +kernel
theorem d_G_part_37 : decode prog_2_method_5_code 37 = .ok (.putfield 15, 3) := by decide +kernel
theorem d_G_part_40 : decode prog_2_method_5_code 40 = .ok (.return_, 1) := by decide +kernel
theorem d_X_odds_0 : decode prog_1_method_6_code 0 = .ok (.aload_n 0, 1) := by decide +kernel
theorem d_X_odds_1 : decode prog_1_method_6_code 1 = .ok (.iload_n 1, 1) := by decide +kernel
theorem d_X_odds_2 : decode prog_1_method_6_code 2 = .ok (.iload_n 2, 1) := by decide +kernel
theorem d_X_odds_3 : decode prog_1_method_6_code 3 = .ok (.invokevirtual 106, 3) := by decide +kernel
theorem d_X_odds_6 : decode prog_1_method_6_code 6 = .ok (.ifCond .eq 13, 3) := by decide +kernel
theorem d_X_odds_9 : decode prog_1_method_6_code 9 = .ok (.iload_n 3, 1) := by decide +kernel
theorem d_X_odds_10 : decode prog_1_method_6_code 10 = .ok (.ifCond .lt 9, 3) := by decide +kernel
theorem d_X_odds_13 : decode prog_1_method_6_code 13 = .ok (.iload_n 3, 1) := by decide +kernel
theorem d_X_odds_14 : decode prog_1_method_6_code 14 = .ok (.bipush 8, 2) := by decide +kernel
theorem d_X_odds_16 : decode prog_1_method_6_code 16 = .ok (.if_icmp .le 6, 3) := by decide +kernel
theorem d_X_odds_19 : decode prog_1_method_6_code 19 = .ok (.bipush (-2), 2) := by decide +kernel
theorem d_X_odds_21 : decode prog_1_method_6_code 21 = .ok (.ireturn, 1) := by decide +kernel
theorem d_X_odds_22 : decode prog_1_method_6_code 22 = .ok (.aload_n 0, 1) := by decide +kernel
theorem d_X_odds_23 : decode prog_1_method_6_code 23 = .ok (.getfield 26, 3) := by decide +kernel
theorem d_X_odds_26 : decode prog_1_method_6_code 26 = .ok (.getfield 109, 3) := by decide +kernel
theorem d_X_odds_29 : decode prog_1_method_6_code 29 = .ok (.iload_n 1, 1) := by decide +kernel
theorem d_X_odds_30 : decode prog_1_method_6_code 30 = .ok (.aaload, 1) := by decide +kernel
theorem d_X_odds_31 : decode prog_1_method_6_code 31 = .ok (.iload_n 2, 1) := by decide +kernel
theorem d_X_odds_32 : decode prog_1_method_6_code 32 = .ok (.iaload, 1) := by decide +kernel
theorem d_X_odds_33 : decode prog_1_method_6_code 33 = .ok (.istore 4, 2) := by decide +kernel
theorem d_X_odds_35 : decode prog_1_method_6_code 35 = .ok (.aload_n 0, 1) := by decide +kernel
theorem d_X_odds_36 : decode prog_1_method_6_code 36 = .ok (.getfield 26, 3) := by decide +kernel
theorem d_X_odds_39 : decode prog_1_method_6_code 39 = .ok (.getfield 109, 3) := by decide +kernel
theorem d_X_odds_42 : decode prog_1_method_6_code 42 = .ok (.iload_n 1, 1) := by decide +kernel
theorem d_X_odds_43 : decode prog_1_method_6_code 43 = .ok (.aaload, 1) := by decide +kernel
theorem d_X_odds_44 : decode prog_1_method_6_code 44 = .ok (.iload_n 2, 1) := by decide +kernel
theorem d_X_odds_45 : decode prog_1_method_6_code 45 = .ok (.iload_n 3, 1) := by decide +kernel
theorem d_X_odds_46 : decode prog_1_method_6_code 46 = .ok (.iastore, 1) := by decide +kernel
theorem d_X_odds_47 : decode prog_1_method_6_code 47 = .ok (.iload 4, 2) := by decide +kernel
theorem d_X_odds_49 : decode prog_1_method_6_code 49 = .ok (.ireturn, 1) := by decide +kernel
theorem d_X_isRow_0 : decode prog_1_method_27_code 0 = .ok (.aload_n 0, 1) := by decide +kernel
theorem d_X_isRow_1 : decode prog_1_method_27_code 1 = .ok (.iload_n 1, 1) := by decide +kernel
theorem d_X_isRow_2 : decode prog_1_method_27_code 2 = .ok (.invokevirtual 113, 3) := by decide +kernel
theorem d_X_isRow_5 : decode prog_1_method_27_code 5 = .ok (.ifCond .eq 23, 3) := by decide +kernel
theorem d_X_isRow_8 : decode prog_1_method_27_code 8 = .ok (.iload_n 2, 1) := by decide +kernel
theorem d_X_isRow_9 : decode prog_1_method_27_code 9 = .ok (.ifCond .lt 19, 3) := by decide +kernel
theorem d_X_isRow_12 : decode prog_1_method_27_code 12 = .ok (.iload_n 2, 1) := by decide +kernel
theorem d_X_isRow_13 : decode prog_1_method_27_code 13 = .ok (.aload_n 0, 1) := by decide +kernel
theorem d_X_isRow_14 : decode prog_1_method_27_code 14 = .ok (.getfield 12, 3) := by decide +kernel
theorem d_X_isRow_17 : decode prog_1_method_27_code 17 = .ok (.iload_n 1, 1) := by decide +kernel
theorem d_X_isRow_18 : decode prog_1_method_27_code 18 = .ok (.invokevirtual 136, 3) := by decide +kernel
theorem d_X_isRow_21 : decode prog_1_method_27_code 21 = .ok (.if_icmp .ge 7, 3) := by decide +kernel
theorem d_X_isRow_24 : decode prog_1_method_27_code 24 = .ok (.iconst 1, 1) := by decide +kernel
theorem d_X_isRow_25 : decode prog_1_method_27_code 25 = .ok (.goto 4, 3) := by decide +kernel
theorem d_X_isRow_28 : decode prog_1_method_27_code 28 = .ok (.iconst 0, 1) := by decide +kernel
theorem d_X_isRow_29 : decode prog_1_method_27_code 29 = .ok (.ireturn, 1) := by decide +kernel
theorem d_G_rows_0 : decode prog_2_method_8_code 0 = .ok (.iconst 1, 1) := by decide +kernel
theorem d_G_rows_1 : decode prog_2_method_8_code 1 = .ok (.aload_n 0, 1) := by decide +kernel
theorem d_G_rows_2 : decode prog_2_method_8_code 2 = .ok (.getfield 18, 3) := by decide +kernel
theorem d_G_rows_5 : decode prog_2_method_8_code 5 = .ok (.iload_n 1, 1) := by decide +kernel
theorem d_G_rows_6 : decode prog_2_method_8_code 6 = .ok (.iaload, 1) := by decide +kernel
theorem d_G_rows_7 : decode prog_2_method_8_code 7 = .ok (.invokestatic 41, 3) := by decide +kernel
theorem d_G_rows_10 : decode prog_2_method_8_code 10 = .ok (.ishl, 1) := by decide +kernel
theorem d_G_rows_11 : decode prog_2_method_8_code 11 = .ok (.ireturn, 1) := by decide +kernel
theorem d_I_bitCount_0 : decode prog_9_method_49_code 0 = .ok (.iload_n 0, 1) := by decide +kernel
theorem d_I_bitCount_1 : decode prog_9_method_49_code 1 = .ok (.iload_n 0, 1) := by decide +kernel
theorem d_I_bitCount_2 : decode prog_9_method_49_code 2 = .ok (.iconst 1, 1) := by decide +kernel
theorem d_I_bitCount_3 : decode prog_9_method_49_code 3 = .ok (.iushr, 1) := by decide +kernel
theorem d_I_bitCount_4 : decode prog_9_method_49_code 4 = .ok (.ldc_w 265, 3) := by decide +kernel
theorem d_I_bitCount_7 : decode prog_9_method_49_code 7 = .ok (.iand, 1) := by decide +kernel
theorem d_I_bitCount_8 : decode prog_9_method_49_code 8 = .ok (.isub, 1) := by decide +kernel
theorem d_I_bitCount_9 : decode prog_9_method_49_code 9 = .ok (.istore_n 0, 1) := by decide +kernel
theorem d_I_bitCount_10 : decode prog_9_method_49_code 10 = .ok (.iload_n 0, 1) := by decide +kernel
theorem d_I_bitCount_11 : decode prog_9_method_49_code 11 = .ok (.ldc_w 266, 3) := by decide +kernel
theorem d_I_bitCount_14 : decode prog_9_method_49_code 14 = .ok (.iand, 1) := by decide +kernel
theorem d_I_bitCount_15 : decode prog_9_method_49_code 15 = .ok (.iload_n 0, 1) := by decide +kernel
theorem d_I_bitCount_16 : decode prog_9_method_49_code 16 = .ok (.iconst 2, 1) := by decide +kernel
theorem d_I_bitCount_17 : decode prog_9_method_49_code 17 = .ok (.iushr, 1) := by decide +kernel
theorem d_I_bitCount_18 : decode prog_9_method_49_code 18 = .ok (.ldc_w 266, 3) := by decide +kernel
theorem d_I_bitCount_21 : decode prog_9_method_49_code 21 = .ok (.iand, 1) := by decide +kernel
theorem d_I_bitCount_22 : decode prog_9_method_49_code 22 = .ok (.iadd, 1) := by decide +kernel
theorem d_I_bitCount_23 : decode prog_9_method_49_code 23 = .ok (.istore_n 0, 1) := by decide +kernel
theorem d_I_bitCount_24 : decode prog_9_method_49_code 24 = .ok (.iload_n 0, 1) := by decide +kernel
theorem d_I_bitCount_25 : decode prog_9_method_49_code 25 = .ok (.iload_n 0, 1) := by decide +kernel
theorem d_I_bitCount_26 : decode prog_9_method_49_code 26 = .ok (.iconst 4, 1) := by decide +kernel
theorem d_I_bitCount_27 : decode prog_9_method_49_code 27 = .ok (.iushr, 1) := by decide +kernel
theorem d_I_bitCount_28 : decode prog_9_method_49_code 28 = .ok (.iadd, 1) := by decide +kernel
theorem d_I_bitCount_29 : decode prog_9_method_49_code 29 = .ok (.ldc_w 267, 3) := by decide +kernel
theorem d_I_bitCount_32 : decode prog_9_method_49_code 32 = .ok (.iand, 1) := by decide +kernel
theorem d_I_bitCount_33 : decode prog_9_method_49_code 33 = .ok (.istore_n 0, 1) := by decide +kernel
theorem d_I_bitCount_34 : decode prog_9_method_49_code 34 = .ok (.iload_n 0, 1) := by decide +kernel
theorem d_I_bitCount_35 : decode prog_9_method_49_code 35 = .ok (.iload_n 0, 1) := by decide +kernel
theorem d_I_bitCount_36 : decode prog_9_method_49_code 36 = .ok (.bipush 8, 2) := by decide +kernel
theorem d_I_bitCount_38 : decode prog_9_method_49_code 38 = .ok (.iushr, 1) := by decide +kernel
theorem d_I_bitCount_39 : decode prog_9_method_49_code 39 = .ok (.iadd, 1) := by decide +kernel
theorem d_I_bitCount_40 : decode prog_9_method_49_code 40 = .ok (.istore_n 0, 1) := by decide +kernel
theorem d_I_bitCount_41 : decode prog_9_method_49_code 41 = .ok (.iload_n 0, 1) := by decide +kernel
theorem d_I_bitCount_42 : decode prog_9_method_49_code 42 = .ok (.iload_n 0, 1) := by decide +kernel
theorem d_I_bitCount_43 : decode prog_9_method_49_code 43 = .ok (.bipush 16, 2) := by decide +kernel
theorem d_I_bitCount_45 : decode prog_9_method_49_code 45 = .ok (.iushr, 1) := by decide +kernel
theorem d_I_bitCount_46 : decode prog_9_method_49_code 46 = .ok (.iadd, 1) := by decide +kernel
theorem d_I_bitCount_47 : decode prog_9_method_49_code 47 = .ok (.istore_n 0, 1) := by decide +kernel
theorem d_I_bitCount_48 : decode prog_9_method_49_code 48 = .ok (.iload_n 0, 1) := by decide +kernel
theorem d_I_bitCount_49 : decode prog_9_method_49_code 49 = .ok (.bipush 63, 2) := by decide +kernel
theorem d_I_bitCount_51 : decode prog_9_method_49_code 51 = .ok (.iand, 1) := by decide +kernel
theorem d_I_bitCount_52 : decode prog_9_method_49_code 52 = .ok (.ireturn, 1) := by decide +kernel
theorem d_X_hold_0 : decode prog_1_method_7_code 0 = .ok (.aload_n 0, 1) := by decide +kernel
theorem d_X_hold_1 : decode prog_1_method_7_code 1 = .ok (.iload_n 1, 1) := by decide +kernel
theorem d_X_hold_2 : decode prog_1_method_7_code 2 = .ok (.invokevirtual 113, 3) := by decide +kernel
theorem d_X_hold_5 : decode prog_1_method_7_code 5 = .ok (.ifCond .eq 13, 3) := by decide +kernel
theorem d_X_hold_8 : decode prog_1_method_7_code 8 = .ok (.iload_n 2, 1) := by decide +kernel
theorem d_X_hold_9 : decode prog_1_method_7_code 9 = .ok (.iconst (-1), 1) := by decide +kernel
theorem d_X_hold_10 : decode prog_1_method_7_code 10 = .ok (.if_icmp .lt 8, 3) := by decide +kernel
theorem d_X_hold_13 : decode prog_1_method_7_code 13 = .ok (.iload_n 2, 1) := by decide +kernel
theorem d_X_hold_14 : decode prog_1_method_7_code 14 = .ok (.iconst 1, 1) := by decide +kernel
theorem d_X_hold_15 : decode prog_1_method_7_code 15 = .ok (.if_icmp .le 6, 3) := by decide +kernel
theorem d_X_hold_18 : decode prog_1_method_7_code 18 = .ok (.bipush (-2), 2) := by decide +kernel
theorem d_X_hold_20 : decode prog_1_method_7_code 20 = .ok (.ireturn, 1) := by decide +kernel
theorem d_X_hold_21 : decode prog_1_method_7_code 21 = .ok (.aload_n 0, 1) := by decide +kernel
theorem d_X_hold_22 : decode prog_1_method_7_code 22 = .ok (.getfield 26, 3) := by decide +kernel
theorem d_X_hold_25 : decode prog_1_method_7_code 25 = .ok (.iload_n 1, 1) := by decide +kernel
theorem d_X_hold_26 : decode prog_1_method_7_code 26 = .ok (.invokevirtual 117, 3) := by decide +kernel
theorem d_X_hold_29 : decode prog_1_method_7_code 29 = .ok (.istore_n 3, 1) := by decide +kernel
theorem d_X_hold_30 : decode prog_1_method_7_code 30 = .ok (.aload_n 0, 1) := by decide +kernel
theorem d_X_hold_31 : decode prog_1_method_7_code 31 = .ok (.getfield 26, 3) := by decide +kernel
theorem d_X_hold_34 : decode prog_1_method_7_code 34 = .ok (.iload_n 1, 1) := by decide +kernel
theorem d_X_hold_35 : decode prog_1_method_7_code 35 = .ok (.iload_n 2, 1) := by decide +kernel
theorem d_X_hold_36 : decode prog_1_method_7_code 36 = .ok (.invokevirtual 120, 3) := by decide +kernel
theorem d_X_hold_39 : decode prog_1_method_7_code 39 = .ok (.iload_n 3, 1) := by decide +kernel
theorem d_X_hold_40 : decode prog_1_method_7_code 40 = .ok (.ireturn, 1) := by decide +kernel
theorem d_T_heldAt_0 : decode prog_5_method_5_code 0 = .ok (.aload_n 0, 1) := by decide +kernel
theorem d_T_heldAt_1 : decode prog_5_method_5_code 1 = .ok (.getfield 16, 3) := by decide +kernel
theorem d_T_heldAt_4 : decode prog_5_method_5_code 4 = .ok (.iload_n 1, 1) := by decide +kernel
theorem d_T_heldAt_5 : decode prog_5_method_5_code 5 = .ok (.invokestatic 33, 3) := by decide +kernel
theorem d_T_heldAt_8 : decode prog_5_method_5_code 8 = .ok (.ifCond .ne 5, 3) := by decide +kernel
theorem d_T_heldAt_11 : decode prog_5_method_5_code 11 = .ok (.iconst (-1), 1) := by decide +kernel
theorem d_T_heldAt_12 : decode prog_5_method_5_code 12 = .ok (.ireturn, 1) := by decide +kernel
theorem d_T_heldAt_13 : decode prog_5_method_5_code 13 = .ok (.aload_n 0, 1) := by decide +kernel
theorem d_T_heldAt_14 : decode prog_5_method_5_code 14 = .ok (.getfield 20, 3) := by decide +kernel
theorem d_T_heldAt_17 : decode prog_5_method_5_code 17 = .ok (.iload_n 1, 1) := by decide +kernel
theorem d_T_heldAt_18 : decode prog_5_method_5_code 18 = .ok (.ishr, 1) := by decide +kernel
theorem d_T_heldAt_19 : decode prog_5_method_5_code 19 = .ok (.iconst 1, 1) := by decide +kernel
theorem d_T_heldAt_20 : decode prog_5_method_5_code 20 = .ok (.iand, 1) := by decide +kernel
theorem d_T_heldAt_21 : decode prog_5_method_5_code 21 = .ok (.ireturn, 1) := by decide +kernel
theorem d_T_setHeld_0 : decode prog_5_method_4_code 0 = .ok (.aload_n 0, 1) := by decide +kernel
theorem d_T_setHeld_1 : decode prog_5_method_4_code 1 = .ok (.dup, 1) := by decide +kernel
theorem d_T_setHeld_2 : decode prog_5_method_4_code 2 = .ok (.getfield 16, 3) := by decide +kernel
theorem d_T_setHeld_5 : decode prog_5_method_4_code 5 = .ok (.iload_n 1, 1) := by decide +kernel
theorem d_T_setHeld_6 : decode prog_5_method_4_code 6 = .ok (.invokestatic 29, 3) := by decide +kernel
theorem d_T_setHeld_9 : decode prog_5_method_4_code 9 = .ok (.iconst (-1), 1) := by decide +kernel
theorem d_T_setHeld_10 : decode prog_5_method_4_code 10 = .ok (.ixor, 1) := by decide +kernel
theorem d_T_setHeld_11 : decode prog_5_method_4_code 11 = .ok (.iand, 1) := by decide +kernel
theorem d_T_setHeld_12 : decode prog_5_method_4_code 12 = .ok (.putfield 16, 3) := by decide +kernel
theorem d_T_setHeld_15 : decode prog_5_method_4_code 15 = .ok (.aload_n 0, 1) := by decide +kernel
theorem d_T_setHeld_16 : decode prog_5_method_4_code 16 = .ok (.dup, 1) := by decide +kernel
theorem d_T_setHeld_17 : decode prog_5_method_4_code 17 = .ok (.getfield 20, 3) := by decide +kernel
theorem d_T_setHeld_20 : decode prog_5_method_4_code 20 = .ok (.iload_n 1, 1) := by decide +kernel
theorem d_T_setHeld_21 : decode prog_5_method_4_code 21 = .ok (.invokestatic 29, 3) := by decide +kernel
theorem d_T_setHeld_24 : decode prog_5_method_4_code 24 = .ok (.iconst (-1), 1) := by decide +kernel
theorem d_T_setHeld_25 : decode prog_5_method_4_code 25 = .ok (.ixor, 1) := by decide +kernel
theorem d_T_setHeld_26 : decode prog_5_method_4_code 26 = .ok (.iand, 1) := by decide +kernel
theorem d_T_setHeld_27 : decode prog_5_method_4_code 27 = .ok (.putfield 20, 3) := by decide +kernel
theorem d_T_setHeld_30 : decode prog_5_method_4_code 30 = .ok (.iload_n 2, 1) := by decide +kernel
theorem d_T_setHeld_31 : decode prog_5_method_4_code 31 = .ok (.iconst (-1), 1) := by decide +kernel
theorem d_T_setHeld_32 : decode prog_5_method_4_code 32 = .ok (.if_icmp .eq 28, 3) := by decide +kernel
theorem d_T_setHeld_35 : decode prog_5_method_4_code 35 = .ok (.aload_n 0, 1) := by decide +kernel
theorem d_T_setHeld_36 : decode prog_5_method_4_code 36 = .ok (.dup, 1) := by decide +kernel
theorem d_T_setHeld_37 : decode prog_5_method_4_code 37 = .ok (.getfield 16, 3) := by decide +kernel
theorem d_T_setHeld_40 : decode prog_5_method_4_code 40 = .ok (.iload_n 1, 1) := by decide +kernel
theorem d_T_setHeld_41 : decode prog_5_method_4_code 41 = .ok (.invokestatic 29, 3) := by decide +kernel
theorem d_T_setHeld_44 : decode prog_5_method_4_code 44 = .ok (.ior, 1) := by decide +kernel
theorem d_T_setHeld_45 : decode prog_5_method_4_code 45 = .ok (.putfield 16, 3) := by decide +kernel
theorem d_T_setHeld_48 : decode prog_5_method_4_code 48 = .ok (.aload_n 0, 1) := by decide +kernel
theorem d_T_setHeld_49 : decode prog_5_method_4_code 49 = .ok (.dup, 1) := by decide +kernel
theorem d_T_setHeld_50 : decode prog_5_method_4_code 50 = .ok (.getfield 20, 3) := by decide +kernel
theorem d_T_setHeld_53 : decode prog_5_method_4_code 53 = .ok (.iload_n 2, 1) := by decide +kernel
theorem d_T_setHeld_54 : decode prog_5_method_4_code 54 = .ok (.iload_n 1, 1) := by decide +kernel
theorem d_T_setHeld_55 : decode prog_5_method_4_code 55 = .ok (.ishl, 1) := by decide +kernel
theorem d_T_setHeld_56 : decode prog_5_method_4_code 56 = .ok (.ior, 1) := by decide +kernel
theorem d_T_setHeld_57 : decode prog_5_method_4_code 57 = .ok (.putfield 20, 3) := by decide +kernel
theorem d_T_setHeld_60 : decode prog_5_method_4_code 60 = .ok (.return_, 1) := by decide +kernel
theorem d_X_told_0 : decode prog_1_method_8_code 0 = .ok (.aload_n 0, 1) := by decide +kernel
theorem d_X_told_1 : decode prog_1_method_8_code 1 = .ok (.iload_n 1, 1) := by decide +kernel
theorem d_X_told_2 : decode prog_1_method_8_code 2 = .ok (.iload_n 2, 1) := by decide +kernel
theorem d_X_told_3 : decode prog_1_method_8_code 3 = .ok (.invokevirtual 106, 3) := by decide +kernel
theorem d_X_told_6 : decode prog_1_method_8_code 6 = .ok (.ifCond .eq 17, 3) := by decide +kernel
theorem d_X_told_9 : decode prog_1_method_8_code 9 = .ok (.aload_n 0, 1) := by decide +kernel
theorem d_X_told_10 : decode prog_1_method_8_code 10 = .ok (.getfield 26, 3) := by decide +kernel
theorem d_X_told_13 : decode prog_1_method_8_code 13 = .ok (.getfield 109, 3) := by decide +kernel
theorem d_X_told_16 : decode prog_1_method_8_code 16 = .ok (.iload_n 1, 1) := by decide +kernel
theorem d_X_told_17 : decode prog_1_method_8_code 17 = .ok (.aaload, 1) := by decide +kernel
theorem d_X_told_18 : decode prog_1_method_8_code 18 = .ok (.iload_n 2, 1) := by decide +kernel
theorem d_X_told_19 : decode prog_1_method_8_code 19 = .ok (.iaload, 1) := by decide +kernel
theorem d_X_told_20 : decode prog_1_method_8_code 20 = .ok (.goto 5, 3) := by decide +kernel
theorem d_X_told_23 : decode prog_1_method_8_code 23 = .ok (.bipush (-2), 2) := by decide +kernel
theorem d_X_told_25 : decode prog_1_method_8_code 25 = .ok (.ireturn, 1) := by decide +kernel
theorem d_X_of_0 : decode prog_1_method_9_code 0 = .ok (.aload_n 0, 1) := by decide +kernel
theorem d_X_of_1 : decode prog_1_method_9_code 1 = .ok (.iload_n 1, 1) := by decide +kernel
theorem d_X_of_2 : decode prog_1_method_9_code 2 = .ok (.invokevirtual 113, 3) := by decide +kernel
theorem d_X_of_5 : decode prog_1_method_9_code 5 = .ok (.ifCond .ne 6, 3) := by decide +kernel
theorem d_X_of_8 : decode prog_1_method_9_code 8 = .ok (.bipush (-2), 2) := by decide +kernel
theorem d_X_of_10 : decode prog_1_method_9_code 10 = .ok (.ireturn, 1) := by decide +kernel
theorem d_X_of_11 : decode prog_1_method_9_code 11 = .ok (.iload_n 2, 1) := by decide +kernel
theorem d_X_of_12 : decode prog_1_method_9_code 12 = .ok (.tableswitch 102 0 4 #[36, 46, 56, 84, 93], 36) := by decide +kernel
theorem d_X_of_48 : decode prog_1_method_9_code 48 = .ok (.aload_n 0, 1) := by decide +kernel
theorem d_X_of_49 : decode prog_1_method_9_code 49 = .ok (.getfield 12, 3) := by decide +kernel
theorem d_X_of_52 : decode prog_1_method_9_code 52 = .ok (.getfield 123, 3) := by decide +kernel
theorem d_X_of_55 : decode prog_1_method_9_code 55 = .ok (.iload_n 1, 1) := by decide +kernel
theorem d_X_of_56 : decode prog_1_method_9_code 56 = .ok (.iaload, 1) := by decide +kernel
theorem d_X_of_57 : decode prog_1_method_9_code 57 = .ok (.ireturn, 1) := by decide +kernel
theorem d_X_of_58 : decode prog_1_method_9_code 58 = .ok (.aload_n 0, 1) := by decide +kernel
theorem d_X_of_59 : decode prog_1_method_9_code 59 = .ok (.getfield 12, 3) := by decide +kernel
theorem d_X_of_62 : decode prog_1_method_9_code 62 = .ok (.getfield 85, 3) := by decide +kernel
theorem d_X_of_65 : decode prog_1_method_9_code 65 = .ok (.iload_n 1, 1) := by decide +kernel
theorem d_X_of_66 : decode prog_1_method_9_code 66 = .ok (.iaload, 1) := by decide +kernel
theorem d_X_of_67 : decode prog_1_method_9_code 67 = .ok (.ireturn, 1) := by decide +kernel
theorem d_X_of_68 : decode prog_1_method_9_code 68 = .ok (.aload_n 0, 1) := by decide +kernel
theorem d_X_of_69 : decode prog_1_method_9_code 69 = .ok (.getfield 33, 3) := by decide +kernel
theorem d_X_of_72 : decode prog_1_method_9_code 72 = .ok (.aload_n 0, 1) := by decide +kernel
theorem d_X_of_73 : decode prog_1_method_9_code 73 = .ok (.getfield 12, 3) := by decide +kernel
theorem d_X_of_76 : decode prog_1_method_9_code 76 = .ok (.aload_n 0, 1) := by decide +kernel
theorem d_X_of_77 : decode prog_1_method_9_code 77 = .ok (.getfield 26, 3) := by decide +kernel
theorem d_X_of_80 : decode prog_1_method_9_code 80 = .ok (.getfield 126, 3) := by decide +kernel
theorem d_X_of_83 : decode prog_1_method_9_code 83 = .ok (.iconst 0, 1) := by decide +kernel
theorem d_X_of_84 : decode prog_1_method_9_code 84 = .ok (.invokevirtual 129, 3) := by decide +kernel
theorem d_X_of_87 : decode prog_1_method_9_code 87 = .ok (.aload_n 0, 1) := by decide +kernel
theorem d_X_of_88 : decode prog_1_method_9_code 88 = .ok (.getfield 33, 3) := by decide +kernel
theorem d_X_of_91 : decode prog_1_method_9_code 91 = .ok (.iload_n 1, 1) := by decide +kernel
theorem d_X_of_92 : decode prog_1_method_9_code 92 = .ok (.invokevirtual 133, 3) := by decide +kernel
theorem d_X_of_95 : decode prog_1_method_9_code 95 = .ok (.ireturn, 1) := by decide +kernel
theorem d_X_of_96 : decode prog_1_method_9_code 96 = .ok (.aload_n 0, 1) := by decide +kernel
theorem d_X_of_97 : decode prog_1_method_9_code 97 = .ok (.getfield 26, 3) := by decide +kernel
theorem d_X_of_100 : decode prog_1_method_9_code 100 = .ok (.iload_n 1, 1) := by decide +kernel
theorem d_X_of_101 : decode prog_1_method_9_code 101 = .ok (.invokevirtual 117, 3) := by decide +kernel
theorem d_X_of_104 : decode prog_1_method_9_code 104 = .ok (.ireturn, 1) := by decide +kernel
theorem d_X_of_105 : decode prog_1_method_9_code 105 = .ok (.aload_n 0, 1) := by decide +kernel
theorem d_X_of_106 : decode prog_1_method_9_code 106 = .ok (.getfield 12, 3) := by decide +kernel
theorem d_X_of_109 : decode prog_1_method_9_code 109 = .ok (.iload_n 1, 1) := by decide +kernel
theorem d_X_of_110 : decode prog_1_method_9_code 110 = .ok (.invokevirtual 136, 3) := by decide +kernel
theorem d_X_of_113 : decode prog_1_method_9_code 113 = .ok (.ireturn, 1) := by decide +kernel
theorem d_X_of_114 : decode prog_1_method_9_code 114 = .ok (.bipush (-2), 2) := by decide +kernel
theorem d_X_of_116 : decode prog_1_method_9_code 116 = .ok (.ireturn, 1) := by decide +kernel
theorem d_V_lookAt_0 : decode prog_6_method_2_code 0 = .ok (.iconst 0, 1) := by decide +kernel
theorem d_V_lookAt_1 : decode prog_6_method_2_code 1 = .ok (.istore 4, 2) := by decide +kernel
theorem d_V_lookAt_3 : decode prog_6_method_2_code 3 = .ok (.iload 4, 2) := by decide +kernel
theorem d_V_lookAt_5 : decode prog_6_method_2_code 5 = .ok (.bipush 8, 2) := by decide +kernel
theorem d_V_lookAt_7 : decode prog_6_method_2_code 7 = .ok (.if_icmp .ge 71, 3) := by decide +kernel
theorem d_V_lookAt_10 : decode prog_6_method_2_code 10 = .ok (.aload_n 0, 1) := by decide +kernel
theorem d_V_lookAt_11 : decode prog_6_method_2_code 11 = .ok (.getfield 9, 3) := by decide +kernel
theorem d_V_lookAt_14 : decode prog_6_method_2_code 14 = .ok (.iload 4, 2) := by decide +kernel
theorem d_V_lookAt_16 : decode prog_6_method_2_code 16 = .ok (.iload_n 2, 1) := by decide +kernel
theorem d_V_lookAt_17 : decode prog_6_method_2_code 17 = .ok (.iload 4, 2) := by decide +kernel
theorem d_V_lookAt_19 : decode prog_6_method_2_code 19 = .ok (.invokestatic 37, 3) := by decide +kernel
theorem d_V_lookAt_22 : decode prog_6_method_2_code 22 = .ok (.ifCond .eq 7, 3) := by decide +kernel
theorem d_V_lookAt_25 : decode prog_6_method_2_code 25 = .ok (.iconst 0, 1) := by decide +kernel
theorem d_V_lookAt_26 : decode prog_6_method_2_code 26 = .ok (.goto 14, 3) := by decide +kernel
theorem d_V_lookAt_29 : decode prog_6_method_2_code 29 = .ok (.aload_n 1, 1) := by decide +kernel
theorem d_V_lookAt_30 : decode prog_6_method_2_code 30 = .ok (.getfield 41, 3) := by decide +kernel
theorem d_V_lookAt_33 : decode prog_6_method_2_code 33 = .ok (.iload 4, 2) := by decide +kernel
theorem d_V_lookAt_35 : decode prog_6_method_2_code 35 = .ok (.iaload, 1) := by decide +kernel
theorem d_V_lookAt_36 : decode prog_6_method_2_code 36 = .ok (.iload_n 3, 1) := by decide +kernel
theorem d_V_lookAt_37 : decode prog_6_method_2_code 37 = .ok (.iconst (-1), 1) := by decide +kernel
theorem d_V_lookAt_38 : decode prog_6_method_2_code 38 = .ok (.ixor, 1) := by decide +kernel
theorem d_V_lookAt_39 : decode prog_6_method_2_code 39 = .ok (.iand, 1) := by decide +kernel
theorem d_V_lookAt_40 : decode prog_6_method_2_code 40 = .ok (.iastore, 1) := by decide +kernel
theorem d_V_lookAt_41 : decode prog_6_method_2_code 41 = .ok (.aload_n 0, 1) := by decide +kernel
theorem d_V_lookAt_42 : decode prog_6_method_2_code 42 = .ok (.getfield 15, 3) := by decide +kernel
theorem d_V_lookAt_45 : decode prog_6_method_2_code 45 = .ok (.iload 4, 2) := by decide +kernel
theorem d_V_lookAt_47 : decode prog_6_method_2_code 47 = .ok (.iload_n 3, 1) := by decide +kernel
theorem d_V_lookAt_48 : decode prog_6_method_2_code 48 = .ok (.iload 4, 2) := by decide +kernel
theorem d_V_lookAt_50 : decode prog_6_method_2_code 50 = .ok (.invokestatic 37, 3) := by decide +kernel
theorem d_V_lookAt_53 : decode prog_6_method_2_code 53 = .ok (.ifCond .eq 7, 3) := by decide +kernel
theorem d_V_lookAt_56 : decode prog_6_method_2_code 56 = .ok (.iconst 0, 1) := by decide +kernel
theorem d_V_lookAt_57 : decode prog_6_method_2_code 57 = .ok (.goto 14, 3) := by decide +kernel
theorem d_V_lookAt_60 : decode prog_6_method_2_code 60 = .ok (.aload_n 1, 1) := by decide +kernel
theorem d_V_lookAt_61 : decode prog_6_method_2_code 61 = .ok (.getfield 46, 3) := by decide +kernel
theorem d_V_lookAt_64 : decode prog_6_method_2_code 64 = .ok (.iload 4, 2) := by decide +kernel
theorem d_V_lookAt_66 : decode prog_6_method_2_code 66 = .ok (.iaload, 1) := by decide +kernel
theorem d_V_lookAt_67 : decode prog_6_method_2_code 67 = .ok (.iload_n 2, 1) := by decide +kernel
theorem d_V_lookAt_68 : decode prog_6_method_2_code 68 = .ok (.iconst (-1), 1) := by decide +kernel
theorem d_V_lookAt_69 : decode prog_6_method_2_code 69 = .ok (.ixor, 1) := by decide +kernel
theorem d_V_lookAt_70 : decode prog_6_method_2_code 70 = .ok (.iand, 1) := by decide +kernel
theorem d_V_lookAt_71 : decode prog_6_method_2_code 71 = .ok (.iastore, 1) := by decide +kernel
theorem d_V_lookAt_72 : decode prog_6_method_2_code 72 = .ok (.iinc 4 1, 3) := by decide +kernel
theorem d_V_lookAt_75 : decode prog_6_method_2_code 75 = .ok (.goto (-72), 3) := by decide +kernel
theorem d_V_lookAt_78 : decode prog_6_method_2_code 78 = .ok (.return_, 1) := by decide +kernel
theorem d_V_below_0 : decode prog_6_method_3_code 0 = .ok (.aload_n 0, 1) := by decide +kernel
theorem d_V_below_1 : decode prog_6_method_3_code 1 = .ok (.getfield 15, 3) := by decide +kernel
theorem d_V_below_4 : decode prog_6_method_3_code 4 = .ok (.aload_n 0, 1) := by decide +kernel
theorem d_V_below_5 : decode prog_6_method_3_code 5 = .ok (.getfield 15, 3) := by decide +kernel
theorem d_V_below_8 : decode prog_6_method_3_code 8 = .ok (.iload_n 1, 1) := by decide +kernel
theorem d_V_below_9 : decode prog_6_method_3_code 9 = .ok (.iaload, 1) := by decide +kernel
theorem d_V_below_10 : decode prog_6_method_3_code 10 = .ok (.invokestatic 49, 3) := by decide +kernel
theorem d_V_below_13 : decode prog_6_method_3_code 13 = .ok (.ireturn, 1) := by decide +kernel
theorem d_X_separated_0 : decode prog_1_method_10_code 0 = .ok (.aload_n 0, 1) := by decide +kernel
theorem d_X_separated_1 : decode prog_1_method_10_code 1 = .ok (.iload_n 1, 1) := by decide +kernel
theorem d_X_separated_2 : decode prog_1_method_10_code 2 = .ok (.iload_n 2, 1) := by decide +kernel
theorem d_X_separated_3 : decode prog_1_method_10_code 3 = .ok (.iload_n 3, 1) := by decide +kernel
theorem d_X_separated_4 : decode prog_1_method_10_code 4 = .ok (.invokevirtual 139, 3) := by decide +kernel
theorem d_X_separated_7 : decode prog_1_method_10_code 7 = .ok (.ifCond .ne 6, 3) := by decide +kernel
theorem d_X_separated_10 : decode prog_1_method_10_code 10 = .ok (.bipush (-2), 2) := by decide +kernel
theorem d_X_separated_12 : decode prog_1_method_10_code 12 = .ok (.ireturn, 1) := by decide +kernel
theorem d_X_separated_13 : decode prog_1_method_10_code 13 = .ok (.aload_n 0, 1) := by decide +kernel
theorem d_X_separated_14 : decode prog_1_method_10_code 14 = .ok (.getfield 33, 3) := by decide +kernel
theorem d_X_separated_17 : decode prog_1_method_10_code 17 = .ok (.aload_n 0, 1) := by decide +kernel
theorem d_X_separated_18 : decode prog_1_method_10_code 18 = .ok (.getfield 12, 3) := by decide +kernel
theorem d_X_separated_21 : decode prog_1_method_10_code 21 = .ok (.aload_n 0, 1) := by decide +kernel
theorem d_X_separated_22 : decode prog_1_method_10_code 22 = .ok (.getfield 26, 3) := by decide +kernel
theorem d_X_separated_25 : decode prog_1_method_10_code 25 = .ok (.getfield 126, 3) := by decide +kernel
theorem d_X_separated_28 : decode prog_1_method_10_code 28 = .ok (.iconst 0, 1) := by decide +kernel
theorem d_X_separated_29 : decode prog_1_method_10_code 29 = .ok (.invokevirtual 129, 3) := by decide +kernel
theorem d_X_separated_32 : decode prog_1_method_10_code 32 = .ok (.aload_n 0, 1) := by decide +kernel
theorem d_X_separated_33 : decode prog_1_method_10_code 33 = .ok (.getfield 33, 3) := by decide +kernel
theorem d_X_separated_36 : decode prog_1_method_10_code 36 = .ok (.iload_n 1, 1) := by decide +kernel
theorem d_X_separated_37 : decode prog_1_method_10_code 37 = .ok (.iload_n 2, 1) := by decide +kernel
theorem d_X_separated_38 : decode prog_1_method_10_code 38 = .ok (.iload_n 3, 1) := by decide +kernel
theorem d_X_separated_39 : decode prog_1_method_10_code 39 = .ok (.invokevirtual 143, 3) := by decide +kernel
theorem d_X_separated_42 : decode prog_1_method_10_code 42 = .ok (.iconst (-1), 1) := by decide +kernel
theorem d_X_separated_43 : decode prog_1_method_10_code 43 = .ok (.if_icmp .ne 7, 3) := by decide +kernel
theorem d_X_separated_46 : decode prog_1_method_10_code 46 = .ok (.iconst 1, 1) := by decide +kernel
theorem d_X_separated_47 : decode prog_1_method_10_code 47 = .ok (.goto 4, 3) := by decide +kernel
theorem d_X_separated_50 : decode prog_1_method_10_code 50 = .ok (.iconst 0, 1) := by decide +kernel
theorem d_X_separated_51 : decode prog_1_method_10_code 51 = .ok (.invokestatic 147, 3) := by decide +kernel
theorem d_X_separated_54 : decode prog_1_method_10_code 54 = .ok (.ireturn, 1) := by decide +kernel
theorem d_X_isQuestion_0 : decode prog_1_method_26_code 0 = .ok (.aload_n 0, 1) := by decide +kernel
theorem d_X_isQuestion_1 : decode prog_1_method_26_code 1 = .ok (.iload_n 1, 1) := by decide +kernel
theorem d_X_isQuestion_2 : decode prog_1_method_26_code 2 = .ok (.iload_n 2, 1) := by decide +kernel
theorem d_X_isQuestion_3 : decode prog_1_method_26_code 3 = .ok (.invokevirtual 74, 3) := by decide +kernel
theorem d_X_isQuestion_6 : decode prog_1_method_26_code 6 = .ok (.ifCond .eq 31, 3) := by decide +kernel
theorem d_X_isQuestion_9 : decode prog_1_method_26_code 9 = .ok (.aload_n 0, 1) := by decide +kernel
theorem d_X_isQuestion_10 : decode prog_1_method_26_code 10 = .ok (.iload_n 3, 1) := by decide +kernel
theorem d_X_isQuestion_11 : decode prog_1_method_26_code 11 = .ok (.invokevirtual 151, 3) := by decide +kernel
theorem d_X_isQuestion_14 : decode prog_1_method_26_code 14 = .ok (.ifCond .eq 23, 3) := by decide +kernel
theorem d_X_isQuestion_17 : decode prog_1_method_26_code 17 = .ok (.iload_n 3, 1) := by decide +kernel
theorem d_X_isQuestion_18 : decode prog_1_method_26_code 18 = .ok (.iload_n 1, 1) := by decide +kernel
theorem d_X_isQuestion_19 : decode prog_1_method_26_code 19 = .ok (.invokestatic 82, 3) := by decide +kernel
theorem d_X_isQuestion_22 : decode prog_1_method_26_code 22 = .ok (.ifCond .ne 15, 3) := by decide +kernel
theorem d_X_isQuestion_25 : decode prog_1_method_26_code 25 = .ok (.iload_n 3, 1) := by decide +kernel
theorem d_X_isQuestion_26 : decode prog_1_method_26_code 26 = .ok (.iload_n 2, 1) := by decide +kernel
theorem d_X_isQuestion_27 : decode prog_1_method_26_code 27 = .ok (.invokestatic 82, 3) := by decide +kernel
theorem d_X_isQuestion_30 : decode prog_1_method_26_code 30 = .ok (.ifCond .ne 7, 3) := by decide +kernel
theorem d_X_isQuestion_33 : decode prog_1_method_26_code 33 = .ok (.iconst 1, 1) := by decide +kernel
theorem d_X_isQuestion_34 : decode prog_1_method_26_code 34 = .ok (.goto 4, 3) := by decide +kernel
theorem d_X_isQuestion_37 : decode prog_1_method_26_code 37 = .ok (.iconst 0, 1) := by decide +kernel
theorem d_X_isQuestion_38 : decode prog_1_method_26_code 38 = .ok (.ireturn, 1) := by decide +kernel
theorem d_X_isSet_0 : decode prog_1_method_25_code 0 = .ok (.iload_n 1, 1) := by decide +kernel
theorem d_X_isSet_1 : decode prog_1_method_25_code 1 = .ok (.ifCond .lt 18, 3) := by decide +kernel
theorem d_X_isSet_4 : decode prog_1_method_25_code 4 = .ok (.iload_n 1, 1) := by decide +kernel
theorem d_X_isSet_5 : decode prog_1_method_25_code 5 = .ok (.aload_n 0, 1) := by decide +kernel
theorem d_X_isSet_6 : decode prog_1_method_25_code 6 = .ok (.getfield 12, 3) := by decide +kernel
theorem d_X_isSet_9 : decode prog_1_method_25_code 9 = .ok (.invokevirtual 156, 3) := by decide +kernel
theorem d_X_isSet_12 : decode prog_1_method_25_code 12 = .ok (.if_icmp .gt 7, 3) := by decide +kernel
theorem d_X_isSet_15 : decode prog_1_method_25_code 15 = .ok (.iconst 1, 1) := by decide +kernel
theorem d_X_isSet_16 : decode prog_1_method_25_code 16 = .ok (.goto 4, 3) := by decide +kernel
theorem d_X_isSet_19 : decode prog_1_method_25_code 19 = .ok (.iconst 0, 1) := by decide +kernel
theorem d_X_isSet_20 : decode prog_1_method_25_code 20 = .ok (.ireturn, 1) := by decide +kernel
theorem d_G_everyPlace_0 : decode prog_2_method_6_code 0 = .ok (.aload_n 0, 1) := by decide +kernel
theorem d_G_everyPlace_1 : decode prog_2_method_6_code 1 = .ok (.getfield 9, 3) := by decide +kernel
theorem d_G_everyPlace_4 : decode prog_2_method_6_code 4 = .ok (.invokestatic 37, 3) := by decide +kernel
theorem d_G_everyPlace_7 : decode prog_2_method_6_code 7 = .ok (.iconst 1, 1) := by decide +kernel
theorem d_G_everyPlace_8 : decode prog_2_method_6_code 8 = .ok (.isub, 1) := by decide +kernel
theorem d_G_everyPlace_9 : decode prog_2_method_6_code 9 = .ok (.ireturn, 1) := by decide +kernel
theorem d_V_shortest_0 : decode prog_6_method_4_code 0 = .ok (.aload_n 0, 1) := by decide +kernel
theorem d_V_shortest_1 : decode prog_6_method_4_code 1 = .ok (.iload_n 1, 1) := by decide +kernel
theorem d_V_shortest_2 : decode prog_6_method_4_code 2 = .ok (.iload_n 3, 1) := by decide +kernel
theorem d_V_shortest_3 : decode prog_6_method_4_code 3 = .ok (.invokevirtual 53, 3) := by decide +kernel
theorem d_V_shortest_6 : decode prog_6_method_4_code 6 = .ok (.iconst 1, 1) := by decide +kernel
theorem d_V_shortest_7 : decode prog_6_method_4_code 7 = .ok (.istore 4, 2) := by decide +kernel
theorem d_V_shortest_9 : decode prog_6_method_4_code 9 = .ok (.iload 4, 2) := by decide +kernel
theorem d_V_shortest_11 : decode prog_6_method_4_code 11 = .ok (.bipush 16, 2) := by decide +kernel
theorem d_V_shortest_13 : decode prog_6_method_4_code 13 = .ok (.if_icmp .gt 32, 3) := by decide +kernel
theorem d_V_shortest_16 : decode prog_6_method_4_code 16 = .ok (.aload_n 0, 1) := by decide +kernel
theorem d_V_shortest_17 : decode prog_6_method_4_code 17 = .ok (.getfield 25, 3) := by decide +kernel
theorem d_V_shortest_20 : decode prog_6_method_4_code 20 = .ok (.aload_n 0, 1) := by decide +kernel
theorem d_V_shortest_21 : decode prog_6_method_4_code 21 = .ok (.getfield 28, 3) := by decide +kernel
theorem d_V_shortest_24 : decode prog_6_method_4_code 24 = .ok (.ior, 1) := by decide +kernel
theorem d_V_shortest_25 : decode prog_6_method_4_code 25 = .ok (.iload_n 2, 1) := by decide +kernel
theorem d_V_shortest_26 : decode prog_6_method_4_code 26 = .ok (.invokestatic 37, 3) := by decide +kernel
theorem d_V_shortest_29 : decode prog_6_method_4_code 29 = .ok (.ifCond .eq 6, 3) := by decide +kernel
theorem d_V_shortest_32 : decode prog_6_method_4_code 32 = .ok (.iload 4, 2) := by decide +kernel
theorem d_V_shortest_34 : decode prog_6_method_4_code 34 = .ok (.ireturn, 1) := by decide +kernel
theorem d_V_shortest_35 : decode prog_6_method_4_code 35 = .ok (.aload_n 0, 1) := by decide +kernel
theorem d_V_shortest_36 : decode prog_6_method_4_code 36 = .ok (.invokevirtual 57, 3) := by decide +kernel
theorem d_V_shortest_39 : decode prog_6_method_4_code 39 = .ok (.iinc 4 1, 3) := by decide +kernel
theorem d_V_shortest_42 : decode prog_6_method_4_code 42 = .ok (.goto (-33), 3) := by decide +kernel
theorem d_V_shortest_45 : decode prog_6_method_4_code 45 = .ok (.iconst (-1), 1) := by decide +kernel
theorem d_V_shortest_46 : decode prog_6_method_4_code 46 = .ok (.ireturn, 1) := by decide +kernel
theorem d_V_start_0 : decode prog_6_method_6_code 0 = .ok (.aload_n 0, 1) := by decide +kernel
theorem d_V_start_1 : decode prog_6_method_6_code 1 = .ok (.iload_n 2, 1) := by decide +kernel
theorem d_V_start_2 : decode prog_6_method_6_code 2 = .ok (.putfield 18, 3) := by decide +kernel
theorem d_V_start_5 : decode prog_6_method_6_code 5 = .ok (.aload_n 0, 1) := by decide +kernel
theorem d_V_start_6 : decode prog_6_method_6_code 6 = .ok (.aload_n 0, 1) := by decide +kernel
theorem d_V_start_7 : decode prog_6_method_6_code 7 = .ok (.getfield 9, 3) := by decide +kernel
theorem d_V_start_10 : decode prog_6_method_6_code 10 = .ok (.iload_n 2, 1) := by decide +kernel
theorem d_V_start_11 : decode prog_6_method_6_code 11 = .ok (.invokestatic 49, 3) := by decide +kernel
theorem d_V_start_14 : decode prog_6_method_6_code 14 = .ok (.putfield 22, 3) := by decide +kernel
theorem d_V_start_17 : decode prog_6_method_6_code 17 = .ok (.aload_n 0, 1) := by decide +kernel
theorem d_V_start_18 : decode prog_6_method_6_code 18 = .ok (.aload_n 0, 1) := by decide +kernel
theorem d_V_start_19 : decode prog_6_method_6_code 19 = .ok (.getfield 15, 3) := by decide +kernel
theorem d_V_start_22 : decode prog_6_method_6_code 22 = .ok (.iload_n 1, 1) := by decide +kernel
theorem d_V_start_23 : decode prog_6_method_6_code 23 = .ok (.iaload, 1) := by decide +kernel
theorem d_V_start_24 : decode prog_6_method_6_code 24 = .ok (.putfield 25, 3) := by decide +kernel
theorem d_V_start_27 : decode prog_6_method_6_code 27 = .ok (.aload_n 0, 1) := by decide +kernel
theorem d_V_start_28 : decode prog_6_method_6_code 28 = .ok (.aload_n 0, 1) := by decide +kernel
theorem d_V_start_29 : decode prog_6_method_6_code 29 = .ok (.getfield 9, 3) := by decide +kernel
theorem d_V_start_32 : decode prog_6_method_6_code 32 = .ok (.iload_n 1, 1) := by decide +kernel
theorem d_V_start_33 : decode prog_6_method_6_code 33 = .ok (.iaload, 1) := by decide +kernel
theorem d_V_start_34 : decode prog_6_method_6_code 34 = .ok (.putfield 28, 3) := by decide +kernel
theorem d_V_start_37 : decode prog_6_method_6_code 37 = .ok (.aload_n 0, 1) := by decide +kernel
theorem d_V_start_38 : decode prog_6_method_6_code 38 = .ok (.aload_n 0, 1) := by decide +kernel
theorem d_V_start_39 : decode prog_6_method_6_code 39 = .ok (.getfield 25, 3) := by decide +kernel
theorem d_V_start_42 : decode prog_6_method_6_code 42 = .ok (.putfield 31, 3) := by decide +kernel
theorem d_V_start_45 : decode prog_6_method_6_code 45 = .ok (.aload_n 0, 1) := by decide +kernel
theorem d_V_start_46 : decode prog_6_method_6_code 46 = .ok (.aload_n 0, 1) := by decide +kernel
theorem d_V_start_47 : decode prog_6_method_6_code 47 = .ok (.getfield 28, 3) := by decide +kernel
theorem d_V_start_50 : decode prog_6_method_6_code 50 = .ok (.putfield 34, 3) := by decide +kernel
theorem d_V_start_53 : decode prog_6_method_6_code 53 = .ok (.return_, 1) := by decide +kernel
theorem d_V_step_0 : decode prog_6_method_7_code 0 = .ok (.aload_n 0, 1) := by decide +kernel
theorem d_V_step_1 : decode prog_6_method_7_code 1 = .ok (.getfield 28, 3) := by decide +kernel
theorem d_V_step_4 : decode prog_6_method_7_code 4 = .ok (.aload_n 0, 1) := by decide +kernel
theorem d_V_step_5 : decode prog_6_method_7_code 5 = .ok (.getfield 18, 3) := by decide +kernel
theorem d_V_step_8 : decode prog_6_method_7_code 8 = .ok (.iconst (-1), 1) := by decide +kernel
theorem d_V_step_9 : decode prog_6_method_7_code 9 = .ok (.ixor, 1) := by decide +kernel
theorem d_V_step_10 : decode prog_6_method_7_code 10 = .ok (.iand, 1) := by decide +kernel
theorem d_V_step_11 : decode prog_6_method_7_code 11 = .ok (.istore_n 1, 1) := by decide +kernel
theorem d_V_step_12 : decode prog_6_method_7_code 12 = .ok (.aload_n 0, 1) := by decide +kernel
theorem d_V_step_13 : decode prog_6_method_7_code 13 = .ok (.getfield 15, 3) := by decide +kernel
theorem d_V_step_16 : decode prog_6_method_7_code 16 = .ok (.iload_n 1, 1) := by decide +kernel
theorem d_V_step_17 : decode prog_6_method_7_code 17 = .ok (.aload_n 0, 1) := by decide +kernel
theorem d_V_step_18 : decode prog_6_method_7_code 18 = .ok (.getfield 25, 3) := by decide +kernel
theorem d_V_step_21 : decode prog_6_method_7_code 21 = .ok (.aload_n 0, 1) := by decide +kernel
theorem d_V_step_22 : decode prog_6_method_7_code 22 = .ok (.getfield 18, 3) := by decide +kernel
theorem d_V_step_25 : decode prog_6_method_7_code 25 = .ok (.iconst (-1), 1) := by decide +kernel
theorem d_V_step_26 : decode prog_6_method_7_code 26 = .ok (.ixor, 1) := by decide +kernel
theorem d_V_step_27 : decode prog_6_method_7_code 27 = .ok (.iand, 1) := by decide +kernel
theorem d_V_step_28 : decode prog_6_method_7_code 28 = .ok (.ior, 1) := by decide +kernel
theorem d_V_step_29 : decode prog_6_method_7_code 29 = .ok (.invokestatic 60, 3) := by decide +kernel
theorem d_V_step_32 : decode prog_6_method_7_code 32 = .ok (.aload_n 0, 1) := by decide +kernel
theorem d_V_step_33 : decode prog_6_method_7_code 33 = .ok (.getfield 31, 3) := by decide +kernel
theorem d_V_step_36 : decode prog_6_method_7_code 36 = .ok (.iconst (-1), 1) := by decide +kernel
theorem d_V_step_37 : decode prog_6_method_7_code 37 = .ok (.ixor, 1) := by decide +kernel
theorem d_V_step_38 : decode prog_6_method_7_code 38 = .ok (.iand, 1) := by decide +kernel
theorem d_V_step_39 : decode prog_6_method_7_code 39 = .ok (.istore_n 2, 1) := by decide +kernel
theorem d_V_step_40 : decode prog_6_method_7_code 40 = .ok (.aload_n 0, 1) := by decide +kernel
theorem d_V_step_41 : decode prog_6_method_7_code 41 = .ok (.getfield 9, 3) := by decide +kernel
theorem d_V_step_44 : decode prog_6_method_7_code 44 = .ok (.iload_n 1, 1) := by decide +kernel
theorem d_V_step_45 : decode prog_6_method_7_code 45 = .ok (.aload_n 0, 1) := by decide +kernel
theorem d_V_step_46 : decode prog_6_method_7_code 46 = .ok (.getfield 25, 3) := by decide +kernel
theorem d_V_step_49 : decode prog_6_method_7_code 49 = .ok (.aload_n 0, 1) := by decide +kernel
theorem d_V_step_50 : decode prog_6_method_7_code 50 = .ok (.getfield 22, 3) := by decide +kernel
theorem d_V_step_53 : decode prog_6_method_7_code 53 = .ok (.iand, 1) := by decide +kernel
