theorem d_V_step_54 : decode prog_6_method_7_code 54 = .ok (.ior, 1) := by decide +kernel
theorem d_V_step_55 : decode prog_6_method_7_code 55 = .ok (.invokestatic 60, 3) := by decide +kernel
theorem d_V_step_58 : decode prog_6_method_7_code 58 = .ok (.aload_n 0, 1) := by decide +kernel
theorem d_V_step_59 : decode prog_6_method_7_code 59 = .ok (.getfield 34, 3) := by decide +kernel
theorem d_V_step_62 : decode prog_6_method_7_code 62 = .ok (.iconst (-1), 1) := by decide +kernel
theorem d_V_step_63 : decode prog_6_method_7_code 63 = .ok (.ixor, 1) := by decide +kernel
theorem d_V_step_64 : decode prog_6_method_7_code 64 = .ok (.iand, 1) := by decide +kernel
theorem d_V_step_65 : decode prog_6_method_7_code 65 = .ok (.istore_n 3, 1) := by decide +kernel
theorem d_V_step_66 : decode prog_6_method_7_code 66 = .ok (.aload_n 0, 1) := by decide +kernel
theorem d_V_step_67 : decode prog_6_method_7_code 67 = .ok (.iload_n 2, 1) := by decide +kernel
theorem d_V_step_68 : decode prog_6_method_7_code 68 = .ok (.putfield 25, 3) := by decide +kernel
theorem d_V_step_71 : decode prog_6_method_7_code 71 = .ok (.aload_n 0, 1) := by decide +kernel
theorem d_V_step_72 : decode prog_6_method_7_code 72 = .ok (.iload_n 3, 1) := by decide +kernel
theorem d_V_step_73 : decode prog_6_method_7_code 73 = .ok (.putfield 28, 3) := by decide +kernel
theorem d_V_step_76 : decode prog_6_method_7_code 76 = .ok (.aload_n 0, 1) := by decide +kernel
theorem d_V_step_77 : decode prog_6_method_7_code 77 = .ok (.dup, 1) := by decide +kernel
theorem d_V_step_78 : decode prog_6_method_7_code 78 = .ok (.getfield 31, 3) := by decide +kernel
theorem d_V_step_81 : decode prog_6_method_7_code 81 = .ok (.iload_n 2, 1) := by decide +kernel
theorem d_V_step_82 : decode prog_6_method_7_code 82 = .ok (.ior, 1) := by decide +kernel
theorem d_V_step_83 : decode prog_6_method_7_code 83 = .ok (.putfield 31, 3) := by decide +kernel
theorem d_V_step_86 : decode prog_6_method_7_code 86 = .ok (.aload_n 0, 1) := by decide +kernel
theorem d_V_step_87 : decode prog_6_method_7_code 87 = .ok (.dup, 1) := by decide +kernel
theorem d_V_step_88 : decode prog_6_method_7_code 88 = .ok (.getfield 34, 3) := by decide +kernel
theorem d_V_step_91 : decode prog_6_method_7_code 91 = .ok (.iload_n 3, 1) := by decide +kernel
theorem d_V_step_92 : decode prog_6_method_7_code 92 = .ok (.ior, 1) := by decide +kernel
theorem d_V_step_93 : decode prog_6_method_7_code 93 = .ok (.putfield 34, 3) := by decide +kernel
theorem d_V_step_96 : decode prog_6_method_7_code 96 = .ok (.return_, 1) := by decide +kernel
theorem d_X_answer_0 : decode prog_1_method_30_code 0 = .ok (.iload_n 0, 1) := by decide +kernel
theorem d_X_answer_1 : decode prog_1_method_30_code 1 = .ok (.ifCond .eq 7, 3) := by decide +kernel
theorem d_X_answer_4 : decode prog_1_method_30_code 4 = .ok (.iconst 1, 1) := by decide +kernel
theorem d_X_answer_5 : decode prog_1_method_30_code 5 = .ok (.goto 4, 3) := by decide +kernel
theorem d_X_answer_8 : decode prog_1_method_30_code 8 = .ok (.iconst 0, 1) := by decide +kernel
theorem d_X_answer_9 : decode prog_1_method_30_code 9 = .ok (.ireturn, 1) := by decide +kernel
theorem d_X_walk_0 : decode prog_1_method_11_code 0 = .ok (.aload_n 0, 1) := by decide +kernel
theorem d_X_walk_1 : decode prog_1_method_11_code 1 = .ok (.iload_n 1, 1) := by decide +kernel
theorem d_X_walk_2 : decode prog_1_method_11_code 2 = .ok (.iload_n 2, 1) := by decide +kernel
theorem d_X_walk_3 : decode prog_1_method_11_code 3 = .ok (.iload_n 3, 1) := by decide +kernel
theorem d_X_walk_4 : decode prog_1_method_11_code 4 = .ok (.invokevirtual 139, 3) := by decide +kernel
theorem d_X_walk_7 : decode prog_1_method_11_code 7 = .ok (.ifCond .ne 6, 3) := by decide +kernel
theorem d_X_walk_10 : decode prog_1_method_11_code 10 = .ok (.bipush (-2), 2) := by decide +kernel
theorem d_X_walk_12 : decode prog_1_method_11_code 12 = .ok (.ireturn, 1) := by decide +kernel
theorem d_X_walk_13 : decode prog_1_method_11_code 13 = .ok (.aload_n 0, 1) := by decide +kernel
theorem d_X_walk_14 : decode prog_1_method_11_code 14 = .ok (.getfield 33, 3) := by decide +kernel
theorem d_X_walk_17 : decode prog_1_method_11_code 17 = .ok (.aload_n 0, 1) := by decide +kernel
theorem d_X_walk_18 : decode prog_1_method_11_code 18 = .ok (.getfield 12, 3) := by decide +kernel
theorem d_X_walk_21 : decode prog_1_method_11_code 21 = .ok (.aload_n 0, 1) := by decide +kernel
theorem d_X_walk_22 : decode prog_1_method_11_code 22 = .ok (.getfield 26, 3) := by decide +kernel
theorem d_X_walk_25 : decode prog_1_method_11_code 25 = .ok (.getfield 126, 3) := by decide +kernel
theorem d_X_walk_28 : decode prog_1_method_11_code 28 = .ok (.iconst 0, 1) := by decide +kernel
theorem d_X_walk_29 : decode prog_1_method_11_code 29 = .ok (.invokevirtual 129, 3) := by decide +kernel
theorem d_X_walk_32 : decode prog_1_method_11_code 32 = .ok (.aload_n 0, 1) := by decide +kernel
theorem d_X_walk_33 : decode prog_1_method_11_code 33 = .ok (.getfield 33, 3) := by decide +kernel
theorem d_X_walk_36 : decode prog_1_method_11_code 36 = .ok (.iload_n 1, 1) := by decide +kernel
theorem d_X_walk_37 : decode prog_1_method_11_code 37 = .ok (.iload_n 2, 1) := by decide +kernel
theorem d_X_walk_38 : decode prog_1_method_11_code 38 = .ok (.iload_n 3, 1) := by decide +kernel
theorem d_X_walk_39 : decode prog_1_method_11_code 39 = .ok (.invokevirtual 143, 3) := by decide +kernel
theorem d_X_walk_42 : decode prog_1_method_11_code 42 = .ok (.ireturn, 1) := by decide +kernel
theorem d_X_weight_0 : decode prog_1_method_12_code 0 = .ok (.aload_n 0, 1) := by decide +kernel
theorem d_X_weight_1 : decode prog_1_method_12_code 1 = .ok (.iload_n 1, 1) := by decide +kernel
theorem d_X_weight_2 : decode prog_1_method_12_code 2 = .ok (.invokevirtual 151, 3) := by decide +kernel
theorem d_X_weight_5 : decode prog_1_method_12_code 5 = .ok (.ifCond .eq 11, 3) := by decide +kernel
theorem d_X_weight_8 : decode prog_1_method_12_code 8 = .ok (.aload_n 0, 1) := by decide +kernel
theorem d_X_weight_9 : decode prog_1_method_12_code 9 = .ok (.iload_n 2, 1) := by decide +kernel
theorem d_X_weight_10 : decode prog_1_method_12_code 10 = .ok (.invokevirtual 151, 3) := by decide +kernel
theorem d_X_weight_13 : decode prog_1_method_12_code 13 = .ok (.ifCond .ne 7, 3) := by decide +kernel
theorem d_X_weight_16 : decode prog_1_method_12_code 16 = .ok (.ldc2_w 154, 3) := by decide +kernel
theorem d_X_weight_19 : decode prog_1_method_12_code 19 = .ok (.lreturn, 1) := by decide +kernel
theorem d_X_weight_20 : decode prog_1_method_12_code 20 = .ok (.lconst 0, 1) := by decide +kernel
theorem d_X_weight_21 : decode prog_1_method_12_code 21 = .ok (.lstore_n 3, 1) := by decide +kernel
theorem d_X_weight_22 : decode prog_1_method_12_code 22 = .ok (.aload_n 0, 1) := by decide +kernel
theorem d_X_weight_23 : decode prog_1_method_12_code 23 = .ok (.getfield 12, 3) := by decide +kernel
theorem d_X_weight_26 : decode prog_1_method_12_code 26 = .ok (.invokevirtual 156, 3) := by decide +kernel
theorem d_X_weight_29 : decode prog_1_method_12_code 29 = .ok (.istore 5, 2) := by decide +kernel
theorem d_X_weight_31 : decode prog_1_method_12_code 31 = .ok (.iconst 0, 1) := by decide +kernel
theorem d_X_weight_32 : decode prog_1_method_12_code 32 = .ok (.istore 6, 2) := by decide +kernel
theorem d_X_weight_34 : decode prog_1_method_12_code 34 = .ok (.iload 6, 2) := by decide +kernel
theorem d_X_weight_36 : decode prog_1_method_12_code 36 = .ok (.iload 5, 2) := by decide +kernel
theorem d_X_weight_38 : decode prog_1_method_12_code 38 = .ok (.if_icmp .gt 34, 3) := by decide +kernel
theorem d_X_weight_41 : decode prog_1_method_12_code 41 = .ok (.iload 6, 2) := by decide +kernel
theorem d_X_weight_43 : decode prog_1_method_12_code 43 = .ok (.iload_n 2, 1) := by decide +kernel
theorem d_X_weight_44 : decode prog_1_method_12_code 44 = .ok (.ixor, 1) := by decide +kernel
theorem d_X_weight_45 : decode prog_1_method_12_code 45 = .ok (.iload_n 1, 1) := by decide +kernel
theorem d_X_weight_46 : decode prog_1_method_12_code 46 = .ok (.iand, 1) := by decide +kernel
theorem d_X_weight_47 : decode prog_1_method_12_code 47 = .ok (.ifCond .ne 19, 3) := by decide +kernel
theorem d_X_weight_50 : decode prog_1_method_12_code 50 = .ok (.lload_n 3, 1) := by decide +kernel
theorem d_X_weight_51 : decode prog_1_method_12_code 51 = .ok (.aload_n 0, 1) := by decide +kernel
theorem d_X_weight_52 : decode prog_1_method_12_code 52 = .ok (.getfield 26, 3) := by decide +kernel
theorem d_X_weight_55 : decode prog_1_method_12_code 55 = .ok (.aload_n 0, 1) := by decide +kernel
theorem d_X_weight_56 : decode prog_1_method_12_code 56 = .ok (.getfield 12, 3) := by decide +kernel
theorem d_X_weight_59 : decode prog_1_method_12_code 59 = .ok (.iload 6, 2) := by decide +kernel
theorem d_X_weight_61 : decode prog_1_method_12_code 61 = .ok (.invokevirtual 160, 3) := by decide +kernel
theorem d_X_weight_64 : decode prog_1_method_12_code 64 = .ok (.ladd, 1) := by decide +kernel
theorem d_X_weight_65 : decode prog_1_method_12_code 65 = .ok (.lstore_n 3, 1) := by decide +kernel
theorem d_X_weight_66 : decode prog_1_method_12_code 66 = .ok (.iinc 6 1, 3) := by decide +kernel
theorem d_X_weight_69 : decode prog_1_method_12_code 69 = .ok (.goto (-35), 3) := by decide +kernel
theorem d_X_weight_72 : decode prog_1_method_12_code 72 = .ok (.lload_n 3, 1) := by decide +kernel
theorem d_X_weight_73 : decode prog_1_method_12_code 73 = .ok (.lreturn, 1) := by decide +kernel
theorem d_T_product_0 : decode prog_5_method_6_code 0 = .ok (.iload_n 2, 1) := by decide +kernel
theorem d_T_product_1 : decode prog_5_method_6_code 1 = .ok (.aload_n 0, 1) := by decide +kernel
theorem d_T_product_2 : decode prog_5_method_6_code 2 = .ok (.getfield 20, 3) := by decide +kernel
theorem d_T_product_5 : decode prog_5_method_6_code 5 = .ok (.ixor, 1) := by decide +kernel
theorem d_T_product_6 : decode prog_5_method_6_code 6 = .ok (.aload_n 0, 1) := by decide +kernel
theorem d_T_product_7 : decode prog_5_method_6_code 7 = .ok (.getfield 16, 3) := by decide +kernel
theorem d_T_product_10 : decode prog_5_method_6_code 10 = .ok (.iand, 1) := by decide +kernel
theorem d_T_product_11 : decode prog_5_method_6_code 11 = .ok (.ifCond .eq 5, 3) := by decide +kernel
theorem d_T_product_14 : decode prog_5_method_6_code 14 = .ok (.lconst 0, 1) := by decide +kernel
theorem d_T_product_15 : decode prog_5_method_6_code 15 = .ok (.lreturn, 1) := by decide +kernel
theorem d_T_product_16 : decode prog_5_method_6_code 16 = .ok (.lconst 1, 1) := by decide +kernel
theorem d_T_product_17 : decode prog_5_method_6_code 17 = .ok (.lstore_n 3, 1) := by decide +kernel
theorem d_T_product_18 : decode prog_5_method_6_code 18 = .ok (.iconst 0, 1) := by decide +kernel
theorem d_T_product_19 : decode prog_5_method_6_code 19 = .ok (.istore 5, 2) := by decide +kernel
theorem d_T_product_21 : decode prog_5_method_6_code 21 = .ok (.iload 5, 2) := by decide +kernel
theorem d_T_product_23 : decode prog_5_method_6_code 23 = .ok (.aload_n 1, 1) := by decide +kernel
theorem d_T_product_24 : decode prog_5_method_6_code 24 = .ok (.getfield 37, 3) := by decide +kernel
theorem d_T_product_27 : decode prog_5_method_6_code 27 = .ok (.if_icmp .ge 45, 3) := by decide +kernel
theorem d_T_product_30 : decode prog_5_method_6_code 30 = .ok (.lload_n 3, 1) := by decide +kernel
theorem d_T_product_31 : decode prog_5_method_6_code 31 = .ok (.lconst 0, 1) := by decide +kernel
theorem d_T_product_32 : decode prog_5_method_6_code 32 = .ok (.lcmp, 1) := by decide +kernel
theorem d_T_product_33 : decode prog_5_method_6_code 33 = .ok (.ifCond .eq 39, 3) := by decide +kernel
theorem d_T_product_36 : decode prog_5_method_6_code 36 = .ok (.lload_n 3, 1) := by decide +kernel
theorem d_T_product_37 : decode prog_5_method_6_code 37 = .ok (.aload_n 0, 1) := by decide +kernel
theorem d_T_product_38 : decode prog_5_method_6_code 38 = .ok (.getfield 16, 3) := by decide +kernel
theorem d_T_product_41 : decode prog_5_method_6_code 41 = .ok (.iload 5, 2) := by decide +kernel
theorem d_T_product_43 : decode prog_5_method_6_code 43 = .ok (.invokestatic 33, 3) := by decide +kernel
theorem d_T_product_46 : decode prog_5_method_6_code 46 = .ok (.ifCond .eq 9, 3) := by decide +kernel
theorem d_T_product_49 : decode prog_5_method_6_code 49 = .ok (.ldc2_w 42, 3) := by decide +kernel
theorem d_T_product_52 : decode prog_5_method_6_code 52 = .ok (.goto 12, 3) := by decide +kernel
theorem d_T_product_55 : decode prog_5_method_6_code 55 = .ok (.aload_n 0, 1) := by decide +kernel
theorem d_T_product_56 : decode prog_5_method_6_code 56 = .ok (.aload_n 1, 1) := by decide +kernel
theorem d_T_product_57 : decode prog_5_method_6_code 57 = .ok (.iload 5, 2) := by decide +kernel
theorem d_T_product_59 : decode prog_5_method_6_code 59 = .ok (.iload_n 2, 1) := by decide +kernel
theorem d_T_product_60 : decode prog_5_method_6_code 60 = .ok (.invokevirtual 44, 3) := by decide +kernel
theorem d_T_product_63 : decode prog_5_method_6_code 63 = .ok (.i2l, 1) := by decide +kernel
theorem d_T_product_64 : decode prog_5_method_6_code 64 = .ok (.lmul, 1) := by decide +kernel
theorem d_T_product_65 : decode prog_5_method_6_code 65 = .ok (.lstore_n 3, 1) := by decide +kernel
theorem d_T_product_66 : decode prog_5_method_6_code 66 = .ok (.iinc 5 1, 3) := by decide +kernel
theorem d_T_product_69 : decode prog_5_method_6_code 69 = .ok (.goto (-48), 3) := by decide +kernel
theorem d_T_product_72 : decode prog_5_method_6_code 72 = .ok (.lload_n 3, 1) := by decide +kernel
theorem d_T_product_73 : decode prog_5_method_6_code 73 = .ok (.lreturn, 1) := by decide +kernel
theorem d_T_factor_0 : decode prog_5_method_7_code 0 = .ok (.aload_n 0, 1) := by decide +kernel
theorem d_T_factor_1 : decode prog_5_method_7_code 1 = .ok (.getfield 11, 3) := by decide +kernel
theorem d_T_factor_4 : decode prog_5_method_7_code 4 = .ok (.iload_n 2, 1) := by decide +kernel
theorem d_T_factor_5 : decode prog_5_method_7_code 5 = .ok (.aaload, 1) := by decide +kernel
theorem d_T_factor_6 : decode prog_5_method_7_code 6 = .ok (.aload_n 1, 1) := by decide +kernel
theorem d_T_factor_7 : decode prog_5_method_7_code 7 = .ok (.getfield 48, 3) := by decide +kernel
theorem d_T_factor_10 : decode prog_5_method_7_code 10 = .ok (.iload_n 2, 1) := by decide +kernel
theorem d_T_factor_11 : decode prog_5_method_7_code 11 = .ok (.iaload, 1) := by decide +kernel
theorem d_T_factor_12 : decode prog_5_method_7_code 12 = .ok (.iload_n 3, 1) := by decide +kernel
theorem d_T_factor_13 : decode prog_5_method_7_code 13 = .ok (.invokestatic 52, 3) := by decide +kernel
theorem d_T_factor_16 : decode prog_5_method_7_code 16 = .ok (.iaload, 1) := by decide +kernel
theorem d_T_factor_17 : decode prog_5_method_7_code 17 = .ok (.istore 4, 2) := by decide +kernel
theorem d_T_factor_19 : decode prog_5_method_7_code 19 = .ok (.iload_n 3, 1) := by decide +kernel
theorem d_T_factor_20 : decode prog_5_method_7_code 20 = .ok (.iload_n 2, 1) := by decide +kernel
theorem d_T_factor_21 : decode prog_5_method_7_code 21 = .ok (.invokestatic 33, 3) := by decide +kernel
theorem d_T_factor_24 : decode prog_5_method_7_code 24 = .ok (.ifCond .eq 8, 3) := by decide +kernel
theorem d_T_factor_27 : decode prog_5_method_7_code 27 = .ok (.iload 4, 2) := by decide +kernel
theorem d_T_factor_29 : decode prog_5_method_7_code 29 = .ok (.goto 8, 3) := by decide +kernel
theorem d_T_factor_32 : decode prog_5_method_7_code 32 = .ok (.bipush 8, 2) := by decide +kernel
theorem d_T_factor_34 : decode prog_5_method_7_code 34 = .ok (.iload 4, 2) := by decide +kernel
theorem d_T_factor_36 : decode prog_5_method_7_code 36 = .ok (.isub, 1) := by decide +kernel
theorem d_T_factor_37 : decode prog_5_method_7_code 37 = .ok (.ireturn, 1) := by decide +kernel
theorem d_T_rowIn_0 : decode prog_5_method_8_code 0 = .ok (.iconst 0, 1) := by decide +kernel
theorem d_T_rowIn_1 : decode prog_5_method_8_code 1 = .ok (.istore_n 2, 1) := by decide +kernel
theorem d_T_rowIn_2 : decode prog_5_method_8_code 2 = .ok (.iconst 0, 1) := by decide +kernel
theorem d_T_rowIn_3 : decode prog_5_method_8_code 3 = .ok (.istore_n 3, 1) := by decide +kernel
theorem d_T_rowIn_4 : decode prog_5_method_8_code 4 = .ok (.iconst 0, 1) := by decide +kernel
theorem d_T_rowIn_5 : decode prog_5_method_8_code 5 = .ok (.istore 4, 2) := by decide +kernel
theorem d_T_rowIn_7 : decode prog_5_method_8_code 7 = .ok (.iload 4, 2) := by decide +kernel
theorem d_T_rowIn_9 : decode prog_5_method_8_code 9 = .ok (.bipush 8, 2) := by decide +kernel
theorem d_T_rowIn_11 : decode prog_5_method_8_code 11 = .ok (.if_icmp .ge 32, 3) := by decide +kernel
theorem d_T_rowIn_14 : decode prog_5_method_8_code 14 = .ok (.iload_n 0, 1) := by decide +kernel
theorem d_T_rowIn_15 : decode prog_5_method_8_code 15 = .ok (.iload 4, 2) := by decide +kernel
theorem d_T_rowIn_17 : decode prog_5_method_8_code 17 = .ok (.invokestatic 33, 3) := by decide +kernel
theorem d_T_rowIn_20 : decode prog_5_method_8_code 20 = .ok (.ifCond .eq 17, 3) := by decide +kernel
theorem d_T_rowIn_23 : decode prog_5_method_8_code 23 = .ok (.iload_n 2, 1) := by decide +kernel
theorem d_T_rowIn_24 : decode prog_5_method_8_code 24 = .ok (.iload_n 1, 1) := by decide +kernel
theorem d_T_rowIn_25 : decode prog_5_method_8_code 25 = .ok (.iload 4, 2) := by decide +kernel
theorem d_T_rowIn_27 : decode prog_5_method_8_code 27 = .ok (.ishr, 1) := by decide +kernel
theorem d_T_rowIn_28 : decode prog_5_method_8_code 28 = .ok (.iconst 1, 1) := by decide +kernel
theorem d_T_rowIn_29 : decode prog_5_method_8_code 29 = .ok (.iand, 1) := by decide +kernel
theorem d_T_rowIn_30 : decode prog_5_method_8_code 30 = .ok (.iload_n 3, 1) := by decide +kernel
theorem d_T_rowIn_31 : decode prog_5_method_8_code 31 = .ok (.ishl, 1) := by decide +kernel
theorem d_T_rowIn_32 : decode prog_5_method_8_code 32 = .ok (.ior, 1) := by decide +kernel
theorem d_T_rowIn_33 : decode prog_5_method_8_code 33 = .ok (.istore_n 2, 1) := by decide +kernel
theorem d_T_rowIn_34 : decode prog_5_method_8_code 34 = .ok (.iinc 3 1, 3) := by decide +kernel
theorem d_T_rowIn_37 : decode prog_5_method_8_code 37 = .ok (.iinc 4 1, 3) := by decide +kernel
theorem d_T_rowIn_40 : decode prog_5_method_8_code 40 = .ok (.goto (-33), 3) := by decide +kernel
theorem d_T_rowIn_43 : decode prog_5_method_8_code 43 = .ok (.iload_n 2, 1) := by decide +kernel
theorem d_T_rowIn_44 : decode prog_5_method_8_code 44 = .ok (.ireturn, 1) := by decide +kernel
theorem d_X_independent_0 : decode prog_1_method_13_code 0 = .ok (.aload_n 0, 1) := by decide +kernel
theorem d_X_independent_1 : decode prog_1_method_13_code 1 = .ok (.iload_n 1, 1) := by decide +kernel
theorem d_X_independent_2 : decode prog_1_method_13_code 2 = .ok (.iload_n 2, 1) := by decide +kernel
theorem d_X_independent_3 : decode prog_1_method_13_code 3 = .ok (.iload_n 3, 1) := by decide +kernel
theorem d_X_independent_4 : decode prog_1_method_13_code 4 = .ok (.invokevirtual 139, 3) := by decide +kernel
theorem d_X_independent_7 : decode prog_1_method_13_code 7 = .ok (.ifCond .ne 6, 3) := by decide +kernel
theorem d_X_independent_10 : decode prog_1_method_13_code 10 = .ok (.bipush (-2), 2) := by decide +kernel
theorem d_X_independent_12 : decode prog_1_method_13_code 12 = .ok (.ireturn, 1) := by decide +kernel
theorem d_X_independent_13 : decode prog_1_method_13_code 13 = .ok (.aload_n 0, 1) := by decide +kernel
theorem d_X_independent_14 : decode prog_1_method_13_code 14 = .ok (.iload_n 1, 1) := by decide +kernel
theorem d_X_independent_15 : decode prog_1_method_13_code 15 = .ok (.iload_n 2, 1) := by decide +kernel
theorem d_X_independent_16 : decode prog_1_method_13_code 16 = .ok (.iload_n 3, 1) := by decide +kernel
theorem d_X_independent_17 : decode prog_1_method_13_code 17 = .ok (.invokevirtual 164, 3) := by decide +kernel
theorem d_X_independent_20 : decode prog_1_method_13_code 20 = .ok (.iconst (-1), 1) := by decide +kernel
theorem d_X_independent_21 : decode prog_1_method_13_code 21 = .ok (.if_icmp .ne 7, 3) := by decide +kernel
theorem d_X_independent_24 : decode prog_1_method_13_code 24 = .ok (.iconst 1, 1) := by decide +kernel
theorem d_X_independent_25 : decode prog_1_method_13_code 25 = .ok (.goto 4, 3) := by decide +kernel
theorem d_X_independent_28 : decode prog_1_method_13_code 28 = .ok (.iconst 0, 1) := by decide +kernel
theorem d_X_independent_29 : decode prog_1_method_13_code 29 = .ok (.invokestatic 147, 3) := by decide +kernel
theorem d_X_independent_32 : decode prog_1_method_13_code 32 = .ok (.ireturn, 1) := by decide +kernel
theorem d_X_leastDifference_0 : decode prog_1_method_28_code 0 = .ok (.iload_n 3, 1) := by decide +kernel
theorem d_X_leastDifference_1 : decode prog_1_method_28_code 1 = .ok (.iload_n 1, 1) := by decide +kernel
theorem d_X_leastDifference_2 : decode prog_1_method_28_code 2 = .ok (.invokestatic 89, 3) := by decide +kernel
theorem d_X_leastDifference_5 : decode prog_1_method_28_code 5 = .ok (.ior, 1) := by decide +kernel
theorem d_X_leastDifference_6 : decode prog_1_method_28_code 6 = .ok (.iload_n 2, 1) := by decide +kernel
theorem d_X_leastDifference_7 : decode prog_1_method_28_code 7 = .ok (.invokestatic 89, 3) := by decide +kernel
theorem d_X_leastDifference_10 : decode prog_1_method_28_code 10 = .ok (.ior, 1) := by decide +kernel
theorem d_X_leastDifference_11 : decode prog_1_method_28_code 11 = .ok (.istore 4, 2) := by decide +kernel
theorem d_X_leastDifference_13 : decode prog_1_method_28_code 13 = .ok (.aload_n 0, 1) := by decide +kernel
theorem d_X_leastDifference_14 : decode prog_1_method_28_code 14 = .ok (.getfield 47, 3) := by decide +kernel
theorem d_X_leastDifference_17 : decode prog_1_method_28_code 17 = .ok (.iload 4, 2) := by decide +kernel
theorem d_X_leastDifference_19 : decode prog_1_method_28_code 19 = .ok (.invokevirtual 195, 3) := by decide +kernel
theorem d_X_leastDifference_22 : decode prog_1_method_28_code 22 = .ok (.aload_n 0, 1) := by decide +kernel
theorem d_X_leastDifference_23 : decode prog_1_method_28_code 23 = .ok (.getfield 51, 3) := by decide +kernel
theorem d_X_leastDifference_26 : decode prog_1_method_28_code 26 = .ok (.iload_n 3, 1) := by decide +kernel
theorem d_X_leastDifference_27 : decode prog_1_method_28_code 27 = .ok (.invokevirtual 195, 3) := by decide +kernel
theorem d_X_leastDifference_30 : decode prog_1_method_28_code 30 = .ok (.aload_n 0, 1) := by decide +kernel
theorem d_X_leastDifference_31 : decode prog_1_method_28_code 31 = .ok (.getfield 54, 3) := by decide +kernel
theorem d_X_leastDifference_34 : decode prog_1_method_28_code 34 = .ok (.iload_n 3, 1) := by decide +kernel
theorem d_X_leastDifference_35 : decode prog_1_method_28_code 35 = .ok (.iload_n 1, 1) := by decide +kernel
theorem d_X_leastDifference_36 : decode prog_1_method_28_code 36 = .ok (.invokestatic 89, 3) := by decide +kernel
theorem d_X_leastDifference_39 : decode prog_1_method_28_code 39 = .ok (.ior, 1) := by decide +kernel
theorem d_X_leastDifference_40 : decode prog_1_method_28_code 40 = .ok (.invokevirtual 195, 3) := by decide +kernel
theorem d_X_leastDifference_43 : decode prog_1_method_28_code 43 = .ok (.aload_n 0, 1) := by decide +kernel
theorem d_X_leastDifference_44 : decode prog_1_method_28_code 44 = .ok (.getfield 57, 3) := by decide +kernel
theorem d_X_leastDifference_47 : decode prog_1_method_28_code 47 = .ok (.iload_n 3, 1) := by decide +kernel
theorem d_X_leastDifference_48 : decode prog_1_method_28_code 48 = .ok (.iload_n 2, 1) := by decide +kernel
theorem d_X_leastDifference_49 : decode prog_1_method_28_code 49 = .ok (.invokestatic 89, 3) := by decide +kernel
theorem d_X_leastDifference_52 : decode prog_1_method_28_code 52 = .ok (.ior, 1) := by decide +kernel
theorem d_X_leastDifference_53 : decode prog_1_method_28_code 53 = .ok (.invokevirtual 195, 3) := by decide +kernel
theorem d_X_leastDifference_56 : decode prog_1_method_28_code 56 = .ok (.aload_n 0, 1) := by decide +kernel
theorem d_X_leastDifference_57 : decode prog_1_method_28_code 57 = .ok (.getfield 12, 3) := by decide +kernel
theorem d_X_leastDifference_60 : decode prog_1_method_28_code 60 = .ok (.invokevirtual 156, 3) := by decide +kernel
theorem d_X_leastDifference_63 : decode prog_1_method_28_code 63 = .ok (.istore 5, 2) := by decide +kernel
theorem d_X_leastDifference_65 : decode prog_1_method_28_code 65 = .ok (.iconst 0, 1) := by decide +kernel
theorem d_X_leastDifference_66 : decode prog_1_method_28_code 66 = .ok (.istore 6, 2) := by decide +kernel
theorem d_X_leastDifference_68 : decode prog_1_method_28_code 68 = .ok (.iload 6, 2) := by decide +kernel
theorem d_X_leastDifference_70 : decode prog_1_method_28_code 70 = .ok (.iload 5, 2) := by decide +kernel
theorem d_X_leastDifference_72 : decode prog_1_method_28_code 72 = .ok (.if_icmp .gt 68, 3) := by decide +kernel
theorem d_X_leastDifference_75 : decode prog_1_method_28_code 75 = .ok (.aload_n 0, 1) := by decide +kernel
theorem d_X_leastDifference_76 : decode prog_1_method_28_code 76 = .ok (.getfield 26, 3) := by decide +kernel
theorem d_X_leastDifference_79 : decode prog_1_method_28_code 79 = .ok (.aload_n 0, 1) := by decide +kernel
theorem d_X_leastDifference_80 : decode prog_1_method_28_code 80 = .ok (.getfield 12, 3) := by decide +kernel
theorem d_X_leastDifference_83 : decode prog_1_method_28_code 83 = .ok (.iload 6, 2) := by decide +kernel
theorem d_X_leastDifference_85 : decode prog_1_method_28_code 85 = .ok (.invokevirtual 160, 3) := by decide +kernel
theorem d_X_leastDifference_88 : decode prog_1_method_28_code 88 = .ok (.lstore 7, 2) := by decide +kernel
theorem d_X_leastDifference_90 : decode prog_1_method_28_code 90 = .ok (.aload_n 0, 1) := by decide +kernel
theorem d_X_leastDifference_91 : decode prog_1_method_28_code 91 = .ok (.getfield 47, 3) := by decide +kernel
theorem d_X_leastDifference_94 : decode prog_1_method_28_code 94 = .ok (.iload 6, 2) := by decide +kernel
theorem d_X_leastDifference_96 : decode prog_1_method_28_code 96 = .ok (.lload 7, 2) := by decide +kernel
theorem d_X_leastDifference_98 : decode prog_1_method_28_code 98 = .ok (.invokevirtual 198, 3) := by decide +kernel
theorem d_X_leastDifference_101 : decode prog_1_method_28_code 101 = .ok (.aload_n 0, 1) := by decide +kernel
theorem d_X_leastDifference_102 : decode prog_1_method_28_code 102 = .ok (.getfield 51, 3) := by decide +kernel
theorem d_X_leastDifference_105 : decode prog_1_method_28_code 105 = .ok (.iload 6, 2) := by decide +kernel
theorem d_X_leastDifference_107 : decode prog_1_method_28_code 107 = .ok (.lload 7, 2) := by decide +kernel
theorem d_X_leastDifference_109 : decode prog_1_method_28_code 109 = .ok (.invokevirtual 198, 3) := by decide +kernel
theorem d_X_leastDifference_112 : decode prog_1_method_28_code 112 = .ok (.aload_n 0, 1) := by decide +kernel
theorem d_X_leastDifference_113 : decode prog_1_method_28_code 113 = .ok (.getfield 54, 3) := by decide +kernel
theorem d_X_leastDifference_116 : decode prog_1_method_28_code 116 = .ok (.iload 6, 2) := by decide +kernel
theorem d_X_leastDifference_118 : decode prog_1_method_28_code 118 = .ok (.lload 7, 2) := by decide +kernel
theorem d_X_leastDifference_120 : decode prog_1_method_28_code 120 = .ok (.invokevirtual 198, 3) := by decide +kernel
theorem d_X_leastDifference_123 : decode prog_1_method_28_code 123 = .ok (.aload_n 0, 1) := by decide +kernel
theorem d_X_leastDifference_124 : decode prog_1_method_28_code 124 = .ok (.getfield 57, 3) := by decide +kernel
theorem d_X_leastDifference_127 : decode prog_1_method_28_code 127 = .ok (.iload 6, 2) := by decide +kernel
theorem d_X_leastDifference_129 : decode prog_1_method_28_code 129 = .ok (.lload 7, 2) := by decide +kernel
theorem d_X_leastDifference_131 : decode prog_1_method_28_code 131 = .ok (.invokevirtual 198, 3) := by decide +kernel
theorem d_X_leastDifference_134 : decode prog_1_method_28_code 134 = .ok (.iinc 6 1, 3) := by decide +kernel
theorem d_X_leastDifference_137 : decode prog_1_method_28_code 137 = .ok (.goto (-69), 3) := by decide +kernel
theorem d_X_leastDifference_140 : decode prog_1_method_28_code 140 = .ok (.iconst 0, 1) := by decide +kernel
theorem d_X_leastDifference_141 : decode prog_1_method_28_code 141 = .ok (.istore 6, 2) := by decide +kernel
theorem d_X_leastDifference_143 : decode prog_1_method_28_code 143 = .ok (.iload 6, 2) := by decide +kernel
theorem d_X_leastDifference_145 : decode prog_1_method_28_code 145 = .ok (.iload 4, 2) := by decide +kernel
theorem d_X_leastDifference_147 : decode prog_1_method_28_code 147 = .ok (.if_icmp .gt 64, 3) := by decide +kernel
theorem d_X_leastDifference_150 : decode prog_1_method_28_code 150 = .ok (.iload 6, 2) := by decide +kernel
theorem d_X_leastDifference_152 : decode prog_1_method_28_code 152 = .ok (.iload 4, 2) := by decide +kernel
theorem d_X_leastDifference_154 : decode prog_1_method_28_code 154 = .ok (.iconst (-1), 1) := by decide +kernel
theorem d_X_leastDifference_155 : decode prog_1_method_28_code 155 = .ok (.ixor, 1) := by decide +kernel
theorem d_X_leastDifference_156 : decode prog_1_method_28_code 156 = .ok (.iand, 1) := by decide +kernel
theorem d_X_leastDifference_157 : decode prog_1_method_28_code 157 = .ok (.ifCond .ne 48, 3) := by decide +kernel
theorem d_X_leastDifference_160 : decode prog_1_method_28_code 160 = .ok (.aload_n 0, 1) := by decide +kernel
theorem d_X_leastDifference_161 : decode prog_1_method_28_code 161 = .ok (.getfield 47, 3) := by decide +kernel
theorem d_X_leastDifference_164 : decode prog_1_method_28_code 164 = .ok (.iload 6, 2) := by decide +kernel
theorem d_X_leastDifference_166 : decode prog_1_method_28_code 166 = .ok (.invokevirtual 202, 3) := by decide +kernel
theorem d_X_leastDifference_169 : decode prog_1_method_28_code 169 = .ok (.aload_n 0, 1) := by decide +kernel
theorem d_X_leastDifference_170 : decode prog_1_method_28_code 170 = .ok (.getfield 51, 3) := by decide +kernel
theorem d_X_leastDifference_173 : decode prog_1_method_28_code 173 = .ok (.iload 6, 2) := by decide +kernel
theorem d_X_leastDifference_175 : decode prog_1_method_28_code 175 = .ok (.invokevirtual 202, 3) := by decide +kernel
theorem d_X_leastDifference_178 : decode prog_1_method_28_code 178 = .ok (.lmul, 1) := by decide +kernel
theorem d_X_leastDifference_179 : decode prog_1_method_28_code 179 = .ok (.aload_n 0, 1) := by decide +kernel
theorem d_X_leastDifference_180 : decode prog_1_method_28_code 180 = .ok (.getfield 54, 3) := by decide +kernel
theorem d_X_leastDifference_183 : decode prog_1_method_28_code 183 = .ok (.iload 6, 2) := by decide +kernel
theorem d_X_leastDifference_185 : decode prog_1_method_28_code 185 = .ok (.invokevirtual 202, 3) := by decide +kernel
theorem d_X_leastDifference_188 : decode prog_1_method_28_code 188 = .ok (.aload_n 0, 1) := by decide +kernel
theorem d_X_leastDifference_189 : decode prog_1_method_28_code 189 = .ok (.getfield 57, 3) := by decide +kernel
theorem d_X_leastDifference_192 : decode prog_1_method_28_code 192 = .ok (.iload 6, 2) := by decide +kernel
theorem d_X_leastDifference_194 : decode prog_1_method_28_code 194 = .ok (.invokevirtual 202, 3) := by decide +kernel
theorem d_X_leastDifference_197 : decode prog_1_method_28_code 197 = .ok (.lmul, 1) := by decide +kernel
theorem d_X_leastDifference_198 : decode prog_1_method_28_code 198 = .ok (.lcmp, 1) := by decide +kernel
theorem d_X_leastDifference_199 : decode prog_1_method_28_code 199 = .ok (.ifCond .eq 6, 3) := by decide +kernel
theorem d_X_leastDifference_202 : decode prog_1_method_28_code 202 = .ok (.iload 6, 2) := by decide +kernel
theorem d_X_leastDifference_204 : decode prog_1_method_28_code 204 = .ok (.ireturn, 1) := by decide +kernel
theorem d_X_leastDifference_205 : decode prog_1_method_28_code 205 = .ok (.iinc 6 1, 3) := by decide +kernel
theorem d_X_leastDifference_208 : decode prog_1_method_28_code 208 = .ok (.goto (-65), 3) := by decide +kernel
theorem d_X_leastDifference_211 : decode prog_1_method_28_code 211 = .ok (.iconst (-1), 1) := by decide +kernel
theorem d_X_leastDifference_212 : decode prog_1_method_28_code 212 = .ok (.ireturn, 1) := by decide +kernel
theorem d_N_start_0 : decode prog_4_method_2_code 0 = .ok (.aload_n 0, 1) := by decide +kernel
theorem d_N_start_1 : decode prog_4_method_2_code 1 = .ok (.iload_n 1, 1) := by decide +kernel
theorem d_N_start_2 : decode prog_4_method_2_code 2 = .ok (.putfield 9, 3) := by decide +kernel
theorem d_N_start_5 : decode prog_4_method_2_code 5 = .ok (.aload_n 0, 1) := by decide +kernel
theorem d_N_start_6 : decode prog_4_method_2_code 6 = .ok (.getfield 15, 3) := by decide +kernel
theorem d_N_start_9 : decode prog_4_method_2_code 9 = .ok (.lconst 0, 1) := by decide +kernel
theorem d_N_start_10 : decode prog_4_method_2_code 10 = .ok (.invokestatic 19, 3) := by decide +kernel
theorem d_N_start_13 : decode prog_4_method_2_code 13 = .ok (.return_, 1) := by decide +kernel
theorem d_A_fillJ_0 : decode prog_11_method_101_code 0 = .ok (.iconst 0, 1) := by decide +kernel
theorem d_A_fillJ_1 : decode prog_11_method_101_code 1 = .ok (.istore_n 3, 1) := by decide +kernel
theorem d_A_fillJ_2 : decode prog_11_method_101_code 2 = .ok (.aload_n 0, 1) := by decide +kernel
theorem d_A_fillJ_3 : decode prog_11_method_101_code 3 = .ok (.arraylength, 1) := by decide +kernel
theorem d_A_fillJ_4 : decode prog_11_method_101_code 4 = .ok (.istore 4, 2) := by decide +kernel
theorem d_A_fillJ_6 : decode prog_11_method_101_code 6 = .ok (.iload_n 3, 1) := by decide +kernel
theorem d_A_fillJ_7 : decode prog_11_method_101_code 7 = .ok (.iload 4, 2) := by decide +kernel
theorem d_A_fillJ_9 : decode prog_11_method_101_code 9 = .ok (.if_icmp .ge 13, 3) := by decide +kernel
theorem d_A_fillJ_12 : decode prog_11_method_101_code 12 = .ok (.aload_n 0, 1) := by decide +kernel
theorem d_A_fillJ_13 : decode prog_11_method_101_code 13 = .ok (.iload_n 3, 1) := by decide +kernel
theorem d_A_fillJ_14 : decode prog_11_method_101_code 14 = .ok (.lload_n 1, 1) := by decide +kernel
theorem d_A_fillJ_15 : decode prog_11_method_101_code 15 = .ok (.lastore, 1) := by decide +kernel
theorem d_A_fillJ_16 : decode prog_11_method_101_code 16 = .ok (.iinc 3 1, 3) := by decide +kernel
theorem d_A_fillJ_19 : decode prog_11_method_101_code 19 = .ok (.goto (-13), 3) := by decide +kernel
theorem d_A_fillJ_22 : decode prog_11_method_101_code 22 = .ok (.return_, 1) := by decide +kernel
theorem d_N_add_0 : decode prog_4_method_3_code 0 = .ok (.aload_n 0, 1) := by decide +kernel
theorem d_N_add_1 : decode prog_4_method_3_code 1 = .ok (.getfield 15, 3) := by decide +kernel
theorem d_N_add_4 : decode prog_4_method_3_code 4 = .ok (.iload_n 1, 1) := by decide +kernel
theorem d_N_add_5 : decode prog_4_method_3_code 5 = .ok (.aload_n 0, 1) := by decide +kernel
theorem d_N_add_6 : decode prog_4_method_3_code 6 = .ok (.getfield 9, 3) := by decide +kernel
theorem d_N_add_9 : decode prog_4_method_3_code 9 = .ok (.iand, 1) := by decide +kernel
theorem d_N_add_10 : decode prog_4_method_3_code 10 = .ok (.dup2, 1) := by decide +kernel
theorem d_N_add_11 : decode prog_4_method_3_code 11 = .ok (.laload, 1) := by decide +kernel
theorem d_N_add_12 : decode prog_4_method_3_code 12 = .ok (.lload_n 2, 1) := by decide +kernel
theorem d_N_add_13 : decode prog_4_method_3_code 13 = .ok (.ladd, 1) := by decide +kernel
theorem d_N_add_14 : decode prog_4_method_3_code 14 = .ok (.lastore, 1) := by decide +kernel
theorem d_N_add_15 : decode prog_4_method_3_code 15 = .ok (.return_, 1) := by decide +kernel
theorem d_N_sum_0 : decode prog_4_method_4_code 0 = .ok (.aload_n 0, 1) := by decide +kernel
theorem d_N_sum_1 : decode prog_4_method_4_code 1 = .ok (.getfield 15, 3) := by decide +kernel
theorem d_N_sum_4 : decode prog_4_method_4_code 4 = .ok (.iload_n 1, 1) := by decide +kernel
theorem d_N_sum_5 : decode prog_4_method_4_code 5 = .ok (.aload_n 0, 1) := by decide +kernel
theorem d_N_sum_6 : decode prog_4_method_4_code 6 = .ok (.getfield 9, 3) := by decide +kernel
theorem d_N_sum_9 : decode prog_4_method_4_code 9 = .ok (.iand, 1) := by decide +kernel
theorem d_N_sum_10 : decode prog_4_method_4_code 10 = .ok (.laload, 1) := by decide +kernel
theorem d_N_sum_11 : decode prog_4_method_4_code 11 = .ok (.lreturn, 1) := by decide +kernel
theorem d_X_differ_0 : decode prog_1_method_14_code 0 = .ok (.aload_n 0, 1) := by decide +kernel
theorem d_X_differ_1 : decode prog_1_method_14_code 1 = .ok (.iload_n 1, 1) := by decide +kernel
theorem d_X_differ_2 : decode prog_1_method_14_code 2 = .ok (.iload_n 2, 1) := by decide +kernel
theorem d_X_differ_3 : decode prog_1_method_14_code 3 = .ok (.iload_n 3, 1) := by decide +kernel
theorem d_X_differ_4 : decode prog_1_method_14_code 4 = .ok (.invokevirtual 139, 3) := by decide +kernel
theorem d_X_differ_7 : decode prog_1_method_14_code 7 = .ok (.ifCond .eq 13, 3) := by decide +kernel
theorem d_X_differ_10 : decode prog_1_method_14_code 10 = .ok (.aload_n 0, 1) := by decide +kernel
theorem d_X_differ_11 : decode prog_1_method_14_code 11 = .ok (.iload_n 1, 1) := by decide +kernel
theorem d_X_differ_12 : decode prog_1_method_14_code 12 = .ok (.iload_n 2, 1) := by decide +kernel
theorem d_X_differ_13 : decode prog_1_method_14_code 13 = .ok (.iload_n 3, 1) := by decide +kernel
theorem d_X_differ_14 : decode prog_1_method_14_code 14 = .ok (.invokevirtual 164, 3) := by decide +kernel
theorem d_X_differ_17 : decode prog_1_method_14_code 17 = .ok (.goto 5, 3) := by decide +kernel
theorem d_X_differ_20 : decode prog_1_method_14_code 20 = .ok (.bipush (-2), 2) := by decide +kernel
theorem d_X_differ_22 : decode prog_1_method_14_code 22 = .ok (.ireturn, 1) := by decide +kernel
theorem d_X_blanket_0 : decode prog_1_method_15_code 0 = .ok (.aload_n 0, 1) := by decide +kernel
theorem d_X_blanket_1 : decode prog_1_method_15_code 1 = .ok (.iload_n 1, 1) := by decide +kernel
theorem d_X_blanket_2 : decode prog_1_method_15_code 2 = .ok (.invokevirtual 113, 3) := by decide +kernel
theorem d_X_blanket_5 : decode prog_1_method_15_code 5 = .ok (.ifCond .ne 6, 3) := by decide +kernel
theorem d_X_blanket_8 : decode prog_1_method_15_code 8 = .ok (.bipush (-2), 2) := by decide +kernel
theorem d_X_blanket_10 : decode prog_1_method_15_code 10 = .ok (.ireturn, 1) := by decide +kernel
theorem d_X_blanket_11 : decode prog_1_method_15_code 11 = .ok (.aload_n 0, 1) := by decide +kernel
theorem d_X_blanket_12 : decode prog_1_method_15_code 12 = .ok (.iload_n 1, 1) := by decide +kernel
theorem d_X_blanket_13 : decode prog_1_method_15_code 13 = .ok (.iload_n 1, 1) := by decide +kernel
theorem d_X_blanket_14 : decode prog_1_method_15_code 14 = .ok (.invokestatic 89, 3) := by decide +kernel
theorem d_X_blanket_17 : decode prog_1_method_15_code 17 = .ok (.aload_n 0, 1) := by decide +kernel
theorem d_X_blanket_18 : decode prog_1_method_15_code 18 = .ok (.getfield 12, 3) := by decide +kernel
theorem d_X_blanket_21 : decode prog_1_method_15_code 21 = .ok (.invokevirtual 156, 3) := by decide +kernel
theorem d_X_blanket_24 : decode prog_1_method_15_code 24 = .ok (.iload_n 1, 1) := by decide +kernel
theorem d_X_blanket_25 : decode prog_1_method_15_code 25 = .ok (.invokestatic 89, 3) := by decide +kernel
theorem d_X_blanket_28 : decode prog_1_method_15_code 28 = .ok (.iconst (-1), 1) := by decide +kernel
theorem d_X_blanket_29 : decode prog_1_method_15_code 29 = .ok (.ixor, 1) := by decide +kernel
theorem d_X_blanket_30 : decode prog_1_method_15_code 30 = .ok (.iand, 1) := by decide +kernel
theorem d_X_blanket_31 : decode prog_1_method_15_code 31 = .ok (.invokevirtual 167, 3) := by decide +kernel
theorem d_X_blanket_34 : decode prog_1_method_15_code 34 = .ok (.ireturn, 1) := by decide +kernel
theorem d_X_fewest_0 : decode prog_1_method_29_code 0 = .ok (.aload_n 0, 1) := by decide +kernel
theorem d_X_fewest_1 : decode prog_1_method_29_code 1 = .ok (.getfield 33, 3) := by decide +kernel
theorem d_X_fewest_4 : decode prog_1_method_29_code 4 = .ok (.aload_n 0, 1) := by decide +kernel
theorem d_X_fewest_5 : decode prog_1_method_29_code 5 = .ok (.getfield 12, 3) := by decide +kernel
theorem d_X_fewest_8 : decode prog_1_method_29_code 8 = .ok (.aload_n 0, 1) := by decide +kernel
theorem d_X_fewest_9 : decode prog_1_method_29_code 9 = .ok (.getfield 26, 3) := by decide +kernel
theorem d_X_fewest_12 : decode prog_1_method_29_code 12 = .ok (.getfield 126, 3) := by decide +kernel
theorem d_X_fewest_15 : decode prog_1_method_29_code 15 = .ok (.iconst 0, 1) := by decide +kernel
theorem d_X_fewest_16 : decode prog_1_method_29_code 16 = .ok (.invokevirtual 129, 3) := by decide +kernel
theorem d_X_fewest_19 : decode prog_1_method_29_code 19 = .ok (.iconst (-1), 1) := by decide +kernel
theorem d_X_fewest_20 : decode prog_1_method_29_code 20 = .ok (.istore 4, 2) := by decide +kernel
theorem d_X_fewest_22 : decode prog_1_method_29_code 22 = .ok (.bipush 9, 2) := by decide +kernel
theorem d_X_fewest_24 : decode prog_1_method_29_code 24 = .ok (.istore 5, 2) := by decide +kernel
theorem d_X_fewest_26 : decode prog_1_method_29_code 26 = .ok (.aload_n 0, 1) := by decide +kernel
theorem d_X_fewest_27 : decode prog_1_method_29_code 27 = .ok (.getfield 12, 3) := by decide +kernel
theorem d_X_fewest_30 : decode prog_1_method_29_code 30 = .ok (.invokevirtual 156, 3) := by decide +kernel
theorem d_X_fewest_33 : decode prog_1_method_29_code 33 = .ok (.istore 6, 2) := by decide +kernel
theorem d_X_fewest_35 : decode prog_1_method_29_code 35 = .ok (.iconst 0, 1) := by decide +kernel
theorem d_X_fewest_36 : decode prog_1_method_29_code 36 = .ok (.istore 7, 2) := by decide +kernel
theorem d_X_fewest_38 : decode prog_1_method_29_code 38 = .ok (.iload 7, 2) := by decide +kernel
theorem d_X_fewest_40 : decode prog_1_method_29_code 40 = .ok (.iload 6, 2) := by decide +kernel
theorem d_X_fewest_42 : decode prog_1_method_29_code 42 = .ok (.if_icmp .gt 57, 3) := by decide +kernel
theorem d_X_fewest_45 : decode prog_1_method_29_code 45 = .ok (.iload 7, 2) := by decide +kernel
theorem d_X_fewest_47 : decode prog_1_method_29_code 47 = .ok (.iload_n 2, 1) := by decide +kernel
theorem d_X_fewest_48 : decode prog_1_method_29_code 48 = .ok (.iand, 1) := by decide +kernel
theorem d_X_fewest_49 : decode prog_1_method_29_code 49 = .ok (.ifCond .ne 44, 3) := by decide +kernel
theorem d_X_fewest_52 : decode prog_1_method_29_code 52 = .ok (.iload 7, 2) := by decide +kernel
theorem d_X_fewest_54 : decode prog_1_method_29_code 54 = .ok (.invokestatic 190, 3) := by decide +kernel
theorem d_X_fewest_57 : decode prog_1_method_29_code 57 = .ok (.iload 5, 2) := by decide +kernel
theorem d_X_fewest_59 : decode prog_1_method_29_code 59 = .ok (.if_icmp .ge 34, 3) := by decide +kernel
theorem d_X_fewest_62 : decode prog_1_method_29_code 62 = .ok (.aload_n 0, 1) := by decide +kernel
theorem d_X_fewest_63 : decode prog_1_method_29_code 63 = .ok (.getfield 33, 3) := by decide +kernel
theorem d_X_fewest_66 : decode prog_1_method_29_code 66 = .ok (.iload_n 1, 1) := by decide +kernel
theorem d_X_fewest_67 : decode prog_1_method_29_code 67 = .ok (.iload 7, 2) := by decide +kernel
theorem d_X_fewest_69 : decode prog_1_method_29_code 69 = .ok (.invokevirtual 206, 3) := by decide +kernel
theorem d_X_fewest_72 : decode prog_1_method_29_code 72 = .ok (.iload_n 3, 1) := by decide +kernel
theorem d_X_fewest_73 : decode prog_1_method_29_code 73 = .ok (.iand, 1) := by decide +kernel
theorem d_X_fewest_74 : decode prog_1_method_29_code 74 = .ok (.iload 7, 2) := by decide +kernel
theorem d_X_fewest_76 : decode prog_1_method_29_code 76 = .ok (.iconst (-1), 1) := by decide +kernel
theorem d_X_fewest_77 : decode prog_1_method_29_code 77 = .ok (.ixor, 1) := by decide +kernel
theorem d_X_fewest_78 : decode prog_1_method_29_code 78 = .ok (.iand, 1) := by decide +kernel
theorem d_X_fewest_79 : decode prog_1_method_29_code 79 = .ok (.ifCond .ne 14, 3) := by decide +kernel
theorem d_X_fewest_82 : decode prog_1_method_29_code 82 = .ok (.iload 7, 2) := by decide +kernel
theorem d_X_fewest_84 : decode prog_1_method_29_code 84 = .ok (.istore 4, 2) := by decide +kernel
theorem d_X_fewest_86 : decode prog_1_method_29_code 86 = .ok (.iload 7, 2) := by decide +kernel
theorem d_X_fewest_88 : decode prog_1_method_29_code 88 = .ok (.invokestatic 190, 3) := by decide +kernel
theorem d_X_fewest_91 : decode prog_1_method_29_code 91 = .ok (.istore 5, 2) := by decide +kernel
theorem d_X_fewest_93 : decode prog_1_method_29_code 93 = .ok (.iinc 7 1, 3) := by decide +kernel
theorem d_X_fewest_96 : decode prog_1_method_29_code 96 = .ok (.goto (-58), 3) := by decide +kernel
theorem d_X_fewest_99 : decode prog_1_method_29_code 99 = .ok (.iload 4, 2) := by decide +kernel
theorem d_X_fewest_101 : decode prog_1_method_29_code 101 = .ok (.ireturn, 1) := by decide +kernel
theorem d_V_reached_0 : decode prog_6_method_5_code 0 = .ok (.aload_n 0, 1) := by decide +kernel
theorem d_V_reached_1 : decode prog_6_method_5_code 1 = .ok (.iload_n 1, 1) := by decide +kernel
theorem d_V_reached_2 : decode prog_6_method_5_code 2 = .ok (.iload_n 2, 1) := by decide +kernel
theorem d_V_reached_3 : decode prog_6_method_5_code 3 = .ok (.invokevirtual 53, 3) := by decide +kernel
theorem d_V_reached_6 : decode prog_6_method_5_code 6 = .ok (.iconst 1, 1) := by decide +kernel
theorem d_V_reached_7 : decode prog_6_method_5_code 7 = .ok (.istore_n 3, 1) := by decide +kernel
theorem d_V_reached_8 : decode prog_6_method_5_code 8 = .ok (.iload_n 3, 1) := by decide +kernel
theorem d_V_reached_9 : decode prog_6_method_5_code 9 = .ok (.bipush 16, 2) := by decide +kernel
theorem d_V_reached_11 : decode prog_6_method_5_code 11 = .ok (.if_icmp .gt 25, 3) := by decide +kernel
theorem d_V_reached_14 : decode prog_6_method_5_code 14 = .ok (.aload_n 0, 1) := by decide +kernel
theorem d_V_reached_15 : decode prog_6_method_5_code 15 = .ok (.getfield 25, 3) := by decide +kernel
theorem d_V_reached_18 : decode prog_6_method_5_code 18 = .ok (.aload_n 0, 1) := by decide +kernel
theorem d_V_reached_19 : decode prog_6_method_5_code 19 = .ok (.getfield 28, 3) := by decide +kernel
theorem d_V_reached_22 : decode prog_6_method_5_code 22 = .ok (.ior, 1) := by decide +kernel
theorem d_V_reached_23 : decode prog_6_method_5_code 23 = .ok (.ifCond .eq 13, 3) := by decide +kernel
theorem d_V_reached_26 : decode prog_6_method_5_code 26 = .ok (.aload_n 0, 1) := by decide +kernel
theorem d_V_reached_27 : decode prog_6_method_5_code 27 = .ok (.invokevirtual 57, 3) := by decide +kernel
theorem d_V_reached_30 : decode prog_6_method_5_code 30 = .ok (.iinc 3 1, 3) := by decide +kernel
theorem d_V_reached_33 : decode prog_6_method_5_code 33 = .ok (.goto (-25), 3) := by decide +kernel
theorem d_V_reached_36 : decode prog_6_method_5_code 36 = .ok (.aload_n 0, 1) := by decide +kernel
theorem d_V_reached_37 : decode prog_6_method_5_code 37 = .ok (.getfield 31, 3) := by decide +kernel
theorem d_V_reached_40 : decode prog_6_method_5_code 40 = .ok (.aload_n 0, 1) := by decide +kernel
theorem d_V_reached_41 : decode prog_6_method_5_code 41 = .ok (.getfield 34, 3) := by decide +kernel
theorem d_V_reached_44 : decode prog_6_method_5_code 44 = .ok (.ior, 1) := by decide +kernel
theorem d_V_reached_45 : decode prog_6_method_5_code 45 = .ok (.ireturn, 1) := by decide +kernel
theorem d_X_least_0 : decode prog_1_method_16_code 0 = .ok (.aload_n 0, 1) := by decide +kernel
theorem d_X_least_1 : decode prog_1_method_16_code 1 = .ok (.iload_n 1, 1) := by decide +kernel
theorem d_X_least_2 : decode prog_1_method_16_code 2 = .ok (.iload_n 2, 1) := by decide +kernel
theorem d_X_least_3 : decode prog_1_method_16_code 3 = .ok (.invokevirtual 74, 3) := by decide +kernel
theorem d_X_least_6 : decode prog_1_method_16_code 6 = .ok (.ifCond .ne 6, 3) := by decide +kernel
theorem d_X_least_9 : decode prog_1_method_16_code 9 = .ok (.bipush (-2), 2) := by decide +kernel
theorem d_X_least_11 : decode prog_1_method_16_code 11 = .ok (.ireturn, 1) := by decide +kernel
theorem d_X_least_12 : decode prog_1_method_16_code 12 = .ok (.aload_n 0, 1) := by decide +kernel
theorem d_X_least_13 : decode prog_1_method_16_code 13 = .ok (.iload_n 1, 1) := by decide +kernel
theorem d_X_least_14 : decode prog_1_method_16_code 14 = .ok (.iload_n 1, 1) := by decide +kernel
theorem d_X_least_15 : decode prog_1_method_16_code 15 = .ok (.invokestatic 89, 3) := by decide +kernel
theorem d_X_least_18 : decode prog_1_method_16_code 18 = .ok (.iload_n 2, 1) := by decide +kernel
theorem d_X_least_19 : decode prog_1_method_16_code 19 = .ok (.invokestatic 89, 3) := by decide +kernel
theorem d_X_least_22 : decode prog_1_method_16_code 22 = .ok (.ior, 1) := by decide +kernel
theorem d_X_least_23 : decode prog_1_method_16_code 23 = .ok (.iload_n 2, 1) := by decide +kernel
theorem d_X_least_24 : decode prog_1_method_16_code 24 = .ok (.invokestatic 89, 3) := by decide +kernel
theorem d_X_least_27 : decode prog_1_method_16_code 27 = .ok (.invokevirtual 167, 3) := by decide +kernel
theorem d_X_least_30 : decode prog_1_method_16_code 30 = .ok (.ireturn, 1) := by decide +kernel
theorem d_X_enough_0 : decode prog_1_method_17_code 0 = .ok (.aload_n 0, 1) := by decide +kernel
theorem d_X_enough_1 : decode prog_1_method_17_code 1 = .ok (.iload_n 1, 1) := by decide +kernel
theorem d_X_enough_2 : decode prog_1_method_17_code 2 = .ok (.iload_n 2, 1) := by decide +kernel
theorem d_X_enough_3 : decode prog_1_method_17_code 3 = .ok (.iload_n 3, 1) := by decide +kernel
theorem d_X_enough_4 : decode prog_1_method_17_code 4 = .ok (.invokevirtual 139, 3) := by decide +kernel
theorem d_X_enough_7 : decode prog_1_method_17_code 7 = .ok (.ifCond .ne 6, 3) := by decide +kernel
theorem d_X_enough_10 : decode prog_1_method_17_code 10 = .ok (.bipush (-2), 2) := by decide +kernel
theorem d_X_enough_12 : decode prog_1_method_17_code 12 = .ok (.ireturn, 1) := by decide +kernel
theorem d_X_enough_13 : decode prog_1_method_17_code 13 = .ok (.aload_n 0, 1) := by decide +kernel
theorem d_X_enough_14 : decode prog_1_method_17_code 14 = .ok (.getfield 33, 3) := by decide +kernel
theorem d_X_enough_17 : decode prog_1_method_17_code 17 = .ok (.aload_n 0, 1) := by decide +kernel
theorem d_X_enough_18 : decode prog_1_method_17_code 18 = .ok (.getfield 12, 3) := by decide +kernel
theorem d_X_enough_21 : decode prog_1_method_17_code 21 = .ok (.aload_n 0, 1) := by decide +kernel
theorem d_X_enough_22 : decode prog_1_method_17_code 22 = .ok (.getfield 26, 3) := by decide +kernel
theorem d_X_enough_25 : decode prog_1_method_17_code 25 = .ok (.getfield 126, 3) := by decide +kernel
theorem d_X_enough_28 : decode prog_1_method_17_code 28 = .ok (.iconst 0, 1) := by decide +kernel
theorem d_X_enough_29 : decode prog_1_method_17_code 29 = .ok (.invokevirtual 129, 3) := by decide +kernel
theorem d_X_enough_32 : decode prog_1_method_17_code 32 = .ok (.aload_n 0, 1) := by decide +kernel
theorem d_X_enough_33 : decode prog_1_method_17_code 33 = .ok (.getfield 33, 3) := by decide +kernel
theorem d_X_enough_36 : decode prog_1_method_17_code 36 = .ok (.iload_n 1, 1) := by decide +kernel
theorem d_X_enough_37 : decode prog_1_method_17_code 37 = .ok (.invokevirtual 133, 3) := by decide +kernel
theorem d_X_enough_40 : decode prog_1_method_17_code 40 = .ok (.iload_n 3, 1) := by decide +kernel
theorem d_X_enough_41 : decode prog_1_method_17_code 41 = .ok (.iand, 1) := by decide +kernel
theorem d_X_enough_42 : decode prog_1_method_17_code 42 = .ok (.ifCond .eq 5, 3) := by decide +kernel
theorem d_X_enough_45 : decode prog_1_method_17_code 45 = .ok (.iconst 0, 1) := by decide +kernel
theorem d_X_enough_46 : decode prog_1_method_17_code 46 = .ok (.ireturn, 1) := by decide +kernel
theorem d_X_enough_47 : decode prog_1_method_17_code 47 = .ok (.aload_n 0, 1) := by decide +kernel
theorem d_X_enough_48 : decode prog_1_method_17_code 48 = .ok (.getfield 33, 3) := by decide +kernel
theorem d_X_enough_51 : decode prog_1_method_17_code 51 = .ok (.aload_n 0, 1) := by decide +kernel
theorem d_X_enough_52 : decode prog_1_method_17_code 52 = .ok (.getfield 12, 3) := by decide +kernel
theorem d_X_enough_55 : decode prog_1_method_17_code 55 = .ok (.aload_n 0, 1) := by decide +kernel
theorem d_X_enough_56 : decode prog_1_method_17_code 56 = .ok (.getfield 26, 3) := by decide +kernel
theorem d_X_enough_59 : decode prog_1_method_17_code 59 = .ok (.getfield 126, 3) := by decide +kernel
theorem d_X_enough_62 : decode prog_1_method_17_code 62 = .ok (.iload_n 1, 1) := by decide +kernel
theorem d_X_enough_63 : decode prog_1_method_17_code 63 = .ok (.invokestatic 89, 3) := by decide +kernel
theorem d_X_enough_66 : decode prog_1_method_17_code 66 = .ok (.invokevirtual 129, 3) := by decide +kernel
theorem d_X_enough_69 : decode prog_1_method_17_code 69 = .ok (.aload_n 0, 1) := by decide +kernel
theorem d_X_enough_70 : decode prog_1_method_17_code 70 = .ok (.getfield 33, 3) := by decide +kernel
theorem d_X_enough_73 : decode prog_1_method_17_code 73 = .ok (.iload_n 1, 1) := by decide +kernel
theorem d_X_enough_74 : decode prog_1_method_17_code 74 = .ok (.iload_n 2, 1) := by decide +kernel
theorem d_X_enough_75 : decode prog_1_method_17_code 75 = .ok (.iload_n 3, 1) := by decide +kernel
theorem d_X_enough_76 : decode prog_1_method_17_code 76 = .ok (.invokevirtual 143, 3) := by decide +kernel
theorem d_X_enough_79 : decode prog_1_method_17_code 79 = .ok (.iconst (-1), 1) := by decide +kernel
theorem d_X_enough_80 : decode prog_1_method_17_code 80 = .ok (.if_icmp .ne 7, 3) := by decide +kernel
theorem d_X_enough_83 : decode prog_1_method_17_code 83 = .ok (.iconst 1, 1) := by decide +kernel
theorem d_X_enough_84 : decode prog_1_method_17_code 84 = .ok (.goto 4, 3) := by decide +kernel
theorem d_X_enough_87 : decode prog_1_method_17_code 87 = .ok (.iconst 0, 1) := by decide +kernel
theorem d_X_enough_88 : decode prog_1_method_17_code 88 = .ok (.invokestatic 147, 3) := by decide +kernel
theorem d_X_enough_91 : decode prog_1_method_17_code 91 = .ok (.ireturn, 1) := by decide +kernel
theorem d_X_keep_0 : decode prog_1_method_18_code 0 = .ok (.aload_n 0, 1) := by decide +kernel
theorem d_X_keep_1 : decode prog_1_method_18_code 1 = .ok (.getfield 16, 3) := by decide +kernel
theorem d_X_keep_4 : decode prog_1_method_18_code 4 = .ok (.aload_n 0, 1) := by decide +kernel
theorem d_X_keep_5 : decode prog_1_method_18_code 5 = .ok (.getfield 12, 3) := by decide +kernel
theorem d_X_keep_8 : decode prog_1_method_18_code 8 = .ok (.invokevirtual 170, 3) := by decide +kernel
theorem d_X_keep_11 : decode prog_1_method_18_code 11 = .ok (.aload_n 0, 1) := by decide +kernel
theorem d_X_keep_12 : decode prog_1_method_18_code 12 = .ok (.iconst 1, 1) := by decide +kernel
theorem d_X_keep_13 : decode prog_1_method_18_code 13 = .ok (.putfield 19, 3) := by decide +kernel
theorem d_X_keep_16 : decode prog_1_method_18_code 16 = .ok (.aload_n 0, 1) := by decide +kernel
theorem d_X_keep_17 : decode prog_1_method_18_code 17 = .ok (.getfield 16, 3) := by decide +kernel
theorem d_X_keep_20 : decode prog_1_method_18_code 20 = .ok (.getfield 96, 3) := by decide +kernel
theorem d_X_keep_23 : decode prog_1_method_18_code 23 = .ok (.ireturn, 1) := by decide +kernel
theorem d_G_copy_0 : decode prog_2_method_3_code 0 = .ok (.aload_n 0, 1) := by decide +kernel
theorem d_G_copy_1 : decode prog_2_method_3_code 1 = .ok (.aload_n 1, 1) := by decide +kernel
theorem d_G_copy_2 : decode prog_2_method_3_code 2 = .ok (.getfield 9, 3) := by decide +kernel
theorem d_G_copy_5 : decode prog_2_method_3_code 5 = .ok (.putfield 9, 3) := by decide +kernel
theorem d_G_copy_8 : decode prog_2_method_3_code 8 = .ok (.aload_n 0, 1) := by decide +kernel
theorem d_G_copy_9 : decode prog_2_method_3_code 9 = .ok (.aload_n 1, 1) := by decide +kernel
theorem d_G_copy_10 : decode prog_2_method_3_code 10 = .ok (.getfield 15, 3) := by decide +kernel
theorem d_G_copy_13 : decode prog_2_method_3_code 13 = .ok (.putfield 15, 3) := by decide +kernel
theorem d_G_copy_16 : decode prog_2_method_3_code 16 = .ok (.aload_n 1, 1) := by decide +kernel
theorem d_G_copy_17 : decode prog_2_method_3_code 17 = .ok (.getfield 18, 3) := by decide +kernel
theorem d_G_copy_20 : decode prog_2_method_3_code 20 = .ok (.iconst 0, 1) := by decide +kernel
theorem d_G_copy_21 : decode prog_2_method_3_code 21 = .ok (.aload_n 0, 1) := by decide +kernel
theorem d_G_copy_22 : decode prog_2_method_3_code 22 = .ok (.getfield 18, 3) := by decide +kernel
theorem d_G_copy_25 : decode prog_2_method_3_code 25 = .ok (.iconst 0, 1) := by decide +kernel
theorem d_G_copy_26 : decode prog_2_method_3_code 26 = .ok (.bipush 8, 2) := by decide +kernel
theorem d_G_copy_28 : decode prog_2_method_3_code 28 = .ok (.invokestatic 31, 3) := by decide +kernel
theorem d_G_copy_31 : decode prog_2_method_3_code 31 = .ok (.aload_n 1, 1) := by decide +kernel
theorem d_G_copy_32 : decode prog_2_method_3_code 32 = .ok (.getfield 22, 3) := by decide +kernel
theorem d_G_copy_35 : decode prog_2_method_3_code 35 = .ok (.iconst 0, 1) := by decide +kernel
theorem d_G_copy_36 : decode prog_2_method_3_code 36 = .ok (.aload_n 0, 1) := by decide +kernel
theorem d_G_copy_37 : decode prog_2_method_3_code 37 = .ok (.getfield 22, 3) := by decide +kernel
theorem d_G_copy_40 : decode prog_2_method_3_code 40 = .ok (.iconst 0, 1) := by decide +kernel
theorem d_G_copy_41 : decode prog_2_method_3_code 41 = .ok (.bipush 8, 2) := by decide +kernel
theorem d_G_copy_43 : decode prog_2_method_3_code 43 = .ok (.invokestatic 31, 3) := by decide +kernel
theorem d_G_copy_46 : decode prog_2_method_3_code 46 = .ok (.return_, 1) := by decide +kernel
theorem d_X_alike_0 : decode prog_1_method_19_code 0 = .ok (.aload_n 0, 1) := by decide +kernel
theorem d_X_alike_1 : decode prog_1_method_19_code 1 = .ok (.getfield 19, 3) := by decide +kernel
theorem d_X_alike_4 : decode prog_1_method_19_code 4 = .ok (.ifCond .eq 20, 3) := by decide +kernel
theorem d_X_alike_7 : decode prog_1_method_19_code 7 = .ok (.aload_n 0, 1) := by decide +kernel
theorem d_X_alike_8 : decode prog_1_method_19_code 8 = .ok (.getfield 16, 3) := by decide +kernel
theorem d_X_alike_11 : decode prog_1_method_19_code 11 = .ok (.getfield 60, 3) := by decide +kernel
theorem d_X_alike_14 : decode prog_1_method_19_code 14 = .ok (.aload_n 0, 1) := by decide +kernel
theorem d_X_alike_15 : decode prog_1_method_19_code 15 = .ok (.getfield 12, 3) := by decide +kernel
theorem d_X_alike_18 : decode prog_1_method_19_code 18 = .ok (.getfield 60, 3) := by decide +kernel
theorem d_X_alike_21 : decode prog_1_method_19_code 21 = .ok (.if_icmp .eq 5, 3) := by decide +kernel
theorem d_X_alike_24 : decode prog_1_method_19_code 24 = .ok (.iconst (-1), 1) := by decide +kernel
theorem d_X_alike_25 : decode prog_1_method_19_code 25 = .ok (.ireturn, 1) := by decide +kernel
theorem d_X_alike_26 : decode prog_1_method_19_code 26 = .ok (.aload_n 0, 1) := by decide +kernel
theorem d_X_alike_27 : decode prog_1_method_19_code 27 = .ok (.getfield 12, 3) := by decide +kernel
theorem d_X_alike_30 : decode prog_1_method_19_code 30 = .ok (.aload_n 0, 1) := by decide +kernel
theorem d_X_alike_31 : decode prog_1_method_19_code 31 = .ok (.getfield 16, 3) := by decide +kernel
theorem d_X_alike_34 : decode prog_1_method_19_code 34 = .ok (.invokevirtual 174, 3) := by decide +kernel
theorem d_X_alike_37 : decode prog_1_method_19_code 37 = .ok (.invokestatic 147, 3) := by decide +kernel
theorem d_X_alike_40 : decode prog_1_method_19_code 40 = .ok (.ireturn, 1) := by decide +kernel
theorem d_G_tellsTheSameAs_0 : decode prog_2_method_10_code 0 = .ok (.iconst 0, 1) := by decide +kernel
theorem d_G_tellsTheSameAs_1 : decode prog_2_method_10_code 1 = .ok (.istore_n 2, 1) := by decide +kernel
theorem d_G_tellsTheSameAs_2 : decode prog_2_method_10_code 2 = .ok (.iload_n 2, 1) := by decide +kernel
theorem d_G_tellsTheSameAs_3 : decode prog_2_method_10_code 3 = .ok (.aload_n 0, 1) := by decide +kernel
theorem d_G_tellsTheSameAs_4 : decode prog_2_method_10_code 4 = .ok (.getfield 9, 3) := by decide +kernel
theorem d_G_tellsTheSameAs_7 : decode prog_2_method_10_code 7 = .ok (.if_icmp .ge 57, 3) := by decide +kernel
theorem d_G_tellsTheSameAs_10 : decode prog_2_method_10_code 10 = .ok (.aload_n 0, 1) := by decide +kernel
theorem d_G_tellsTheSameAs_11 : decode prog_2_method_10_code 11 = .ok (.iload_n 2, 1) := by decide +kernel
theorem d_G_tellsTheSameAs_12 : decode prog_2_method_10_code 12 = .ok (.invokevirtual 50, 3) := by decide +kernel
theorem d_G_tellsTheSameAs_15 : decode prog_2_method_10_code 15 = .ok (.aload_n 1, 1) := by decide +kernel
theorem d_G_tellsTheSameAs_16 : decode prog_2_method_10_code 16 = .ok (.iload_n 2, 1) := by decide +kernel
theorem d_G_tellsTheSameAs_17 : decode prog_2_method_10_code 17 = .ok (.invokevirtual 50, 3) := by decide +kernel
theorem d_G_tellsTheSameAs_20 : decode prog_2_method_10_code 20 = .ok (.if_icmp .eq 5, 3) := by decide +kernel
theorem d_G_tellsTheSameAs_23 : decode prog_2_method_10_code 23 = .ok (.iconst 0, 1) := by decide +kernel
theorem d_G_tellsTheSameAs_24 : decode prog_2_method_10_code 24 = .ok (.ireturn, 1) := by decide +kernel
theorem d_G_tellsTheSameAs_25 : decode prog_2_method_10_code 25 = .ok (.iconst 0, 1) := by decide +kernel
theorem d_G_tellsTheSameAs_26 : decode prog_2_method_10_code 26 = .ok (.istore_n 3, 1) := by decide +kernel
theorem d_G_tellsTheSameAs_27 : decode prog_2_method_10_code 27 = .ok (.iload_n 3, 1) := by decide +kernel
theorem d_G_tellsTheSameAs_28 : decode prog_2_method_10_code 28 = .ok (.aload_n 0, 1) := by decide +kernel
theorem d_G_tellsTheSameAs_29 : decode prog_2_method_10_code 29 = .ok (.getfield 9, 3) := by decide +kernel
theorem d_G_tellsTheSameAs_32 : decode prog_2_method_10_code 32 = .ok (.if_icmp .ge 26, 3) := by decide +kernel
theorem d_G_tellsTheSameAs_35 : decode prog_2_method_10_code 35 = .ok (.aload_n 0, 1) := by decide +kernel
theorem d_G_tellsTheSameAs_36 : decode prog_2_method_10_code 36 = .ok (.iload_n 3, 1) := by decide +kernel
theorem d_G_tellsTheSameAs_37 : decode prog_2_method_10_code 37 = .ok (.iload_n 2, 1) := by decide +kernel
theorem d_G_tellsTheSameAs_38 : decode prog_2_method_10_code 38 = .ok (.invokevirtual 53, 3) := by decide +kernel
theorem d_G_tellsTheSameAs_41 : decode prog_2_method_10_code 41 = .ok (.aload_n 1, 1) := by decide +kernel
theorem d_G_tellsTheSameAs_42 : decode prog_2_method_10_code 42 = .ok (.iload_n 3, 1) := by decide +kernel
theorem d_G_tellsTheSameAs_43 : decode prog_2_method_10_code 43 = .ok (.iload_n 2, 1) := by decide +kernel
theorem d_G_tellsTheSameAs_44 : decode prog_2_method_10_code 44 = .ok (.invokevirtual 53, 3) := by decide +kernel
theorem d_G_tellsTheSameAs_47 : decode prog_2_method_10_code 47 = .ok (.if_icmp .eq 5, 3) := by decide +kernel
theorem d_G_tellsTheSameAs_50 : decode prog_2_method_10_code 50 = .ok (.iconst 0, 1) := by decide +kernel
theorem d_G_tellsTheSameAs_51 : decode prog_2_method_10_code 51 = .ok (.ireturn, 1) := by decide +kernel
theorem d_G_tellsTheSameAs_52 : decode prog_2_method_10_code 52 = .ok (.iinc 3 1, 3) := by decide +kernel
theorem d_G_tellsTheSameAs_55 : decode prog_2_method_10_code 55 = .ok (.goto (-28), 3) := by decide +kernel
theorem d_G_tellsTheSameAs_58 : decode prog_2_method_10_code 58 = .ok (.iinc 2 1, 3) := by decide +kernel
theorem d_G_tellsTheSameAs_61 : decode prog_2_method_10_code 61 = .ok (.goto (-59), 3) := by decide +kernel
theorem d_G_tellsTheSameAs_64 : decode prog_2_method_10_code 64 = .ok (.iconst 1, 1) := by decide +kernel
theorem d_G_tellsTheSameAs_65 : decode prog_2_method_10_code 65 = .ok (.ireturn, 1) := by decide +kernel
theorem d_G_strangers_0 : decode prog_2_method_9_code 0 = .ok (.aload_n 0, 1) := by decide +kernel
theorem d_G_strangers_1 : decode prog_2_method_9_code 1 = .ok (.getfield 18, 3) := by decide +kernel
theorem d_G_strangers_4 : decode prog_2_method_9_code 4 = .ok (.iload_n 2, 1) := by decide +kernel
theorem d_G_strangers_5 : decode prog_2_method_9_code 5 = .ok (.iaload, 1) := by decide +kernel
theorem d_G_strangers_6 : decode prog_2_method_9_code 6 = .ok (.iload_n 1, 1) := by decide +kernel
theorem d_G_strangers_7 : decode prog_2_method_9_code 7 = .ok (.invokestatic 46, 3) := by decide +kernel
theorem d_G_strangers_10 : decode prog_2_method_9_code 10 = .ok (.ifCond .ne 5, 3) := by decide +kernel
theorem d_G_strangers_13 : decode prog_2_method_9_code 13 = .ok (.iconst 0, 1) := by decide +kernel
theorem d_G_strangers_14 : decode prog_2_method_9_code 14 = .ok (.ireturn, 1) := by decide +kernel
theorem d_G_strangers_15 : decode prog_2_method_9_code 15 = .ok (.aload_n 0, 1) := by decide +kernel
theorem d_G_strangers_16 : decode prog_2_method_9_code 16 = .ok (.getfield 18, 3) := by decide +kernel
theorem d_G_strangers_19 : decode prog_2_method_9_code 19 = .ok (.iload_n 2, 1) := by decide +kernel
theorem d_G_strangers_20 : decode prog_2_method_9_code 20 = .ok (.iaload, 1) := by decide +kernel
theorem d_G_strangers_21 : decode prog_2_method_9_code 21 = .ok (.iload_n 1, 1) := by decide +kernel
theorem d_G_strangers_22 : decode prog_2_method_9_code 22 = .ok (.invokestatic 37, 3) := by decide +kernel
theorem d_G_strangers_25 : decode prog_2_method_9_code 25 = .ok (.iconst (-1), 1) := by decide +kernel
theorem d_G_strangers_26 : decode prog_2_method_9_code 26 = .ok (.ixor, 1) := by decide +kernel
theorem d_G_strangers_27 : decode prog_2_method_9_code 27 = .ok (.iand, 1) := by decide +kernel
theorem d_G_strangers_28 : decode prog_2_method_9_code 28 = .ok (.aload_n 0, 1) := by decide +kernel
theorem d_G_strangers_29 : decode prog_2_method_9_code 29 = .ok (.iload_n 1, 1) := by decide +kernel
theorem d_G_strangers_30 : decode prog_2_method_9_code 30 = .ok (.invokevirtual 50, 3) := by decide +kernel
theorem d_G_strangers_33 : decode prog_2_method_9_code 33 = .ok (.iconst (-1), 1) := by decide +kernel
theorem d_G_strangers_34 : decode prog_2_method_9_code 34 = .ok (.ixor, 1) := by decide +kernel
theorem d_G_strangers_35 : decode prog_2_method_9_code 35 = .ok (.iand, 1) := by decide +kernel
theorem d_G_strangers_36 : decode prog_2_method_9_code 36 = .ok (.ireturn, 1) := by decide +kernel
theorem d_X_settled_0 : decode prog_1_method_20_code 0 = .ok (.aload_n 0, 1) := by decide +kernel
theorem d_X_settled_1 : decode prog_1_method_20_code 1 = .ok (.iload_n 1, 1) := by decide +kernel
theorem d_X_settled_2 : decode prog_1_method_20_code 2 = .ok (.iload_n 2, 1) := by decide +kernel
theorem d_X_settled_3 : decode prog_1_method_20_code 3 = .ok (.invokevirtual 74, 3) := by decide +kernel
theorem d_X_settled_6 : decode prog_1_method_20_code 6 = .ok (.ifCond .ne 6, 3) := by decide +kernel
theorem d_X_settled_9 : decode prog_1_method_20_code 9 = .ok (.bipush (-2), 2) := by decide +kernel
theorem d_X_settled_11 : decode prog_1_method_20_code 11 = .ok (.ireturn, 1) := by decide +kernel
theorem d_X_settled_12 : decode prog_1_method_20_code 12 = .ok (.aload_n 0, 1) := by decide +kernel
theorem d_X_settled_13 : decode prog_1_method_20_code 13 = .ok (.getfield 12, 3) := by decide +kernel
theorem d_X_settled_16 : decode prog_1_method_20_code 16 = .ok (.getfield 85, 3) := by decide +kernel
theorem d_X_settled_19 : decode prog_1_method_20_code 19 = .ok (.iload_n 1, 1) := by decide +kernel
theorem d_X_settled_20 : decode prog_1_method_20_code 20 = .ok (.iaload, 1) := by decide +kernel
theorem d_X_settled_21 : decode prog_1_method_20_code 21 = .ok (.iload_n 2, 1) := by decide +kernel
theorem d_X_settled_22 : decode prog_1_method_20_code 22 = .ok (.invokestatic 82, 3) := by decide +kernel
theorem d_X_settled_25 : decode prog_1_method_20_code 25 = .ok (.ifCond .ne 5, 3) := by decide +kernel
theorem d_X_settled_28 : decode prog_1_method_20_code 28 = .ok (.iconst (-1), 1) := by decide +kernel
theorem d_X_settled_29 : decode prog_1_method_20_code 29 = .ok (.ireturn, 1) := by decide +kernel
theorem d_X_settled_30 : decode prog_1_method_20_code 30 = .ok (.aload_n 0, 1) := by decide +kernel
theorem d_X_settled_31 : decode prog_1_method_20_code 31 = .ok (.getfield 40, 3) := by decide +kernel
theorem d_X_settled_34 : decode prog_1_method_20_code 34 = .ok (.aload_n 0, 1) := by decide +kernel
theorem d_X_settled_35 : decode prog_1_method_20_code 35 = .ok (.getfield 12, 3) := by decide +kernel
theorem d_X_settled_38 : decode prog_1_method_20_code 38 = .ok (.invokevirtual 178, 3) := by decide +kernel
theorem d_X_settled_41 : decode prog_1_method_20_code 41 = .ok (.aload_n 0, 1) := by decide +kernel
theorem d_X_settled_42 : decode prog_1_method_20_code 42 = .ok (.getfield 40, 3) := by decide +kernel
theorem d_X_settled_45 : decode prog_1_method_20_code 45 = .ok (.iload_n 1, 1) := by decide +kernel
theorem d_X_settled_46 : decode prog_1_method_20_code 46 = .ok (.iload_n 2, 1) := by decide +kernel
theorem d_X_settled_47 : decode prog_1_method_20_code 47 = .ok (.invokevirtual 181, 3) := by decide +kernel
theorem d_X_settled_50 : decode prog_1_method_20_code 50 = .ok (.ifCond .ne 7, 3) := by decide +kernel
theorem d_X_settled_53 : decode prog_1_method_20_code 53 = .ok (.iconst 1, 1) := by decide +kernel
theorem d_X_settled_54 : decode prog_1_method_20_code 54 = .ok (.goto 4, 3) := by decide +kernel
theorem d_X_settled_57 : decode prog_1_method_20_code 57 = .ok (.iconst 0, 1) := by decide +kernel
theorem d_X_settled_58 : decode prog_1_method_20_code 58 = .ok (.invokestatic 147, 3) := by decide +kernel
theorem d_X_settled_61 : decode prog_1_method_20_code 61 = .ok (.ireturn, 1) := by decide +kernel
theorem d_K_explore_0 : decode prog_3_method_2_code 0 = .ok (.aload_n 0, 1) := by decide +kernel
theorem d_K_explore_1 : decode prog_3_method_2_code 1 = .ok (.getfield 12, 3) := by decide +kernel
theorem d_K_explore_4 : decode prog_3_method_2_code 4 = .ok (.aload_n 1, 1) := by decide +kernel
theorem d_K_explore_5 : decode prog_3_method_2_code 5 = .ok (.invokevirtual 38, 3) := by decide +kernel
theorem d_K_explore_8 : decode prog_3_method_2_code 8 = .ok (.aload_n 0, 1) := by decide +kernel
theorem d_K_explore_9 : decode prog_3_method_2_code 9 = .ok (.invokevirtual 42, 3) := by decide +kernel
theorem d_K_explore_12 : decode prog_3_method_2_code 12 = .ok (.aload_n 0, 1) := by decide +kernel
theorem d_K_explore_13 : decode prog_3_method_2_code 13 = .ok (.getfield 29, 3) := by decide +kernel
theorem d_K_explore_16 : decode prog_3_method_2_code 16 = .ok (.iconst 0, 1) := by decide +kernel
theorem d_K_explore_17 : decode prog_3_method_2_code 17 = .ok (.invokestatic 45, 3) := by decide +kernel
theorem d_K_explore_20 : decode prog_3_method_2_code 20 = .ok (.aload_n 0, 1) := by decide +kernel
theorem d_K_explore_21 : decode prog_3_method_2_code 21 = .ok (.iconst 0, 1) := by decide +kernel
theorem d_K_explore_22 : decode prog_3_method_2_code 22 = .ok (.putfield 32, 3) := by decide +kernel
theorem d_K_explore_25 : decode prog_3_method_2_code 25 = .ok (.aload_n 0, 1) := by decide +kernel
theorem d_K_explore_26 : decode prog_3_method_2_code 26 = .ok (.iconst 0, 1) := by decide +kernel
theorem d_K_explore_27 : decode prog_3_method_2_code 27 = .ok (.putfield 35, 3) := by decide +kernel
theorem d_K_explore_30 : decode prog_3_method_2_code 30 = .ok (.aload_n 0, 1) := by decide +kernel
theorem d_K_explore_31 : decode prog_3_method_2_code 31 = .ok (.iconst 0, 1) := by decide +kernel
theorem d_K_explore_32 : decode prog_3_method_2_code 32 = .ok (.iconst 0, 1) := by decide +kernel
theorem d_K_explore_33 : decode prog_3_method_2_code 33 = .ok (.invokevirtual 51, 3) := by decide +kernel
theorem d_K_explore_36 : decode prog_3_method_2_code 36 = .ok (.return_, 1) := by decide +kernel
theorem d_K_listArcs_0 : decode prog_3_method_3_code 0 = .ok (.aload_n 0, 1) := by decide +kernel
theorem d_K_listArcs_1 : decode prog_3_method_3_code 1 = .ok (.iconst 0, 1) := by decide +kernel
theorem d_K_listArcs_2 : decode prog_3_method_3_code 2 = .ok (.putfield 18, 3) := by decide +kernel
theorem d_K_listArcs_5 : decode prog_3_method_3_code 5 = .ok (.iconst 0, 1) := by decide +kernel
theorem d_K_listArcs_6 : decode prog_3_method_3_code 6 = .ok (.istore_n 1, 1) := by decide +kernel
theorem d_K_listArcs_7 : decode prog_3_method_3_code 7 = .ok (.iload_n 1, 1) := by decide +kernel
theorem d_K_listArcs_8 : decode prog_3_method_3_code 8 = .ok (.aload_n 0, 1) := by decide +kernel
theorem d_K_listArcs_9 : decode prog_3_method_3_code 9 = .ok (.getfield 12, 3) := by decide +kernel
theorem d_K_listArcs_12 : decode prog_3_method_3_code 12 = .ok (.getfield 55, 3) := by decide +kernel
theorem d_K_listArcs_15 : decode prog_3_method_3_code 15 = .ok (.if_icmp .ge 83, 3) := by decide +kernel
theorem d_K_listArcs_18 : decode prog_3_method_3_code 18 = .ok (.iconst 0, 1) := by decide +kernel
theorem d_K_listArcs_19 : decode prog_3_method_3_code 19 = .ok (.istore_n 2, 1) := by decide +kernel
theorem d_K_listArcs_20 : decode prog_3_method_3_code 20 = .ok (.iload_n 2, 1) := by decide +kernel
theorem d_K_listArcs_21 : decode prog_3_method_3_code 21 = .ok (.aload_n 0, 1) := by decide +kernel
theorem d_K_listArcs_22 : decode prog_3_method_3_code 22 = .ok (.getfield 12, 3) := by decide +kernel
theorem d_K_listArcs_25 : decode prog_3_method_3_code 25 = .ok (.getfield 55, 3) := by decide +kernel
theorem d_K_listArcs_28 : decode prog_3_method_3_code 28 = .ok (.if_icmp .ge 64, 3) := by decide +kernel
theorem d_K_listArcs_31 : decode prog_3_method_3_code 31 = .ok (.aload_n 0, 1) := by decide +kernel
theorem d_K_listArcs_32 : decode prog_3_method_3_code 32 = .ok (.getfield 12, 3) := by decide +kernel
theorem d_K_listArcs_35 : decode prog_3_method_3_code 35 = .ok (.getfield 58, 3) := by decide +kernel
theorem d_K_listArcs_38 : decode prog_3_method_3_code 38 = .ok (.iload_n 1, 1) := by decide +kernel
theorem d_K_listArcs_39 : decode prog_3_method_3_code 39 = .ok (.iaload, 1) := by decide +kernel
theorem d_K_listArcs_40 : decode prog_3_method_3_code 40 = .ok (.iload_n 2, 1) := by decide +kernel
theorem d_K_listArcs_41 : decode prog_3_method_3_code 41 = .ok (.invokestatic 61, 3) := by decide +kernel
theorem d_K_listArcs_44 : decode prog_3_method_3_code 44 = .ok (.ifCond .eq 42, 3) := by decide +kernel
theorem d_K_listArcs_47 : decode prog_3_method_3_code 47 = .ok (.aload_n 0, 1) := by decide +kernel
theorem d_K_listArcs_48 : decode prog_3_method_3_code 48 = .ok (.getfield 18, 3) := by decide +kernel
theorem d_K_listArcs_51 : decode prog_3_method_3_code 51 = .ok (.bipush 10, 2) := by decide +kernel
theorem d_K_listArcs_53 : decode prog_3_method_3_code 53 = .ok (.if_icmp .ge 33, 3) := by decide +kernel
theorem d_K_listArcs_56 : decode prog_3_method_3_code 56 = .ok (.aload_n 0, 1) := by decide +kernel
theorem d_K_listArcs_57 : decode prog_3_method_3_code 57 = .ok (.getfield 22, 3) := by decide +kernel
theorem d_K_listArcs_60 : decode prog_3_method_3_code 60 = .ok (.aload_n 0, 1) := by decide +kernel
theorem d_K_listArcs_61 : decode prog_3_method_3_code 61 = .ok (.getfield 18, 3) := by decide +kernel
theorem d_K_listArcs_64 : decode prog_3_method_3_code 64 = .ok (.iload_n 1, 1) := by decide +kernel
theorem d_K_listArcs_65 : decode prog_3_method_3_code 65 = .ok (.iastore, 1) := by decide +kernel
theorem d_K_listArcs_66 : decode prog_3_method_3_code 66 = .ok (.aload_n 0, 1) := by decide +kernel
theorem d_K_listArcs_67 : decode prog_3_method_3_code 67 = .ok (.getfield 26, 3) := by decide +kernel
theorem d_K_listArcs_70 : decode prog_3_method_3_code 70 = .ok (.aload_n 0, 1) := by decide +kernel
theorem d_K_listArcs_71 : decode prog_3_method_3_code 71 = .ok (.getfield 18, 3) := by decide +kernel
theorem d_K_listArcs_74 : decode prog_3_method_3_code 74 = .ok (.iload_n 2, 1) := by decide +kernel
theorem d_K_listArcs_75 : decode prog_3_method_3_code 75 = .ok (.iastore, 1) := by decide +kernel
theorem d_K_listArcs_76 : decode prog_3_method_3_code 76 = .ok (.aload_n 0, 1) := by decide +kernel
theorem d_K_listArcs_77 : decode prog_3_method_3_code 77 = .ok (.dup, 1) := by decide +kernel
theorem d_K_listArcs_78 : decode prog_3_method_3_code 78 = .ok (.getfield 18, 3) := by decide +kernel
theorem d_K_listArcs_81 : decode prog_3_method_3_code 81 = .ok (.iconst 1, 1) := by decide +kernel
theorem d_K_listArcs_82 : decode prog_3_method_3_code 82 = .ok (.iadd, 1) := by decide +kernel
theorem d_K_listArcs_83 : decode prog_3_method_3_code 83 = .ok (.putfield 18, 3) := by decide +kernel
theorem d_K_listArcs_86 : decode prog_3_method_3_code 86 = .ok (.iinc 2 1, 3) := by decide +kernel
theorem d_K_listArcs_89 : decode prog_3_method_3_code 89 = .ok (.goto (-69), 3) := by decide +kernel
theorem d_K_listArcs_92 : decode prog_3_method_3_code 92 = .ok (.iinc 1 1, 3) := by decide +kernel
theorem d_K_listArcs_95 : decode prog_3_method_3_code 95 = .ok (.goto (-88), 3) := by decide +kernel
theorem d_K_listArcs_98 : decode prog_3_method_3_code 98 = .ok (.return_, 1) := by decide +kernel
theorem d_K_direct_0 : decode prog_3_method_5_code 0 = .ok (.iload_n 1, 1) := by decide +kernel
theorem d_K_direct_1 : decode prog_3_method_5_code 1 = .ok (.aload_n 0, 1) := by decide +kernel
theorem d_K_direct_2 : decode prog_3_method_5_code 2 = .ok (.getfield 18, 3) := by decide +kernel
theorem d_K_direct_5 : decode prog_3_method_5_code 5 = .ok (.if_icmp .lt 24, 3) := by decide +kernel
theorem d_K_direct_8 : decode prog_3_method_5_code 8 = .ok (.aload_n 0, 1) := by decide +kernel
theorem d_K_direct_9 : decode prog_3_method_5_code 9 = .ok (.dup, 1) := by decide +kernel
theorem d_K_direct_10 : decode prog_3_method_5_code 10 = .ok (.getfield 32, 3) := by decide +kernel
theorem d_K_direct_13 : decode prog_3_method_5_code 13 = .ok (.iconst 1, 1) := by decide +kernel
theorem d_K_direct_14 : decode prog_3_method_5_code 14 = .ok (.iadd, 1) := by decide +kernel
theorem d_K_direct_15 : decode prog_3_method_5_code 15 = .ok (.putfield 32, 3) := by decide +kernel
theorem d_K_direct_18 : decode prog_3_method_5_code 18 = .ok (.aload_n 0, 1) := by decide +kernel
theorem d_K_direct_19 : decode prog_3_method_5_code 19 = .ok (.dup, 1) := by decide +kernel
theorem d_K_direct_20 : decode prog_3_method_5_code 20 = .ok (.getfield 35, 3) := by decide +kernel
theorem d_K_direct_23 : decode prog_3_method_5_code 23 = .ok (.iload_n 2, 1) := by decide +kernel
theorem d_K_direct_24 : decode prog_3_method_5_code 24 = .ok (.ior, 1) := by decide +kernel
theorem d_K_direct_25 : decode prog_3_method_5_code 25 = .ok (.putfield 35, 3) := by decide +kernel
theorem d_K_direct_28 : decode prog_3_method_5_code 28 = .ok (.return_, 1) := by decide +kernel
theorem d_K_direct_29 : decode prog_3_method_5_code 29 = .ok (.aload_n 0, 1) := by decide +kernel
theorem d_K_direct_30 : decode prog_3_method_5_code 30 = .ok (.getfield 22, 3) := by decide +kernel
theorem d_K_direct_33 : decode prog_3_method_5_code 33 = .ok (.iload_n 1, 1) := by decide +kernel
theorem d_K_direct_34 : decode prog_3_method_5_code 34 = .ok (.iaload, 1) := by decide +kernel
theorem d_K_direct_35 : decode prog_3_method_5_code 35 = .ok (.istore_n 3, 1) := by decide +kernel
theorem d_K_direct_36 : decode prog_3_method_5_code 36 = .ok (.aload_n 0, 1) := by decide +kernel
theorem d_K_direct_37 : decode prog_3_method_5_code 37 = .ok (.getfield 26, 3) := by decide +kernel
theorem d_K_direct_40 : decode prog_3_method_5_code 40 = .ok (.iload_n 1, 1) := by decide +kernel
theorem d_K_direct_41 : decode prog_3_method_5_code 41 = .ok (.iaload, 1) := by decide +kernel
theorem d_K_direct_42 : decode prog_3_method_5_code 42 = .ok (.istore 4, 2) := by decide +kernel
theorem d_K_direct_44 : decode prog_3_method_5_code 44 = .ok (.aload_n 0, 1) := by decide +kernel
theorem d_K_direct_45 : decode prog_3_method_5_code 45 = .ok (.iload_n 1, 1) := by decide +kernel
theorem d_K_direct_46 : decode prog_3_method_5_code 46 = .ok (.iload_n 3, 1) := by decide +kernel
theorem d_K_direct_47 : decode prog_3_method_5_code 47 = .ok (.iload 4, 2) := by decide +kernel
theorem d_K_direct_49 : decode prog_3_method_5_code 49 = .ok (.iload_n 2, 1) := by decide +kernel
theorem d_K_direct_50 : decode prog_3_method_5_code 50 = .ok (.invokevirtual 65, 3) := by decide +kernel
theorem d_K_direct_53 : decode prog_3_method_5_code 53 = .ok (.aload_n 0, 1) := by decide +kernel
theorem d_K_direct_54 : decode prog_3_method_5_code 54 = .ok (.getfield 12, 3) := by decide +kernel
theorem d_K_direct_57 : decode prog_3_method_5_code 57 = .ok (.iload_n 3, 1) := by decide +kernel
theorem d_K_direct_58 : decode prog_3_method_5_code 58 = .ok (.iload 4, 2) := by decide +kernel
theorem d_K_direct_60 : decode prog_3_method_5_code 60 = .ok (.invokevirtual 69, 3) := by decide +kernel
theorem d_K_direct_63 : decode prog_3_method_5_code 63 = .ok (.ifCond .ne 17, 3) := by decide +kernel
theorem d_K_direct_66 : decode prog_3_method_5_code 66 = .ok (.aload_n 0, 1) := by decide +kernel
theorem d_K_direct_67 : decode prog_3_method_5_code 67 = .ok (.iload_n 1, 1) := by decide +kernel
theorem d_K_direct_68 : decode prog_3_method_5_code 68 = .ok (.iload 4, 2) := by decide +kernel
theorem d_K_direct_70 : decode prog_3_method_5_code 70 = .ok (.iload_n 3, 1) := by decide +kernel
theorem d_K_direct_71 : decode prog_3_method_5_code 71 = .ok (.iload_n 2, 1) := by decide +kernel
theorem d_K_direct_72 : decode prog_3_method_5_code 72 = .ok (.iload_n 1, 1) := by decide +kernel
theorem d_K_direct_73 : decode prog_3_method_5_code 73 = .ok (.invokestatic 73, 3) := by decide +kernel
theorem d_K_direct_76 : decode prog_3_method_5_code 76 = .ok (.ior, 1) := by decide +kernel
theorem d_K_direct_77 : decode prog_3_method_5_code 77 = .ok (.invokevirtual 65, 3) := by decide +kernel
theorem d_K_direct_80 : decode prog_3_method_5_code 80 = .ok (.return_, 1) := by decide +kernel
theorem d_K_directOne_0 : decode prog_3_method_6_code 0 = .ok (.aload_n 0, 1) := by decide +kernel
theorem d_K_directOne_1 : decode prog_3_method_6_code 1 = .ok (.iload_n 2, 1) := by decide +kernel
theorem d_K_directOne_2 : decode prog_3_method_6_code 2 = .ok (.iload_n 3, 1) := by decide +kernel
theorem d_K_directOne_3 : decode prog_3_method_6_code 3 = .ok (.invokevirtual 77, 3) := by decide +kernel
theorem d_K_directOne_6 : decode prog_3_method_6_code 6 = .ok (.ifCond .eq 21, 3) := by decide +kernel
theorem d_K_directOne_9 : decode prog_3_method_6_code 9 = .ok (.aload_n 0, 1) := by decide +kernel
theorem d_K_directOne_10 : decode prog_3_method_6_code 10 = .ok (.getfield 29, 3) := by decide +kernel
theorem d_K_directOne_13 : decode prog_3_method_6_code 13 = .ok (.iload_n 2, 1) := by decide +kernel
theorem d_K_directOne_14 : decode prog_3_method_6_code 14 = .ok (.invokestatic 73, 3) := by decide +kernel
theorem d_K_directOne_17 : decode prog_3_method_6_code 17 = .ok (.invokestatic 80, 3) := by decide +kernel
theorem d_K_directOne_20 : decode prog_3_method_6_code 20 = .ok (.iload_n 3, 1) := by decide +kernel
theorem d_K_directOne_21 : decode prog_3_method_6_code 21 = .ok (.invokestatic 61, 3) := by decide +kernel
theorem d_K_directOne_24 : decode prog_3_method_6_code 24 = .ok (.ifCond .eq 4, 3) := by decide +kernel
theorem d_K_directOne_27 : decode prog_3_method_6_code 27 = .ok (.return_, 1) := by decide +kernel
theorem d_K_directOne_28 : decode prog_3_method_6_code 28 = .ok (.aload_n 0, 1) := by decide +kernel
theorem d_K_directOne_29 : decode prog_3_method_6_code 29 = .ok (.getfield 29, 3) := by decide +kernel
theorem d_K_directOne_32 : decode prog_3_method_6_code 32 = .ok (.iload_n 3, 1) := by decide +kernel
theorem d_K_directOne_33 : decode prog_3_method_6_code 33 = .ok (.dup2, 1) := by decide +kernel
theorem d_K_directOne_34 : decode prog_3_method_6_code 34 = .ok (.iaload, 1) := by decide +kernel
theorem d_K_directOne_35 : decode prog_3_method_6_code 35 = .ok (.iload_n 2, 1) := by decide +kernel
theorem d_K_directOne_36 : decode prog_3_method_6_code 36 = .ok (.invokestatic 73, 3) := by decide +kernel
theorem d_K_directOne_39 : decode prog_3_method_6_code 39 = .ok (.ior, 1) := by decide +kernel
theorem d_K_directOne_40 : decode prog_3_method_6_code 40 = .ok (.iastore, 1) := by decide +kernel
theorem d_K_directOne_41 : decode prog_3_method_6_code 41 = .ok (.aload_n 0, 1) := by decide +kernel
theorem d_K_directOne_42 : decode prog_3_method_6_code 42 = .ok (.iload_n 1, 1) := by decide +kernel
theorem d_K_directOne_43 : decode prog_3_method_6_code 43 = .ok (.iconst 1, 1) := by decide +kernel
theorem d_K_directOne_44 : decode prog_3_method_6_code 44 = .ok (.iadd, 1) := by decide +kernel
theorem d_K_directOne_45 : decode prog_3_method_6_code 45 = .ok (.iload 4, 2) := by decide +kernel
theorem d_K_directOne_47 : decode prog_3_method_6_code 47 = .ok (.invokevirtual 51, 3) := by decide +kernel
theorem d_K_directOne_50 : decode prog_3_method_6_code 50 = .ok (.aload_n 0, 1) := by decide +kernel
theorem d_K_directOne_51 : decode prog_3_method_6_code 51 = .ok (.getfield 29, 3) := by decide +kernel
theorem d_K_directOne_54 : decode prog_3_method_6_code 54 = .ok (.iload_n 3, 1) := by decide +kernel
theorem d_K_directOne_55 : decode prog_3_method_6_code 55 = .ok (.dup2, 1) := by decide +kernel
theorem d_K_directOne_56 : decode prog_3_method_6_code 56 = .ok (.iaload, 1) := by decide +kernel
theorem d_K_directOne_57 : decode prog_3_method_6_code 57 = .ok (.iload_n 2, 1) := by decide +kernel
theorem d_K_directOne_58 : decode prog_3_method_6_code 58 = .ok (.invokestatic 73, 3) := by decide +kernel
theorem d_K_directOne_61 : decode prog_3_method_6_code 61 = .ok (.iconst (-1), 1) := by decide +kernel
theorem d_K_directOne_62 : decode prog_3_method_6_code 62 = .ok (.ixor, 1) := by decide +kernel
theorem d_K_directOne_63 : decode prog_3_method_6_code 63 = .ok (.iand, 1) := by decide +kernel
theorem d_K_directOne_64 : decode prog_3_method_6_code 64 = .ok (.iastore, 1) := by decide +kernel
theorem d_K_directOne_65 : decode prog_3_method_6_code 65 = .ok (.return_, 1) := by decide +kernel
theorem d_K_meetsAsFirst_0 : decode prog_3_method_7_code 0 = .ok (.aload_n 0, 1) := by decide +kernel
theorem d_K_meetsAsFirst_1 : decode prog_3_method_7_code 1 = .ok (.getfield 29, 3) := by decide +kernel
theorem d_K_meetsAsFirst_4 : decode prog_3_method_7_code 4 = .ok (.iload_n 2, 1) := by decide +kernel
theorem d_K_meetsAsFirst_5 : decode prog_3_method_7_code 5 = .ok (.iaload, 1) := by decide +kernel
theorem d_K_meetsAsFirst_6 : decode prog_3_method_7_code 6 = .ok (.aload_n 0, 1) := by decide +kernel
theorem d_K_meetsAsFirst_7 : decode prog_3_method_7_code 7 = .ok (.getfield 12, 3) := by decide +kernel
theorem d_K_meetsAsFirst_10 : decode prog_3_method_7_code 10 = .ok (.iload_n 1, 1) := by decide +kernel
theorem d_K_meetsAsFirst_11 : decode prog_3_method_7_code 11 = .ok (.invokevirtual 84, 3) := by decide +kernel
theorem d_K_meetsAsFirst_14 : decode prog_3_method_7_code 14 = .ok (.iconst (-1), 1) := by decide +kernel
theorem d_K_meetsAsFirst_15 : decode prog_3_method_7_code 15 = .ok (.ixor, 1) := by decide +kernel
theorem d_K_meetsAsFirst_16 : decode prog_3_method_7_code 16 = .ok (.iand, 1) := by decide +kernel
theorem d_K_meetsAsFirst_17 : decode prog_3_method_7_code 17 = .ok (.istore_n 3, 1) := by decide +kernel
theorem d_K_meetsAsFirst_18 : decode prog_3_method_7_code 18 = .ok (.iload_n 3, 1) := by decide +kernel
theorem d_K_meetsAsFirst_19 : decode prog_3_method_7_code 19 = .ok (.aload_n 0, 1) := by decide +kernel
theorem d_K_meetsAsFirst_20 : decode prog_3_method_7_code 20 = .ok (.getfield 12, 3) := by decide +kernel
theorem d_K_meetsAsFirst_23 : decode prog_3_method_7_code 23 = .ok (.iload_n 1, 1) := by decide +kernel
theorem d_K_meetsAsFirst_24 : decode prog_3_method_7_code 24 = .ok (.iload_n 2, 1) := by decide +kernel
theorem d_K_meetsAsFirst_25 : decode prog_3_method_7_code 25 = .ok (.invokevirtual 69, 3) := by decide +kernel
theorem d_K_meetsAsFirst_28 : decode prog_3_method_7_code 28 = .ok (.iconst (-1), 1) := by decide +kernel
theorem d_K_meetsAsFirst_29 : decode prog_3_method_7_code 29 = .ok (.ixor, 1) := by decide +kernel
theorem d_K_meetsAsFirst_30 : decode prog_3_method_7_code 30 = .ok (.iand, 1) := by decide +kernel
theorem d_K_meetsAsFirst_31 : decode prog_3_method_7_code 31 = .ok (.ifCond .ne 7, 3) := by decide +kernel
theorem d_K_meetsAsFirst_34 : decode prog_3_method_7_code 34 = .ok (.iconst 1, 1) := by decide +kernel
theorem d_K_meetsAsFirst_35 : decode prog_3_method_7_code 35 = .ok (.goto 4, 3) := by decide +kernel
theorem d_K_meetsAsFirst_38 : decode prog_3_method_7_code 38 = .ok (.iconst 0, 1) := by decide +kernel
theorem d_K_meetsAsFirst_39 : decode prog_3_method_7_code 39 = .ok (.ireturn, 1) := by decide +kernel
theorem d_K_isTurned_0 : decode prog_3_method_4_code 0 = .ok (.iconst 0, 1) := by decide +kernel
theorem d_K_isTurned_1 : decode prog_3_method_4_code 1 = .ok (.istore_n 3, 1) := by decide +kernel
theorem d_K_isTurned_2 : decode prog_3_method_4_code 2 = .ok (.iload_n 3, 1) := by decide +kernel
theorem d_K_isTurned_3 : decode prog_3_method_4_code 3 = .ok (.aload_n 0, 1) := by decide +kernel
theorem d_K_isTurned_4 : decode prog_3_method_4_code 4 = .ok (.getfield 18, 3) := by decide +kernel
theorem d_K_isTurned_7 : decode prog_3_method_4_code 7 = .ok (.if_icmp .ge 38, 3) := by decide +kernel
theorem d_K_isTurned_10 : decode prog_3_method_4_code 10 = .ok (.aload_n 0, 1) := by decide +kernel
theorem d_K_isTurned_11 : decode prog_3_method_4_code 11 = .ok (.getfield 22, 3) := by decide +kernel
theorem d_K_isTurned_14 : decode prog_3_method_4_code 14 = .ok (.iload_n 3, 1) := by decide +kernel
theorem d_K_isTurned_15 : decode prog_3_method_4_code 15 = .ok (.iaload, 1) := by decide +kernel
theorem d_K_isTurned_16 : decode prog_3_method_4_code 16 = .ok (.iload_n 1, 1) := by decide +kernel
theorem d_K_isTurned_17 : decode prog_3_method_4_code 17 = .ok (.if_icmp .ne 22, 3) := by decide +kernel
theorem d_K_isTurned_20 : decode prog_3_method_4_code 20 = .ok (.aload_n 0, 1) := by decide +kernel
theorem d_K_isTurned_21 : decode prog_3_method_4_code 21 = .ok (.getfield 26, 3) := by decide +kernel
theorem d_K_isTurned_24 : decode prog_3_method_4_code 24 = .ok (.iload_n 3, 1) := by decide +kernel
theorem d_K_isTurned_25 : decode prog_3_method_4_code 25 = .ok (.iaload, 1) := by decide +kernel
theorem d_K_isTurned_26 : decode prog_3_method_4_code 26 = .ok (.iload_n 2, 1) := by decide +kernel
theorem d_K_isTurned_27 : decode prog_3_method_4_code 27 = .ok (.if_icmp .ne 12, 3) := by decide +kernel
theorem d_K_isTurned_30 : decode prog_3_method_4_code 30 = .ok (.aload_n 0, 1) := by decide +kernel
theorem d_K_isTurned_31 : decode prog_3_method_4_code 31 = .ok (.getfield 35, 3) := by decide +kernel
theorem d_K_isTurned_34 : decode prog_3_method_4_code 34 = .ok (.iload_n 3, 1) := by decide +kernel
theorem d_K_isTurned_35 : decode prog_3_method_4_code 35 = .ok (.invokestatic 61, 3) := by decide +kernel
theorem d_K_isTurned_38 : decode prog_3_method_4_code 38 = .ok (.ireturn, 1) := by decide +kernel
theorem d_K_isTurned_39 : decode prog_3_method_4_code 39 = .ok (.iinc 3 1, 3) := by decide +kernel
theorem d_K_isTurned_42 : decode prog_3_method_4_code 42 = .ok (.goto (-40), 3) := by decide +kernel
