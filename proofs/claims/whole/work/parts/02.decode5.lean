theorem d_Y_settled_5 : decode prog_8_method_40_code 5 = .ok (.ifCond .eq 16, 3) := by decide +kernel
theorem d_Y_settled_8 : decode prog_8_method_40_code 8 = .ok (.aload_n 0, 1) := by decide +kernel
theorem d_Y_settled_9 : decode prog_8_method_40_code 9 = .ok (.iload_n 2, 1) := by decide +kernel
theorem d_Y_settled_10 : decode prog_8_method_40_code 10 = .ok (.invokevirtual 77, 3) := by decide +kernel
theorem d_Y_settled_13 : decode prog_8_method_40_code 13 = .ok (.ifCond .eq 8, 3) := by decide +kernel
theorem d_Y_settled_16 : decode prog_8_method_40_code 16 = .ok (.iload_n 1, 1) := by decide +kernel
theorem d_Y_settled_17 : decode prog_8_method_40_code 17 = .ok (.iload_n 2, 1) := by decide +kernel
theorem d_Y_settled_18 : decode prog_8_method_40_code 18 = .ok (.if_icmp .ne 6, 3) := by decide +kernel
theorem d_Y_settled_21 : decode prog_8_method_40_code 21 = .ok (.bipush (-2), 2) := by decide +kernel
theorem d_Y_settled_23 : decode prog_8_method_40_code 23 = .ok (.ireturn, 1) := by decide +kernel
theorem d_Y_settled_24 : decode prog_8_method_40_code 24 = .ok (.aload_n 0, 1) := by decide +kernel
theorem d_Y_settled_25 : decode prog_8_method_40_code 25 = .ok (.iload_n 1, 1) := by decide +kernel
theorem d_Y_settled_26 : decode prog_8_method_40_code 26 = .ok (.iload_n 2, 1) := by decide +kernel
theorem d_Y_settled_27 : decode prog_8_method_40_code 27 = .ok (.invokevirtual 92, 3) := by decide +kernel
theorem d_Y_settled_30 : decode prog_8_method_40_code 30 = .ok (.ifCond .ne 5, 3) := by decide +kernel
theorem d_Y_settled_33 : decode prog_8_method_40_code 33 = .ok (.iconst (-1), 1) := by decide +kernel
theorem d_Y_settled_34 : decode prog_8_method_40_code 34 = .ok (.ireturn, 1) := by decide +kernel
theorem d_Y_settled_35 : decode prog_8_method_40_code 35 = .ok (.aload_n 0, 1) := by decide +kernel
theorem d_Y_settled_36 : decode prog_8_method_40_code 36 = .ok (.invokevirtual 156, 3) := by decide +kernel
theorem d_Y_settled_39 : decode prog_8_method_40_code 39 = .ok (.aload_n 0, 1) := by decide +kernel
theorem d_Y_settled_40 : decode prog_8_method_40_code 40 = .ok (.invokevirtual 142, 3) := by decide +kernel
theorem d_Y_settled_43 : decode prog_8_method_40_code 43 = .ok (.istore_n 3, 1) := by decide +kernel
theorem d_Y_settled_44 : decode prog_8_method_40_code 44 = .ok (.iconst 0, 1) := by decide +kernel
theorem d_Y_settled_45 : decode prog_8_method_40_code 45 = .ok (.istore 4, 2) := by decide +kernel
theorem d_Y_settled_47 : decode prog_8_method_40_code 47 = .ok (.iconst 0, 1) := by decide +kernel
theorem d_Y_settled_48 : decode prog_8_method_40_code 48 = .ok (.istore 5, 2) := by decide +kernel
theorem d_Y_settled_50 : decode prog_8_method_40_code 50 = .ok (.iload 5, 2) := by decide +kernel
theorem d_Y_settled_52 : decode prog_8_method_40_code 52 = .ok (.iload_n 3, 1) := by decide +kernel
theorem d_Y_settled_53 : decode prog_8_method_40_code 53 = .ok (.if_icmp .ge 49, 3) := by decide +kernel
theorem d_Y_settled_56 : decode prog_8_method_40_code 56 = .ok (.iload 4, 2) := by decide +kernel
theorem d_Y_settled_58 : decode prog_8_method_40_code 58 = .ok (.aload_n 0, 1) := by decide +kernel
theorem d_Y_settled_59 : decode prog_8_method_40_code 59 = .ok (.getfield 51, 3) := by decide +kernel
theorem d_Y_settled_62 : decode prog_8_method_40_code 62 = .ok (.iload 5, 2) := by decide +kernel
theorem d_Y_settled_64 : decode prog_8_method_40_code 64 = .ok (.iaload, 1) := by decide +kernel
theorem d_Y_settled_65 : decode prog_8_method_40_code 65 = .ok (.iload_n 1, 1) := by decide +kernel
theorem d_Y_settled_66 : decode prog_8_method_40_code 66 = .ok (.if_icmp .ne 26, 3) := by decide +kernel
theorem d_Y_settled_69 : decode prog_8_method_40_code 69 = .ok (.aload_n 0, 1) := by decide +kernel
theorem d_Y_settled_70 : decode prog_8_method_40_code 70 = .ok (.getfield 54, 3) := by decide +kernel
theorem d_Y_settled_73 : decode prog_8_method_40_code 73 = .ok (.iload 5, 2) := by decide +kernel
theorem d_Y_settled_75 : decode prog_8_method_40_code 75 = .ok (.iaload, 1) := by decide +kernel
theorem d_Y_settled_76 : decode prog_8_method_40_code 76 = .ok (.iload_n 2, 1) := by decide +kernel
theorem d_Y_settled_77 : decode prog_8_method_40_code 77 = .ok (.if_icmp .ne 15, 3) := by decide +kernel
theorem d_Y_settled_80 : decode prog_8_method_40_code 80 = .ok (.aload_n 0, 1) := by decide +kernel
theorem d_Y_settled_81 : decode prog_8_method_40_code 81 = .ok (.getfield 149, 3) := by decide +kernel
theorem d_Y_settled_84 : decode prog_8_method_40_code 84 = .ok (.iload 5, 2) := by decide +kernel
theorem d_Y_settled_86 : decode prog_8_method_40_code 86 = .ok (.ishr, 1) := by decide +kernel
theorem d_Y_settled_87 : decode prog_8_method_40_code 87 = .ok (.iconst 1, 1) := by decide +kernel
theorem d_Y_settled_88 : decode prog_8_method_40_code 88 = .ok (.iand, 1) := by decide +kernel
theorem d_Y_settled_89 : decode prog_8_method_40_code 89 = .ok (.goto 4, 3) := by decide +kernel
theorem d_Y_settled_92 : decode prog_8_method_40_code 92 = .ok (.iconst 0, 1) := by decide +kernel
theorem d_Y_settled_93 : decode prog_8_method_40_code 93 = .ok (.ior, 1) := by decide +kernel
theorem d_Y_settled_94 : decode prog_8_method_40_code 94 = .ok (.istore 4, 2) := by decide +kernel
theorem d_Y_settled_96 : decode prog_8_method_40_code 96 = .ok (.iinc 5 1, 3) := by decide +kernel
theorem d_Y_settled_99 : decode prog_8_method_40_code 99 = .ok (.goto (-49), 3) := by decide +kernel
theorem d_Y_settled_102 : decode prog_8_method_40_code 102 = .ok (.iload 4, 2) := by decide +kernel
theorem d_Y_settled_104 : decode prog_8_method_40_code 104 = .ok (.ireturn, 1) := by decide +kernel
theorem d_Y_countFamily_0 : decode prog_8_method_39_code 0 = .ok (.aload_n 0, 1) := by decide +kernel
theorem d_Y_countFamily_1 : decode prog_8_method_39_code 1 = .ok (.getfield 74, 3) := by decide +kernel
theorem d_Y_countFamily_4 : decode prog_8_method_39_code 4 = .ok (.ifCond .eq 4, 3) := by decide +kernel
theorem d_Y_countFamily_7 : decode prog_8_method_39_code 7 = .ok (.return_, 1) := by decide +kernel
theorem d_Y_countFamily_8 : decode prog_8_method_39_code 8 = .ok (.aload_n 0, 1) := by decide +kernel
theorem d_Y_countFamily_9 : decode prog_8_method_39_code 9 = .ok (.iconst 1, 1) := by decide +kernel
theorem d_Y_countFamily_10 : decode prog_8_method_39_code 10 = .ok (.putfield 74, 3) := by decide +kernel
theorem d_Y_countFamily_13 : decode prog_8_method_39_code 13 = .ok (.aload_n 0, 1) := by decide +kernel
theorem d_Y_countFamily_14 : decode prog_8_method_39_code 14 = .ok (.invokevirtual 142, 3) := by decide +kernel
theorem d_Y_countFamily_17 : decode prog_8_method_39_code 17 = .ok (.istore_n 1, 1) := by decide +kernel
theorem d_Y_countFamily_18 : decode prog_8_method_39_code 18 = .ok (.aload_n 0, 1) := by decide +kernel
theorem d_Y_countFamily_19 : decode prog_8_method_39_code 19 = .ok (.iconst 0, 1) := by decide +kernel
theorem d_Y_countFamily_20 : decode prog_8_method_39_code 20 = .ok (.putfield 146, 3) := by decide +kernel
theorem d_Y_countFamily_23 : decode prog_8_method_39_code 23 = .ok (.aload_n 0, 1) := by decide +kernel
theorem d_Y_countFamily_24 : decode prog_8_method_39_code 24 = .ok (.iconst 1, 1) := by decide +kernel
theorem d_Y_countFamily_25 : decode prog_8_method_39_code 25 = .ok (.iload_n 1, 1) := by decide +kernel
theorem d_Y_countFamily_26 : decode prog_8_method_39_code 26 = .ok (.ishl, 1) := by decide +kernel
theorem d_Y_countFamily_27 : decode prog_8_method_39_code 27 = .ok (.iconst 1, 1) := by decide +kernel
theorem d_Y_countFamily_28 : decode prog_8_method_39_code 28 = .ok (.isub, 1) := by decide +kernel
theorem d_Y_countFamily_29 : decode prog_8_method_39_code 29 = .ok (.putfield 149, 3) := by decide +kernel
theorem d_Y_countFamily_32 : decode prog_8_method_39_code 32 = .ok (.aload_n 0, 1) := by decide +kernel
theorem d_Y_countFamily_33 : decode prog_8_method_39_code 33 = .ok (.invokevirtual 135, 3) := by decide +kernel
theorem d_Y_countFamily_36 : decode prog_8_method_39_code 36 = .ok (.iconst 0, 1) := by decide +kernel
theorem d_Y_countFamily_37 : decode prog_8_method_39_code 37 = .ok (.istore_n 2, 1) := by decide +kernel
theorem d_Y_countFamily_38 : decode prog_8_method_39_code 38 = .ok (.iload_n 2, 1) := by decide +kernel
theorem d_Y_countFamily_39 : decode prog_8_method_39_code 39 = .ok (.iconst 1, 1) := by decide +kernel
theorem d_Y_countFamily_40 : decode prog_8_method_39_code 40 = .ok (.iload_n 1, 1) := by decide +kernel
theorem d_Y_countFamily_41 : decode prog_8_method_39_code 41 = .ok (.ishl, 1) := by decide +kernel
theorem d_Y_countFamily_42 : decode prog_8_method_39_code 42 = .ok (.if_icmp .ge 153, 3) := by decide +kernel
theorem d_Y_countFamily_45 : decode prog_8_method_39_code 45 = .ok (.iconst 0, 1) := by decide +kernel
theorem d_Y_countFamily_46 : decode prog_8_method_39_code 46 = .ok (.istore_n 3, 1) := by decide +kernel
theorem d_Y_countFamily_47 : decode prog_8_method_39_code 47 = .ok (.iload_n 3, 1) := by decide +kernel
theorem d_Y_countFamily_48 : decode prog_8_method_39_code 48 = .ok (.bipush 8, 2) := by decide +kernel
theorem d_Y_countFamily_50 : decode prog_8_method_39_code 50 = .ok (.if_icmp .ge 16, 3) := by decide +kernel
theorem d_Y_countFamily_53 : decode prog_8_method_39_code 53 = .ok (.aload_n 0, 1) := by decide +kernel
theorem d_Y_countFamily_54 : decode prog_8_method_39_code 54 = .ok (.getfield 57, 3) := by decide +kernel
theorem d_Y_countFamily_57 : decode prog_8_method_39_code 57 = .ok (.iload_n 3, 1) := by decide +kernel
theorem d_Y_countFamily_58 : decode prog_8_method_39_code 58 = .ok (.iconst 0, 1) := by decide +kernel
theorem d_Y_countFamily_59 : decode prog_8_method_39_code 59 = .ok (.iastore, 1) := by decide +kernel
theorem d_Y_countFamily_60 : decode prog_8_method_39_code 60 = .ok (.iinc 3 1, 3) := by decide +kernel
theorem d_Y_countFamily_63 : decode prog_8_method_39_code 63 = .ok (.goto (-16), 3) := by decide +kernel
theorem d_Y_countFamily_66 : decode prog_8_method_39_code 66 = .ok (.iconst 0, 1) := by decide +kernel
theorem d_Y_countFamily_67 : decode prog_8_method_39_code 67 = .ok (.istore_n 3, 1) := by decide +kernel
theorem d_Y_countFamily_68 : decode prog_8_method_39_code 68 = .ok (.iload_n 3, 1) := by decide +kernel
theorem d_Y_countFamily_69 : decode prog_8_method_39_code 69 = .ok (.iload_n 1, 1) := by decide +kernel
theorem d_Y_countFamily_70 : decode prog_8_method_39_code 70 = .ok (.if_icmp .ge 79, 3) := by decide +kernel
theorem d_Y_countFamily_73 : decode prog_8_method_39_code 73 = .ok (.iload_n 2, 1) := by decide +kernel
theorem d_Y_countFamily_74 : decode prog_8_method_39_code 74 = .ok (.iload_n 3, 1) := by decide +kernel
theorem d_Y_countFamily_75 : decode prog_8_method_39_code 75 = .ok (.ishr, 1) := by decide +kernel
theorem d_Y_countFamily_76 : decode prog_8_method_39_code 76 = .ok (.iconst 1, 1) := by decide +kernel
theorem d_Y_countFamily_77 : decode prog_8_method_39_code 77 = .ok (.iand, 1) := by decide +kernel
theorem d_Y_countFamily_78 : decode prog_8_method_39_code 78 = .ok (.iconst 1, 1) := by decide +kernel
theorem d_Y_countFamily_79 : decode prog_8_method_39_code 79 = .ok (.if_icmp .ne 7, 3) := by decide +kernel
theorem d_Y_countFamily_82 : decode prog_8_method_39_code 82 = .ok (.iconst 1, 1) := by decide +kernel
theorem d_Y_countFamily_83 : decode prog_8_method_39_code 83 = .ok (.goto 4, 3) := by decide +kernel
theorem d_Y_countFamily_86 : decode prog_8_method_39_code 86 = .ok (.iconst 0, 1) := by decide +kernel
theorem d_Y_countFamily_87 : decode prog_8_method_39_code 87 = .ok (.istore 4, 2) := by decide +kernel
theorem d_Y_countFamily_89 : decode prog_8_method_39_code 89 = .ok (.iload 4, 2) := by decide +kernel
theorem d_Y_countFamily_91 : decode prog_8_method_39_code 91 = .ok (.ifCond .eq 12, 3) := by decide +kernel
theorem d_Y_countFamily_94 : decode prog_8_method_39_code 94 = .ok (.aload_n 0, 1) := by decide +kernel
theorem d_Y_countFamily_95 : decode prog_8_method_39_code 95 = .ok (.getfield 51, 3) := by decide +kernel
theorem d_Y_countFamily_98 : decode prog_8_method_39_code 98 = .ok (.iload_n 3, 1) := by decide +kernel
theorem d_Y_countFamily_99 : decode prog_8_method_39_code 99 = .ok (.iaload, 1) := by decide +kernel
theorem d_Y_countFamily_100 : decode prog_8_method_39_code 100 = .ok (.goto 9, 3) := by decide +kernel
theorem d_Y_countFamily_103 : decode prog_8_method_39_code 103 = .ok (.aload_n 0, 1) := by decide +kernel
theorem d_Y_countFamily_104 : decode prog_8_method_39_code 104 = .ok (.getfield 54, 3) := by decide +kernel
theorem d_Y_countFamily_107 : decode prog_8_method_39_code 107 = .ok (.iload_n 3, 1) := by decide +kernel
theorem d_Y_countFamily_108 : decode prog_8_method_39_code 108 = .ok (.iaload, 1) := by decide +kernel
theorem d_Y_countFamily_109 : decode prog_8_method_39_code 109 = .ok (.istore 5, 2) := by decide +kernel
theorem d_Y_countFamily_111 : decode prog_8_method_39_code 111 = .ok (.aload_n 0, 1) := by decide +kernel
theorem d_Y_countFamily_112 : decode prog_8_method_39_code 112 = .ok (.getfield 57, 3) := by decide +kernel
theorem d_Y_countFamily_115 : decode prog_8_method_39_code 115 = .ok (.iload 5, 2) := by decide +kernel
theorem d_Y_countFamily_117 : decode prog_8_method_39_code 117 = .ok (.dup2, 1) := by decide +kernel
theorem d_Y_countFamily_118 : decode prog_8_method_39_code 118 = .ok (.iaload, 1) := by decide +kernel
theorem d_Y_countFamily_119 : decode prog_8_method_39_code 119 = .ok (.iconst 1, 1) := by decide +kernel
theorem d_Y_countFamily_120 : decode prog_8_method_39_code 120 = .ok (.iload 4, 2) := by decide +kernel
theorem d_Y_countFamily_122 : decode prog_8_method_39_code 122 = .ok (.ifCond .eq 12, 3) := by decide +kernel
theorem d_Y_countFamily_125 : decode prog_8_method_39_code 125 = .ok (.aload_n 0, 1) := by decide +kernel
theorem d_Y_countFamily_126 : decode prog_8_method_39_code 126 = .ok (.getfield 54, 3) := by decide +kernel
theorem d_Y_countFamily_129 : decode prog_8_method_39_code 129 = .ok (.iload_n 3, 1) := by decide +kernel
theorem d_Y_countFamily_130 : decode prog_8_method_39_code 130 = .ok (.iaload, 1) := by decide +kernel
theorem d_Y_countFamily_131 : decode prog_8_method_39_code 131 = .ok (.goto 9, 3) := by decide +kernel
theorem d_Y_countFamily_134 : decode prog_8_method_39_code 134 = .ok (.aload_n 0, 1) := by decide +kernel
theorem d_Y_countFamily_135 : decode prog_8_method_39_code 135 = .ok (.getfield 51, 3) := by decide +kernel
theorem d_Y_countFamily_138 : decode prog_8_method_39_code 138 = .ok (.iload_n 3, 1) := by decide +kernel
theorem d_Y_countFamily_139 : decode prog_8_method_39_code 139 = .ok (.iaload, 1) := by decide +kernel
theorem d_Y_countFamily_140 : decode prog_8_method_39_code 140 = .ok (.ishl, 1) := by decide +kernel
theorem d_Y_countFamily_141 : decode prog_8_method_39_code 141 = .ok (.ior, 1) := by decide +kernel
theorem d_Y_countFamily_142 : decode prog_8_method_39_code 142 = .ok (.iastore, 1) := by decide +kernel
theorem d_Y_countFamily_143 : decode prog_8_method_39_code 143 = .ok (.iinc 3 1, 3) := by decide +kernel
theorem d_Y_countFamily_146 : decode prog_8_method_39_code 146 = .ok (.goto (-78), 3) := by decide +kernel
theorem d_Y_countFamily_149 : decode prog_8_method_39_code 149 = .ok (.aload_n 0, 1) := by decide +kernel
theorem d_Y_countFamily_150 : decode prog_8_method_39_code 150 = .ok (.invokevirtual 152, 3) := by decide +kernel
theorem d_Y_countFamily_153 : decode prog_8_method_39_code 153 = .ok (.ifCond .eq 36, 3) := by decide +kernel
theorem d_Y_countFamily_156 : decode prog_8_method_39_code 156 = .ok (.aload_n 0, 1) := by decide +kernel
theorem d_Y_countFamily_157 : decode prog_8_method_39_code 157 = .ok (.aload_n 0, 1) := by decide +kernel
theorem d_Y_countFamily_158 : decode prog_8_method_39_code 158 = .ok (.getfield 57, 3) := by decide +kernel
theorem d_Y_countFamily_161 : decode prog_8_method_39_code 161 = .ok (.invokevirtual 138, 3) := by decide +kernel
theorem d_Y_countFamily_164 : decode prog_8_method_39_code 164 = .ok (.ifCond .eq 25, 3) := by decide +kernel
theorem d_Y_countFamily_167 : decode prog_8_method_39_code 167 = .ok (.aload_n 0, 1) := by decide +kernel
theorem d_Y_countFamily_168 : decode prog_8_method_39_code 168 = .ok (.dup, 1) := by decide +kernel
theorem d_Y_countFamily_169 : decode prog_8_method_39_code 169 = .ok (.getfield 146, 3) := by decide +kernel
theorem d_Y_countFamily_172 : decode prog_8_method_39_code 172 = .ok (.iconst 1, 1) := by decide +kernel
theorem d_Y_countFamily_173 : decode prog_8_method_39_code 173 = .ok (.iadd, 1) := by decide +kernel
theorem d_Y_countFamily_174 : decode prog_8_method_39_code 174 = .ok (.putfield 146, 3) := by decide +kernel
theorem d_Y_countFamily_177 : decode prog_8_method_39_code 177 = .ok (.aload_n 0, 1) := by decide +kernel
theorem d_Y_countFamily_178 : decode prog_8_method_39_code 178 = .ok (.dup, 1) := by decide +kernel
theorem d_Y_countFamily_179 : decode prog_8_method_39_code 179 = .ok (.getfield 149, 3) := by decide +kernel
theorem d_Y_countFamily_182 : decode prog_8_method_39_code 182 = .ok (.iload_n 2, 1) := by decide +kernel
theorem d_Y_countFamily_183 : decode prog_8_method_39_code 183 = .ok (.iconst (-1), 1) := by decide +kernel
theorem d_Y_countFamily_184 : decode prog_8_method_39_code 184 = .ok (.ixor, 1) := by decide +kernel
theorem d_Y_countFamily_185 : decode prog_8_method_39_code 185 = .ok (.iand, 1) := by decide +kernel
theorem d_Y_countFamily_186 : decode prog_8_method_39_code 186 = .ok (.putfield 149, 3) := by decide +kernel
theorem d_Y_countFamily_189 : decode prog_8_method_39_code 189 = .ok (.iinc 2 1, 3) := by decide +kernel
theorem d_Y_countFamily_192 : decode prog_8_method_39_code 192 = .ok (.goto (-154), 3) := by decide +kernel
theorem d_Y_countFamily_195 : decode prog_8_method_39_code 195 = .ok (.return_, 1) := by decide +kernel
theorem d_Y_listArcs_0 : decode prog_8_method_37_code 0 = .ok (.iconst 0, 1) := by decide +kernel
theorem d_Y_listArcs_1 : decode prog_8_method_37_code 1 = .ok (.istore_n 1, 1) := by decide +kernel
theorem d_Y_listArcs_2 : decode prog_8_method_37_code 2 = .ok (.iconst 0, 1) := by decide +kernel
theorem d_Y_listArcs_3 : decode prog_8_method_37_code 3 = .ok (.istore_n 2, 1) := by decide +kernel
theorem d_Y_listArcs_4 : decode prog_8_method_37_code 4 = .ok (.iload_n 2, 1) := by decide +kernel
theorem d_Y_listArcs_5 : decode prog_8_method_37_code 5 = .ok (.aload_n 0, 1) := by decide +kernel
theorem d_Y_listArcs_6 : decode prog_8_method_37_code 6 = .ok (.getfield 63, 3) := by decide +kernel
theorem d_Y_listArcs_9 : decode prog_8_method_37_code 9 = .ok (.if_icmp .ge 51, 3) := by decide +kernel
theorem d_Y_listArcs_12 : decode prog_8_method_37_code 12 = .ok (.iconst 0, 1) := by decide +kernel
theorem d_Y_listArcs_13 : decode prog_8_method_37_code 13 = .ok (.istore_n 3, 1) := by decide +kernel
theorem d_Y_listArcs_14 : decode prog_8_method_37_code 14 = .ok (.iload_n 3, 1) := by decide +kernel
theorem d_Y_listArcs_15 : decode prog_8_method_37_code 15 = .ok (.aload_n 0, 1) := by decide +kernel
theorem d_Y_listArcs_16 : decode prog_8_method_37_code 16 = .ok (.getfield 63, 3) := by decide +kernel
theorem d_Y_listArcs_19 : decode prog_8_method_37_code 19 = .ok (.if_icmp .ge 35, 3) := by decide +kernel
theorem d_Y_listArcs_22 : decode prog_8_method_37_code 22 = .ok (.aload_n 0, 1) := by decide +kernel
theorem d_Y_listArcs_23 : decode prog_8_method_37_code 23 = .ok (.iload_n 3, 1) := by decide +kernel
theorem d_Y_listArcs_24 : decode prog_8_method_37_code 24 = .ok (.iload_n 2, 1) := by decide +kernel
theorem d_Y_listArcs_25 : decode prog_8_method_37_code 25 = .ok (.invokevirtual 92, 3) := by decide +kernel
theorem d_Y_listArcs_28 : decode prog_8_method_37_code 28 = .ok (.ifCond .eq 20, 3) := by decide +kernel
theorem d_Y_listArcs_31 : decode prog_8_method_37_code 31 = .ok (.aload_n 0, 1) := by decide +kernel
theorem d_Y_listArcs_32 : decode prog_8_method_37_code 32 = .ok (.getfield 51, 3) := by decide +kernel
theorem d_Y_listArcs_35 : decode prog_8_method_37_code 35 = .ok (.iload_n 1, 1) := by decide +kernel
theorem d_Y_listArcs_36 : decode prog_8_method_37_code 36 = .ok (.iload_n 3, 1) := by decide +kernel
theorem d_Y_listArcs_37 : decode prog_8_method_37_code 37 = .ok (.iastore, 1) := by decide +kernel
theorem d_Y_listArcs_38 : decode prog_8_method_37_code 38 = .ok (.aload_n 0, 1) := by decide +kernel
theorem d_Y_listArcs_39 : decode prog_8_method_37_code 39 = .ok (.getfield 54, 3) := by decide +kernel
theorem d_Y_listArcs_42 : decode prog_8_method_37_code 42 = .ok (.iload_n 1, 1) := by decide +kernel
theorem d_Y_listArcs_43 : decode prog_8_method_37_code 43 = .ok (.iload_n 2, 1) := by decide +kernel
theorem d_Y_listArcs_44 : decode prog_8_method_37_code 44 = .ok (.iastore, 1) := by decide +kernel
theorem d_Y_listArcs_45 : decode prog_8_method_37_code 45 = .ok (.iinc 1 1, 3) := by decide +kernel
theorem d_Y_listArcs_48 : decode prog_8_method_37_code 48 = .ok (.iinc 3 1, 3) := by decide +kernel
theorem d_Y_listArcs_51 : decode prog_8_method_37_code 51 = .ok (.goto (-37), 3) := by decide +kernel
theorem d_Y_listArcs_54 : decode prog_8_method_37_code 54 = .ok (.iinc 2 1, 3) := by decide +kernel
theorem d_Y_listArcs_57 : decode prog_8_method_37_code 57 = .ok (.goto (-53), 3) := by decide +kernel
theorem d_Y_listArcs_60 : decode prog_8_method_37_code 60 = .ok (.iload_n 1, 1) := by decide +kernel
theorem d_Y_listArcs_61 : decode prog_8_method_37_code 61 = .ok (.ireturn, 1) := by decide +kernel
theorem d_Y_hasNoRing_0 : decode prog_8_method_38_code 0 = .ok (.iconst 1, 1) := by decide +kernel
theorem d_Y_hasNoRing_1 : decode prog_8_method_38_code 1 = .ok (.aload_n 0, 1) := by decide +kernel
theorem d_Y_hasNoRing_2 : decode prog_8_method_38_code 2 = .ok (.getfield 63, 3) := by decide +kernel
theorem d_Y_hasNoRing_5 : decode prog_8_method_38_code 5 = .ok (.ishl, 1) := by decide +kernel
theorem d_Y_hasNoRing_6 : decode prog_8_method_38_code 6 = .ok (.iconst 1, 1) := by decide +kernel
theorem d_Y_hasNoRing_7 : decode prog_8_method_38_code 7 = .ok (.isub, 1) := by decide +kernel
theorem d_Y_hasNoRing_8 : decode prog_8_method_38_code 8 = .ok (.istore_n 1, 1) := by decide +kernel
theorem d_Y_hasNoRing_9 : decode prog_8_method_38_code 9 = .ok (.iconst 0, 1) := by decide +kernel
theorem d_Y_hasNoRing_10 : decode prog_8_method_38_code 10 = .ok (.istore_n 2, 1) := by decide +kernel
theorem d_Y_hasNoRing_11 : decode prog_8_method_38_code 11 = .ok (.iload_n 1, 1) := by decide +kernel
theorem d_Y_hasNoRing_12 : decode prog_8_method_38_code 12 = .ok (.iload_n 2, 1) := by decide +kernel
theorem d_Y_hasNoRing_13 : decode prog_8_method_38_code 13 = .ok (.if_icmp .eq 47, 3) := by decide +kernel
theorem d_Y_hasNoRing_16 : decode prog_8_method_38_code 16 = .ok (.iload_n 1, 1) := by decide +kernel
theorem d_Y_hasNoRing_17 : decode prog_8_method_38_code 17 = .ok (.istore_n 2, 1) := by decide +kernel
theorem d_Y_hasNoRing_18 : decode prog_8_method_38_code 18 = .ok (.iconst 0, 1) := by decide +kernel
theorem d_Y_hasNoRing_19 : decode prog_8_method_38_code 19 = .ok (.istore_n 3, 1) := by decide +kernel
theorem d_Y_hasNoRing_20 : decode prog_8_method_38_code 20 = .ok (.iload_n 3, 1) := by decide +kernel
theorem d_Y_hasNoRing_21 : decode prog_8_method_38_code 21 = .ok (.aload_n 0, 1) := by decide +kernel
theorem d_Y_hasNoRing_22 : decode prog_8_method_38_code 22 = .ok (.getfield 63, 3) := by decide +kernel
theorem d_Y_hasNoRing_25 : decode prog_8_method_38_code 25 = .ok (.if_icmp .ge 32, 3) := by decide +kernel
theorem d_Y_hasNoRing_28 : decode prog_8_method_38_code 28 = .ok (.iload_n 1, 1) := by decide +kernel
theorem d_Y_hasNoRing_29 : decode prog_8_method_38_code 29 = .ok (.aload_n 0, 1) := by decide +kernel
theorem d_Y_hasNoRing_30 : decode prog_8_method_38_code 30 = .ok (.getfield 57, 3) := by decide +kernel
theorem d_Y_hasNoRing_33 : decode prog_8_method_38_code 33 = .ok (.iload_n 3, 1) := by decide +kernel
theorem d_Y_hasNoRing_34 : decode prog_8_method_38_code 34 = .ok (.iaload, 1) := by decide +kernel
theorem d_Y_hasNoRing_35 : decode prog_8_method_38_code 35 = .ok (.iload_n 1, 1) := by decide +kernel
theorem d_Y_hasNoRing_36 : decode prog_8_method_38_code 36 = .ok (.iand, 1) := by decide +kernel
theorem d_Y_hasNoRing_37 : decode prog_8_method_38_code 37 = .ok (.ifCond .ne 11, 3) := by decide +kernel
theorem d_Y_hasNoRing_40 : decode prog_8_method_38_code 40 = .ok (.iconst 1, 1) := by decide +kernel
theorem d_Y_hasNoRing_41 : decode prog_8_method_38_code 41 = .ok (.iload_n 3, 1) := by decide +kernel
theorem d_Y_hasNoRing_42 : decode prog_8_method_38_code 42 = .ok (.ishl, 1) := by decide +kernel
theorem d_Y_hasNoRing_43 : decode prog_8_method_38_code 43 = .ok (.iconst (-1), 1) := by decide +kernel
theorem d_Y_hasNoRing_44 : decode prog_8_method_38_code 44 = .ok (.ixor, 1) := by decide +kernel
theorem d_Y_hasNoRing_45 : decode prog_8_method_38_code 45 = .ok (.goto 4, 3) := by decide +kernel
theorem d_Y_hasNoRing_48 : decode prog_8_method_38_code 48 = .ok (.iconst (-1), 1) := by decide +kernel
theorem d_Y_hasNoRing_49 : decode prog_8_method_38_code 49 = .ok (.iand, 1) := by decide +kernel
theorem d_Y_hasNoRing_50 : decode prog_8_method_38_code 50 = .ok (.istore_n 1, 1) := by decide +kernel
theorem d_Y_hasNoRing_51 : decode prog_8_method_38_code 51 = .ok (.iinc 3 1, 3) := by decide +kernel
theorem d_Y_hasNoRing_54 : decode prog_8_method_38_code 54 = .ok (.goto (-34), 3) := by decide +kernel
theorem d_Y_hasNoRing_57 : decode prog_8_method_38_code 57 = .ok (.goto (-46), 3) := by decide +kernel
theorem d_Y_hasNoRing_60 : decode prog_8_method_38_code 60 = .ok (.iload_n 1, 1) := by decide +kernel
theorem d_Y_hasNoRing_61 : decode prog_8_method_38_code 61 = .ok (.ifCond .ne 7, 3) := by decide +kernel
theorem d_Y_hasNoRing_64 : decode prog_8_method_38_code 64 = .ok (.iconst 1, 1) := by decide +kernel
theorem d_Y_hasNoRing_65 : decode prog_8_method_38_code 65 = .ok (.goto 4, 3) := by decide +kernel
theorem d_Y_hasNoRing_68 : decode prog_8_method_38_code 68 = .ok (.iconst 0, 1) := by decide +kernel
theorem d_Y_hasNoRing_69 : decode prog_8_method_38_code 69 = .ok (.ireturn, 1) := by decide +kernel
theorem d_Y_family_0 : decode prog_8_method_41_code 0 = .ok (.aload_n 0, 1) := by decide +kernel
theorem d_Y_family_1 : decode prog_8_method_41_code 1 = .ok (.invokevirtual 156, 3) := by decide +kernel
theorem d_Y_family_4 : decode prog_8_method_41_code 4 = .ok (.aload_n 0, 1) := by decide +kernel
theorem d_Y_family_5 : decode prog_8_method_41_code 5 = .ok (.getfield 146, 3) := by decide +kernel
theorem d_Y_family_8 : decode prog_8_method_41_code 8 = .ok (.ireturn, 1) := by decide +kernel
theorem d_Y_count_0 : decode prog_8_method_42_code 0 = .ok (.iload_n 1, 1) := by decide +kernel
theorem d_Y_count_1 : decode prog_8_method_42_code 1 = .ok (.ifCond .ne 8, 3) := by decide +kernel
theorem d_Y_count_4 : decode prog_8_method_42_code 4 = .ok (.aload_n 0, 1) := by decide +kernel
theorem d_Y_count_5 : decode prog_8_method_42_code 5 = .ok (.getfield 63, 3) := by decide +kernel
theorem d_Y_count_8 : decode prog_8_method_42_code 8 = .ok (.ireturn, 1) := by decide +kernel
theorem d_Y_count_9 : decode prog_8_method_42_code 9 = .ok (.iload_n 1, 1) := by decide +kernel
theorem d_Y_count_10 : decode prog_8_method_42_code 10 = .ok (.iconst 1, 1) := by decide +kernel
theorem d_Y_count_11 : decode prog_8_method_42_code 11 = .ok (.if_icmp .ne 8, 3) := by decide +kernel
theorem d_Y_count_14 : decode prog_8_method_42_code 14 = .ok (.aload_n 0, 1) := by decide +kernel
theorem d_Y_count_15 : decode prog_8_method_42_code 15 = .ok (.getfield 67, 3) := by decide +kernel
theorem d_Y_count_18 : decode prog_8_method_42_code 18 = .ok (.ireturn, 1) := by decide +kernel
theorem d_Y_count_19 : decode prog_8_method_42_code 19 = .ok (.iload_n 1, 1) := by decide +kernel
theorem d_Y_count_20 : decode prog_8_method_42_code 20 = .ok (.iconst 2, 1) := by decide +kernel
theorem d_Y_count_21 : decode prog_8_method_42_code 21 = .ok (.if_icmp .ne 15, 3) := by decide +kernel
theorem d_Y_count_24 : decode prog_8_method_42_code 24 = .ok (.aload_n 0, 1) := by decide +kernel
theorem d_Y_count_25 : decode prog_8_method_42_code 25 = .ok (.invokevirtual 156, 3) := by decide +kernel
theorem d_Y_count_28 : decode prog_8_method_42_code 28 = .ok (.aload_n 0, 1) := by decide +kernel
theorem d_Y_count_29 : decode prog_8_method_42_code 29 = .ok (.getfield 149, 3) := by decide +kernel
theorem d_Y_count_32 : decode prog_8_method_42_code 32 = .ok (.invokestatic 96, 3) := by decide +kernel
theorem d_Y_count_35 : decode prog_8_method_42_code 35 = .ok (.ireturn, 1) := by decide +kernel
theorem d_Y_count_36 : decode prog_8_method_42_code 36 = .ok (.iload_n 1, 1) := by decide +kernel
theorem d_Y_count_37 : decode prog_8_method_42_code 37 = .ok (.iconst 3, 1) := by decide +kernel
theorem d_Y_count_38 : decode prog_8_method_42_code 38 = .ok (.if_icmp .ne 41, 3) := by decide +kernel
theorem d_Y_count_41 : decode prog_8_method_42_code 41 = .ok (.iconst 0, 1) := by decide +kernel
theorem d_Y_count_42 : decode prog_8_method_42_code 42 = .ok (.istore_n 2, 1) := by decide +kernel
theorem d_Y_count_43 : decode prog_8_method_42_code 43 = .ok (.iconst 0, 1) := by decide +kernel
theorem d_Y_count_44 : decode prog_8_method_42_code 44 = .ok (.istore_n 3, 1) := by decide +kernel
theorem d_Y_count_45 : decode prog_8_method_42_code 45 = .ok (.iload_n 3, 1) := by decide +kernel
theorem d_Y_count_46 : decode prog_8_method_42_code 46 = .ok (.aload_n 0, 1) := by decide +kernel
theorem d_Y_count_47 : decode prog_8_method_42_code 47 = .ok (.getfield 63, 3) := by decide +kernel
theorem d_Y_count_50 : decode prog_8_method_42_code 50 = .ok (.if_icmp .ge 27, 3) := by decide +kernel
theorem d_Y_count_53 : decode prog_8_method_42_code 53 = .ok (.iload_n 2, 1) := by decide +kernel
theorem d_Y_count_54 : decode prog_8_method_42_code 54 = .ok (.aload_n 0, 1) := by decide +kernel
theorem d_Y_count_55 : decode prog_8_method_42_code 55 = .ok (.getfield 13, 3) := by decide +kernel
theorem d_Y_count_58 : decode prog_8_method_42_code 58 = .ok (.iload_n 3, 1) := by decide +kernel
theorem d_Y_count_59 : decode prog_8_method_42_code 59 = .ok (.iaload, 1) := by decide +kernel
theorem d_Y_count_60 : decode prog_8_method_42_code 60 = .ok (.iconst (-1), 1) := by decide +kernel
theorem d_Y_count_61 : decode prog_8_method_42_code 61 = .ok (.if_icmp .eq 7, 3) := by decide +kernel
theorem d_Y_count_64 : decode prog_8_method_42_code 64 = .ok (.iconst 1, 1) := by decide +kernel
theorem d_Y_count_65 : decode prog_8_method_42_code 65 = .ok (.goto 4, 3) := by decide +kernel
theorem d_Y_count_68 : decode prog_8_method_42_code 68 = .ok (.iconst 0, 1) := by decide +kernel
theorem d_Y_count_69 : decode prog_8_method_42_code 69 = .ok (.iadd, 1) := by decide +kernel
theorem d_Y_count_70 : decode prog_8_method_42_code 70 = .ok (.istore_n 2, 1) := by decide +kernel
theorem d_Y_count_71 : decode prog_8_method_42_code 71 = .ok (.iinc 3 1, 3) := by decide +kernel
theorem d_Y_count_74 : decode prog_8_method_42_code 74 = .ok (.goto (-29), 3) := by decide +kernel
theorem d_Y_count_77 : decode prog_8_method_42_code 77 = .ok (.iload_n 2, 1) := by decide +kernel
theorem d_Y_count_78 : decode prog_8_method_42_code 78 = .ok (.ireturn, 1) := by decide +kernel
theorem d_Y_count_79 : decode prog_8_method_42_code 79 = .ok (.bipush (-2), 2) := by decide +kernel
theorem d_Y_count_81 : decode prog_8_method_42_code 81 = .ok (.ireturn, 1) := by decide +kernel
theorem d_L_law_0 : decode code 0 = .ok (.new 7, 3) := by decide +kernel
theorem d_L_law_3 : decode code 3 = .ok (.dup, 1) := by decide +kernel
theorem d_L_law_4 : decode code 4 = .ok (.invokespecial 9, 3) := by decide +kernel
theorem d_L_law_7 : decode code 7 = .ok (.astore_n 1, 1) := by decide +kernel
theorem d_L_law_8 : decode code 8 = .ok (.new 10, 3) := by decide +kernel
theorem d_L_law_11 : decode code 11 = .ok (.dup, 1) := by decide +kernel
theorem d_L_law_12 : decode code 12 = .ok (.invokespecial 12, 3) := by decide +kernel
theorem d_L_law_15 : decode code 15 = .ok (.astore_n 2, 1) := by decide +kernel
theorem d_L_law_16 : decode code 16 = .ok (.iconst 0, 1) := by decide +kernel
theorem d_L_law_17 : decode code 17 = .ok (.istore_n 3, 1) := by decide +kernel
theorem d_L_law_18 : decode code 18 = .ok (.iload_n 3, 1) := by decide +kernel
theorem d_L_law_19 : decode code 19 = .ok (.aload_n 0, 1) := by decide +kernel
theorem d_L_law_20 : decode code 20 = .ok (.arraylength, 1) := by decide +kernel
theorem d_L_law_21 : decode code 21 = .ok (.iconst 4, 1) := by decide +kernel
theorem d_L_law_22 : decode code 22 = .ok (.isub, 1) := by decide +kernel
theorem d_L_law_23 : decode code 23 = .ok (.if_icmp .gt 749, 3) := by decide +kernel
theorem d_L_law_26 : decode code 26 = .ok (.aload_n 0, 1) := by decide +kernel
theorem d_L_law_27 : decode code 27 = .ok (.iload_n 3, 1) := by decide +kernel
theorem d_L_law_28 : decode code 28 = .ok (.iaload, 1) := by decide +kernel
theorem d_L_law_29 : decode code 29 = .ok (.bipush 31, 2) := by decide +kernel
theorem d_L_law_31 : decode code 31 = .ok (.iand, 1) := by decide +kernel
theorem d_L_law_32 : decode code 32 = .ok (.tableswitch 734 0 20 #[100, 113, 126, 159, 192, 235, 268, 301, 334, 377, 420, 454, 497, 540, 563, 596, 639, 652, 665, 698, 711], 100) := by decide +kernel
theorem d_L_law_132 : decode code 132 = .ok (.aload_n 1, 1) := by decide +kernel
theorem d_L_law_133 : decode code 133 = .ok (.invokevirtual 13, 3) := by decide +kernel
theorem d_L_law_136 : decode code 136 = .ok (.aload_n 2, 1) := by decide +kernel
theorem d_L_law_137 : decode code 137 = .ok (.invokevirtual 17, 3) := by decide +kernel
theorem d_L_law_140 : decode code 140 = .ok (.if_icmp .eq 626, 3) := by decide +kernel
theorem d_L_law_143 : decode code 143 = .ok (.iconst 0, 1) := by decide +kernel
theorem d_L_law_144 : decode code 144 = .ok (.ireturn, 1) := by decide +kernel
theorem d_L_law_145 : decode code 145 = .ok (.aload_n 1, 1) := by decide +kernel
theorem d_L_law_146 : decode code 146 = .ok (.invokevirtual 18, 3) := by decide +kernel
theorem d_L_law_149 : decode code 149 = .ok (.aload_n 2, 1) := by decide +kernel
theorem d_L_law_150 : decode code 150 = .ok (.invokevirtual 21, 3) := by decide +kernel
theorem d_L_law_153 : decode code 153 = .ok (.if_icmp .eq 613, 3) := by decide +kernel
theorem d_L_law_156 : decode code 156 = .ok (.iconst 0, 1) := by decide +kernel
theorem d_L_law_157 : decode code 157 = .ok (.ireturn, 1) := by decide +kernel
theorem d_L_law_158 : decode code 158 = .ok (.aload_n 1, 1) := by decide +kernel
theorem d_L_law_159 : decode code 159 = .ok (.aload_n 0, 1) := by decide +kernel
theorem d_L_law_160 : decode code 160 = .ok (.iload_n 3, 1) := by decide +kernel
theorem d_L_law_161 : decode code 161 = .ok (.iconst 1, 1) := by decide +kernel
theorem d_L_law_162 : decode code 162 = .ok (.iadd, 1) := by decide +kernel
theorem d_L_law_163 : decode code 163 = .ok (.iaload, 1) := by decide +kernel
theorem d_L_law_164 : decode code 164 = .ok (.aload_n 0, 1) := by decide +kernel
theorem d_L_law_165 : decode code 165 = .ok (.iload_n 3, 1) := by decide +kernel
theorem d_L_law_166 : decode code 166 = .ok (.iconst 2, 1) := by decide +kernel
theorem d_L_law_167 : decode code 167 = .ok (.iadd, 1) := by decide +kernel
theorem d_L_law_168 : decode code 168 = .ok (.iaload, 1) := by decide +kernel
theorem d_L_law_169 : decode code 169 = .ok (.invokevirtual 22, 3) := by decide +kernel
theorem d_L_law_172 : decode code 172 = .ok (.aload_n 2, 1) := by decide +kernel
theorem d_L_law_173 : decode code 173 = .ok (.aload_n 0, 1) := by decide +kernel
theorem d_L_law_174 : decode code 174 = .ok (.iload_n 3, 1) := by decide +kernel
theorem d_L_law_175 : decode code 175 = .ok (.iconst 1, 1) := by decide +kernel
theorem d_L_law_176 : decode code 176 = .ok (.iadd, 1) := by decide +kernel
theorem d_L_law_177 : decode code 177 = .ok (.iaload, 1) := by decide +kernel
theorem d_L_law_178 : decode code 178 = .ok (.aload_n 0, 1) := by decide +kernel
theorem d_L_law_179 : decode code 179 = .ok (.iload_n 3, 1) := by decide +kernel
theorem d_L_law_180 : decode code 180 = .ok (.iconst 2, 1) := by decide +kernel
theorem d_L_law_181 : decode code 181 = .ok (.iadd, 1) := by decide +kernel
theorem d_L_law_182 : decode code 182 = .ok (.iaload, 1) := by decide +kernel
theorem d_L_law_183 : decode code 183 = .ok (.invokevirtual 26, 3) := by decide +kernel
theorem d_L_law_186 : decode code 186 = .ok (.if_icmp .eq 580, 3) := by decide +kernel
theorem d_L_law_189 : decode code 189 = .ok (.iconst 0, 1) := by decide +kernel
theorem d_L_law_190 : decode code 190 = .ok (.ireturn, 1) := by decide +kernel
theorem d_L_law_191 : decode code 191 = .ok (.aload_n 1, 1) := by decide +kernel
theorem d_L_law_192 : decode code 192 = .ok (.aload_n 0, 1) := by decide +kernel
theorem d_L_law_193 : decode code 193 = .ok (.iload_n 3, 1) := by decide +kernel
theorem d_L_law_194 : decode code 194 = .ok (.iconst 1, 1) := by decide +kernel
theorem d_L_law_195 : decode code 195 = .ok (.iadd, 1) := by decide +kernel
theorem d_L_law_196 : decode code 196 = .ok (.iaload, 1) := by decide +kernel
theorem d_L_law_197 : decode code 197 = .ok (.aload_n 0, 1) := by decide +kernel
theorem d_L_law_198 : decode code 198 = .ok (.iload_n 3, 1) := by decide +kernel
theorem d_L_law_199 : decode code 199 = .ok (.iconst 2, 1) := by decide +kernel
theorem d_L_law_200 : decode code 200 = .ok (.iadd, 1) := by decide +kernel
theorem d_L_law_201 : decode code 201 = .ok (.iaload, 1) := by decide +kernel
theorem d_L_law_202 : decode code 202 = .ok (.invokevirtual 27, 3) := by decide +kernel
theorem d_L_law_205 : decode code 205 = .ok (.aload_n 2, 1) := by decide +kernel
theorem d_L_law_206 : decode code 206 = .ok (.aload_n 0, 1) := by decide +kernel
theorem d_L_law_207 : decode code 207 = .ok (.iload_n 3, 1) := by decide +kernel
theorem d_L_law_208 : decode code 208 = .ok (.iconst 1, 1) := by decide +kernel
theorem d_L_law_209 : decode code 209 = .ok (.iadd, 1) := by decide +kernel
theorem d_L_law_210 : decode code 210 = .ok (.iaload, 1) := by decide +kernel
theorem d_L_law_211 : decode code 211 = .ok (.aload_n 0, 1) := by decide +kernel
theorem d_L_law_212 : decode code 212 = .ok (.iload_n 3, 1) := by decide +kernel
theorem d_L_law_213 : decode code 213 = .ok (.iconst 2, 1) := by decide +kernel
theorem d_L_law_214 : decode code 214 = .ok (.iadd, 1) := by decide +kernel
theorem d_L_law_215 : decode code 215 = .ok (.iaload, 1) := by decide +kernel
theorem d_L_law_216 : decode code 216 = .ok (.invokevirtual 30, 3) := by decide +kernel
theorem d_L_law_219 : decode code 219 = .ok (.if_icmp .eq 547, 3) := by decide +kernel
theorem d_L_law_222 : decode code 222 = .ok (.iconst 0, 1) := by decide +kernel
theorem d_L_law_223 : decode code 223 = .ok (.ireturn, 1) := by decide +kernel
theorem d_L_law_224 : decode code 224 = .ok (.aload_n 1, 1) := by decide +kernel
theorem d_L_law_225 : decode code 225 = .ok (.aload_n 0, 1) := by decide +kernel
theorem d_L_law_226 : decode code 226 = .ok (.iload_n 3, 1) := by decide +kernel
theorem d_L_law_227 : decode code 227 = .ok (.iconst 1, 1) := by decide +kernel
theorem d_L_law_228 : decode code 228 = .ok (.iadd, 1) := by decide +kernel
theorem d_L_law_229 : decode code 229 = .ok (.iaload, 1) := by decide +kernel
theorem d_L_law_230 : decode code 230 = .ok (.aload_n 0, 1) := by decide +kernel
theorem d_L_law_231 : decode code 231 = .ok (.iload_n 3, 1) := by decide +kernel
theorem d_L_law_232 : decode code 232 = .ok (.iconst 2, 1) := by decide +kernel
theorem d_L_law_233 : decode code 233 = .ok (.iadd, 1) := by decide +kernel
theorem d_L_law_234 : decode code 234 = .ok (.iaload, 1) := by decide +kernel
theorem d_L_law_235 : decode code 235 = .ok (.aload_n 0, 1) := by decide +kernel
theorem d_L_law_236 : decode code 236 = .ok (.iload_n 3, 1) := by decide +kernel
theorem d_L_law_237 : decode code 237 = .ok (.iconst 3, 1) := by decide +kernel
theorem d_L_law_238 : decode code 238 = .ok (.iadd, 1) := by decide +kernel
theorem d_L_law_239 : decode code 239 = .ok (.iaload, 1) := by decide +kernel
theorem d_L_law_240 : decode code 240 = .ok (.invokevirtual 31, 3) := by decide +kernel
theorem d_L_law_243 : decode code 243 = .ok (.aload_n 2, 1) := by decide +kernel
theorem d_L_law_244 : decode code 244 = .ok (.aload_n 0, 1) := by decide +kernel
theorem d_L_law_245 : decode code 245 = .ok (.iload_n 3, 1) := by decide +kernel
theorem d_L_law_246 : decode code 246 = .ok (.iconst 1, 1) := by decide +kernel
theorem d_L_law_247 : decode code 247 = .ok (.iadd, 1) := by decide +kernel
theorem d_L_law_248 : decode code 248 = .ok (.iaload, 1) := by decide +kernel
theorem d_L_law_249 : decode code 249 = .ok (.aload_n 0, 1) := by decide +kernel
theorem d_L_law_250 : decode code 250 = .ok (.iload_n 3, 1) := by decide +kernel
theorem d_L_law_251 : decode code 251 = .ok (.iconst 2, 1) := by decide +kernel
theorem d_L_law_252 : decode code 252 = .ok (.iadd, 1) := by decide +kernel
theorem d_L_law_253 : decode code 253 = .ok (.iaload, 1) := by decide +kernel
theorem d_L_law_254 : decode code 254 = .ok (.aload_n 0, 1) := by decide +kernel
theorem d_L_law_255 : decode code 255 = .ok (.iload_n 3, 1) := by decide +kernel
theorem d_L_law_256 : decode code 256 = .ok (.iconst 3, 1) := by decide +kernel
theorem d_L_law_257 : decode code 257 = .ok (.iadd, 1) := by decide +kernel
theorem d_L_law_258 : decode code 258 = .ok (.iaload, 1) := by decide +kernel
theorem d_L_law_259 : decode code 259 = .ok (.invokevirtual 35, 3) := by decide +kernel
theorem d_L_law_262 : decode code 262 = .ok (.if_icmp .eq 504, 3) := by decide +kernel
theorem d_L_law_265 : decode code 265 = .ok (.iconst 0, 1) := by decide +kernel
theorem d_L_law_266 : decode code 266 = .ok (.ireturn, 1) := by decide +kernel
theorem d_L_law_267 : decode code 267 = .ok (.aload_n 1, 1) := by decide +kernel
theorem d_L_law_268 : decode code 268 = .ok (.aload_n 0, 1) := by decide +kernel
theorem d_L_law_269 : decode code 269 = .ok (.iload_n 3, 1) := by decide +kernel
theorem d_L_law_270 : decode code 270 = .ok (.iconst 1, 1) := by decide +kernel
theorem d_L_law_271 : decode code 271 = .ok (.iadd, 1) := by decide +kernel
theorem d_L_law_272 : decode code 272 = .ok (.iaload, 1) := by decide +kernel
theorem d_L_law_273 : decode code 273 = .ok (.aload_n 0, 1) := by decide +kernel
theorem d_L_law_274 : decode code 274 = .ok (.iload_n 3, 1) := by decide +kernel
theorem d_L_law_275 : decode code 275 = .ok (.iconst 2, 1) := by decide +kernel
theorem d_L_law_276 : decode code 276 = .ok (.iadd, 1) := by decide +kernel
theorem d_L_law_277 : decode code 277 = .ok (.iaload, 1) := by decide +kernel
theorem d_L_law_278 : decode code 278 = .ok (.invokevirtual 36, 3) := by decide +kernel
theorem d_L_law_281 : decode code 281 = .ok (.aload_n 2, 1) := by decide +kernel
theorem d_L_law_282 : decode code 282 = .ok (.aload_n 0, 1) := by decide +kernel
theorem d_L_law_283 : decode code 283 = .ok (.iload_n 3, 1) := by decide +kernel
theorem d_L_law_284 : decode code 284 = .ok (.iconst 1, 1) := by decide +kernel
theorem d_L_law_285 : decode code 285 = .ok (.iadd, 1) := by decide +kernel
theorem d_L_law_286 : decode code 286 = .ok (.iaload, 1) := by decide +kernel
theorem d_L_law_287 : decode code 287 = .ok (.aload_n 0, 1) := by decide +kernel
theorem d_L_law_288 : decode code 288 = .ok (.iload_n 3, 1) := by decide +kernel
theorem d_L_law_289 : decode code 289 = .ok (.iconst 2, 1) := by decide +kernel
theorem d_L_law_290 : decode code 290 = .ok (.iadd, 1) := by decide +kernel
theorem d_L_law_291 : decode code 291 = .ok (.iaload, 1) := by decide +kernel
theorem d_L_law_292 : decode code 292 = .ok (.invokevirtual 39, 3) := by decide +kernel
theorem d_L_law_295 : decode code 295 = .ok (.if_icmp .eq 471, 3) := by decide +kernel
theorem d_L_law_298 : decode code 298 = .ok (.iconst 0, 1) := by decide +kernel
theorem d_L_law_299 : decode code 299 = .ok (.ireturn, 1) := by decide +kernel
theorem d_L_law_300 : decode code 300 = .ok (.aload_n 1, 1) := by decide +kernel
theorem d_L_law_301 : decode code 301 = .ok (.aload_n 0, 1) := by decide +kernel
theorem d_L_law_302 : decode code 302 = .ok (.iload_n 3, 1) := by decide +kernel
theorem d_L_law_303 : decode code 303 = .ok (.iconst 1, 1) := by decide +kernel
theorem d_L_law_304 : decode code 304 = .ok (.iadd, 1) := by decide +kernel
theorem d_L_law_305 : decode code 305 = .ok (.iaload, 1) := by decide +kernel
theorem d_L_law_306 : decode code 306 = .ok (.aload_n 0, 1) := by decide +kernel
theorem d_L_law_307 : decode code 307 = .ok (.iload_n 3, 1) := by decide +kernel
theorem d_L_law_308 : decode code 308 = .ok (.iconst 2, 1) := by decide +kernel
theorem d_L_law_309 : decode code 309 = .ok (.iadd, 1) := by decide +kernel
theorem d_L_law_310 : decode code 310 = .ok (.iaload, 1) := by decide +kernel
theorem d_L_law_311 : decode code 311 = .ok (.invokevirtual 40, 3) := by decide +kernel
theorem d_L_law_314 : decode code 314 = .ok (.aload_n 2, 1) := by decide +kernel
theorem d_L_law_315 : decode code 315 = .ok (.aload_n 0, 1) := by decide +kernel
theorem d_L_law_316 : decode code 316 = .ok (.iload_n 3, 1) := by decide +kernel
theorem d_L_law_317 : decode code 317 = .ok (.iconst 1, 1) := by decide +kernel
theorem d_L_law_318 : decode code 318 = .ok (.iadd, 1) := by decide +kernel
theorem d_L_law_319 : decode code 319 = .ok (.iaload, 1) := by decide +kernel
theorem d_L_law_320 : decode code 320 = .ok (.aload_n 0, 1) := by decide +kernel
theorem d_L_law_321 : decode code 321 = .ok (.iload_n 3, 1) := by decide +kernel
theorem d_L_law_322 : decode code 322 = .ok (.iconst 2, 1) := by decide +kernel
theorem d_L_law_323 : decode code 323 = .ok (.iadd, 1) := by decide +kernel
theorem d_L_law_324 : decode code 324 = .ok (.iaload, 1) := by decide +kernel
theorem d_L_law_325 : decode code 325 = .ok (.invokevirtual 43, 3) := by decide +kernel
theorem d_L_law_328 : decode code 328 = .ok (.if_icmp .eq 438, 3) := by decide +kernel
theorem d_L_law_331 : decode code 331 = .ok (.iconst 0, 1) := by decide +kernel
theorem d_L_law_332 : decode code 332 = .ok (.ireturn, 1) := by decide +kernel
theorem d_L_law_333 : decode code 333 = .ok (.aload_n 1, 1) := by decide +kernel
theorem d_L_law_334 : decode code 334 = .ok (.aload_n 0, 1) := by decide +kernel
theorem d_L_law_335 : decode code 335 = .ok (.iload_n 3, 1) := by decide +kernel
theorem d_L_law_336 : decode code 336 = .ok (.iconst 1, 1) := by decide +kernel
theorem d_L_law_337 : decode code 337 = .ok (.iadd, 1) := by decide +kernel
theorem d_L_law_338 : decode code 338 = .ok (.iaload, 1) := by decide +kernel
theorem d_L_law_339 : decode code 339 = .ok (.aload_n 0, 1) := by decide +kernel
theorem d_L_law_340 : decode code 340 = .ok (.iload_n 3, 1) := by decide +kernel
theorem d_L_law_341 : decode code 341 = .ok (.iconst 2, 1) := by decide +kernel
theorem d_L_law_342 : decode code 342 = .ok (.iadd, 1) := by decide +kernel
theorem d_L_law_343 : decode code 343 = .ok (.iaload, 1) := by decide +kernel
theorem d_L_law_344 : decode code 344 = .ok (.invokevirtual 44, 3) := by decide +kernel
theorem d_L_law_347 : decode code 347 = .ok (.aload_n 2, 1) := by decide +kernel
theorem d_L_law_348 : decode code 348 = .ok (.aload_n 0, 1) := by decide +kernel
theorem d_L_law_349 : decode code 349 = .ok (.iload_n 3, 1) := by decide +kernel
theorem d_L_law_350 : decode code 350 = .ok (.iconst 1, 1) := by decide +kernel
theorem d_L_law_351 : decode code 351 = .ok (.iadd, 1) := by decide +kernel
theorem d_L_law_352 : decode code 352 = .ok (.iaload, 1) := by decide +kernel
theorem d_L_law_353 : decode code 353 = .ok (.aload_n 0, 1) := by decide +kernel
theorem d_L_law_354 : decode code 354 = .ok (.iload_n 3, 1) := by decide +kernel
theorem d_L_law_355 : decode code 355 = .ok (.iconst 2, 1) := by decide +kernel
theorem d_L_law_356 : decode code 356 = .ok (.iadd, 1) := by decide +kernel
theorem d_L_law_357 : decode code 357 = .ok (.iaload, 1) := by decide +kernel
theorem d_L_law_358 : decode code 358 = .ok (.invokevirtual 47, 3) := by decide +kernel
theorem d_L_law_361 : decode code 361 = .ok (.if_icmp .eq 405, 3) := by decide +kernel
theorem d_L_law_364 : decode code 364 = .ok (.iconst 0, 1) := by decide +kernel
theorem d_L_law_365 : decode code 365 = .ok (.ireturn, 1) := by decide +kernel
theorem d_L_law_366 : decode code 366 = .ok (.aload_n 1, 1) := by decide +kernel
theorem d_L_law_367 : decode code 367 = .ok (.aload_n 0, 1) := by decide +kernel
theorem d_L_law_368 : decode code 368 = .ok (.iload_n 3, 1) := by decide +kernel
theorem d_L_law_369 : decode code 369 = .ok (.iconst 1, 1) := by decide +kernel
theorem d_L_law_370 : decode code 370 = .ok (.iadd, 1) := by decide +kernel
theorem d_L_law_371 : decode code 371 = .ok (.iaload, 1) := by decide +kernel
theorem d_L_law_372 : decode code 372 = .ok (.aload_n 0, 1) := by decide +kernel
theorem d_L_law_373 : decode code 373 = .ok (.iload_n 3, 1) := by decide +kernel
theorem d_L_law_374 : decode code 374 = .ok (.iconst 2, 1) := by decide +kernel
theorem d_L_law_375 : decode code 375 = .ok (.iadd, 1) := by decide +kernel
theorem d_L_law_376 : decode code 376 = .ok (.iaload, 1) := by decide +kernel
theorem d_L_law_377 : decode code 377 = .ok (.aload_n 0, 1) := by decide +kernel
theorem d_L_law_378 : decode code 378 = .ok (.iload_n 3, 1) := by decide +kernel
theorem d_L_law_379 : decode code 379 = .ok (.iconst 3, 1) := by decide +kernel
theorem d_L_law_380 : decode code 380 = .ok (.iadd, 1) := by decide +kernel
theorem d_L_law_381 : decode code 381 = .ok (.iaload, 1) := by decide +kernel
theorem d_L_law_382 : decode code 382 = .ok (.invokevirtual 48, 3) := by decide +kernel
theorem d_L_law_385 : decode code 385 = .ok (.aload_n 2, 1) := by decide +kernel
theorem d_L_law_386 : decode code 386 = .ok (.aload_n 0, 1) := by decide +kernel
theorem d_L_law_387 : decode code 387 = .ok (.iload_n 3, 1) := by decide +kernel
theorem d_L_law_388 : decode code 388 = .ok (.iconst 1, 1) := by decide +kernel
theorem d_L_law_389 : decode code 389 = .ok (.iadd, 1) := by decide +kernel
theorem d_L_law_390 : decode code 390 = .ok (.iaload, 1) := by decide +kernel
theorem d_L_law_391 : decode code 391 = .ok (.aload_n 0, 1) := by decide +kernel
theorem d_L_law_392 : decode code 392 = .ok (.iload_n 3, 1) := by decide +kernel
theorem d_L_law_393 : decode code 393 = .ok (.iconst 2, 1) := by decide +kernel
theorem d_L_law_394 : decode code 394 = .ok (.iadd, 1) := by decide +kernel
theorem d_L_law_395 : decode code 395 = .ok (.iaload, 1) := by decide +kernel
theorem d_L_law_396 : decode code 396 = .ok (.aload_n 0, 1) := by decide +kernel
theorem d_L_law_397 : decode code 397 = .ok (.iload_n 3, 1) := by decide +kernel
theorem d_L_law_398 : decode code 398 = .ok (.iconst 3, 1) := by decide +kernel
theorem d_L_law_399 : decode code 399 = .ok (.iadd, 1) := by decide +kernel
theorem d_L_law_400 : decode code 400 = .ok (.iaload, 1) := by decide +kernel
theorem d_L_law_401 : decode code 401 = .ok (.invokevirtual 51, 3) := by decide +kernel
theorem d_L_law_404 : decode code 404 = .ok (.if_icmp .eq 362, 3) := by decide +kernel
theorem d_L_law_407 : decode code 407 = .ok (.iconst 0, 1) := by decide +kernel
theorem d_L_law_408 : decode code 408 = .ok (.ireturn, 1) := by decide +kernel
theorem d_L_law_409 : decode code 409 = .ok (.aload_n 1, 1) := by decide +kernel
theorem d_L_law_410 : decode code 410 = .ok (.aload_n 0, 1) := by decide +kernel
theorem d_L_law_411 : decode code 411 = .ok (.iload_n 3, 1) := by decide +kernel
theorem d_L_law_412 : decode code 412 = .ok (.iconst 1, 1) := by decide +kernel
theorem d_L_law_413 : decode code 413 = .ok (.iadd, 1) := by decide +kernel
theorem d_L_law_414 : decode code 414 = .ok (.iaload, 1) := by decide +kernel
theorem d_L_law_415 : decode code 415 = .ok (.aload_n 0, 1) := by decide +kernel
theorem d_L_law_416 : decode code 416 = .ok (.iload_n 3, 1) := by decide +kernel
theorem d_L_law_417 : decode code 417 = .ok (.iconst 2, 1) := by decide +kernel
theorem d_L_law_418 : decode code 418 = .ok (.iadd, 1) := by decide +kernel
theorem d_L_law_419 : decode code 419 = .ok (.iaload, 1) := by decide +kernel
theorem d_L_law_420 : decode code 420 = .ok (.aload_n 0, 1) := by decide +kernel
theorem d_L_law_421 : decode code 421 = .ok (.iload_n 3, 1) := by decide +kernel
theorem d_L_law_422 : decode code 422 = .ok (.iconst 3, 1) := by decide +kernel
theorem d_L_law_423 : decode code 423 = .ok (.iadd, 1) := by decide +kernel
theorem d_L_law_424 : decode code 424 = .ok (.iaload, 1) := by decide +kernel
theorem d_L_law_425 : decode code 425 = .ok (.invokevirtual 52, 3) := by decide +kernel
theorem d_L_law_428 : decode code 428 = .ok (.aload_n 2, 1) := by decide +kernel
theorem d_L_law_429 : decode code 429 = .ok (.aload_n 0, 1) := by decide +kernel
theorem d_L_law_430 : decode code 430 = .ok (.iload_n 3, 1) := by decide +kernel
theorem d_L_law_431 : decode code 431 = .ok (.iconst 1, 1) := by decide +kernel
theorem d_L_law_432 : decode code 432 = .ok (.iadd, 1) := by decide +kernel
theorem d_L_law_433 : decode code 433 = .ok (.iaload, 1) := by decide +kernel
theorem d_L_law_434 : decode code 434 = .ok (.aload_n 0, 1) := by decide +kernel
theorem d_L_law_435 : decode code 435 = .ok (.iload_n 3, 1) := by decide +kernel
theorem d_L_law_436 : decode code 436 = .ok (.iconst 2, 1) := by decide +kernel
theorem d_L_law_437 : decode code 437 = .ok (.iadd, 1) := by decide +kernel
theorem d_L_law_438 : decode code 438 = .ok (.iaload, 1) := by decide +kernel
theorem d_L_law_439 : decode code 439 = .ok (.aload_n 0, 1) := by decide +kernel
theorem d_L_law_440 : decode code 440 = .ok (.iload_n 3, 1) := by decide +kernel
theorem d_L_law_441 : decode code 441 = .ok (.iconst 3, 1) := by decide +kernel
theorem d_L_law_442 : decode code 442 = .ok (.iadd, 1) := by decide +kernel
theorem d_L_law_443 : decode code 443 = .ok (.iaload, 1) := by decide +kernel
theorem d_L_law_444 : decode code 444 = .ok (.invokevirtual 55, 3) := by decide +kernel
theorem d_L_law_447 : decode code 447 = .ok (.if_icmp .eq 319, 3) := by decide +kernel
theorem d_L_law_450 : decode code 450 = .ok (.iconst 0, 1) := by decide +kernel
theorem d_L_law_451 : decode code 451 = .ok (.ireturn, 1) := by decide +kernel
theorem d_L_law_452 : decode code 452 = .ok (.aload_n 1, 1) := by decide +kernel
theorem d_L_law_453 : decode code 453 = .ok (.aload_n 0, 1) := by decide +kernel
theorem d_L_law_454 : decode code 454 = .ok (.iload_n 3, 1) := by decide +kernel
theorem d_L_law_455 : decode code 455 = .ok (.iconst 1, 1) := by decide +kernel
theorem d_L_law_456 : decode code 456 = .ok (.iadd, 1) := by decide +kernel
theorem d_L_law_457 : decode code 457 = .ok (.iaload, 1) := by decide +kernel
theorem d_L_law_458 : decode code 458 = .ok (.aload_n 0, 1) := by decide +kernel
theorem d_L_law_459 : decode code 459 = .ok (.iload_n 3, 1) := by decide +kernel
theorem d_L_law_460 : decode code 460 = .ok (.iconst 2, 1) := by decide +kernel
theorem d_L_law_461 : decode code 461 = .ok (.iadd, 1) := by decide +kernel
theorem d_L_law_462 : decode code 462 = .ok (.iaload, 1) := by decide +kernel
theorem d_L_law_463 : decode code 463 = .ok (.invokevirtual 56, 3) := by decide +kernel
theorem d_L_law_466 : decode code 466 = .ok (.aload_n 2, 1) := by decide +kernel
theorem d_L_law_467 : decode code 467 = .ok (.aload_n 0, 1) := by decide +kernel
theorem d_L_law_468 : decode code 468 = .ok (.iload_n 3, 1) := by decide +kernel
theorem d_L_law_469 : decode code 469 = .ok (.iconst 1, 1) := by decide +kernel
theorem d_L_law_470 : decode code 470 = .ok (.iadd, 1) := by decide +kernel
theorem d_L_law_471 : decode code 471 = .ok (.iaload, 1) := by decide +kernel
theorem d_L_law_472 : decode code 472 = .ok (.aload_n 0, 1) := by decide +kernel
theorem d_L_law_473 : decode code 473 = .ok (.iload_n 3, 1) := by decide +kernel
theorem d_L_law_474 : decode code 474 = .ok (.iconst 2, 1) := by decide +kernel
theorem d_L_law_475 : decode code 475 = .ok (.iadd, 1) := by decide +kernel
theorem d_L_law_476 : decode code 476 = .ok (.iaload, 1) := by decide +kernel
theorem d_L_law_477 : decode code 477 = .ok (.invokevirtual 60, 3) := by decide +kernel
theorem d_L_law_480 : decode code 480 = .ok (.lcmp, 1) := by decide +kernel
theorem d_L_law_481 : decode code 481 = .ok (.ifCond .eq 285, 3) := by decide +kernel
theorem d_L_law_484 : decode code 484 = .ok (.iconst 0, 1) := by decide +kernel
theorem d_L_law_485 : decode code 485 = .ok (.ireturn, 1) := by decide +kernel
theorem d_L_law_486 : decode code 486 = .ok (.aload_n 1, 1) := by decide +kernel
theorem d_L_law_487 : decode code 487 = .ok (.aload_n 0, 1) := by decide +kernel
theorem d_L_law_488 : decode code 488 = .ok (.iload_n 3, 1) := by decide +kernel
theorem d_L_law_489 : decode code 489 = .ok (.iconst 1, 1) := by decide +kernel
theorem d_L_law_490 : decode code 490 = .ok (.iadd, 1) := by decide +kernel
theorem d_L_law_491 : decode code 491 = .ok (.iaload, 1) := by decide +kernel
theorem d_L_law_492 : decode code 492 = .ok (.aload_n 0, 1) := by decide +kernel
theorem d_L_law_493 : decode code 493 = .ok (.iload_n 3, 1) := by decide +kernel
theorem d_L_law_494 : decode code 494 = .ok (.iconst 2, 1) := by decide +kernel
theorem d_L_law_495 : decode code 495 = .ok (.iadd, 1) := by decide +kernel
theorem d_L_law_496 : decode code 496 = .ok (.iaload, 1) := by decide +kernel
theorem d_L_law_497 : decode code 497 = .ok (.aload_n 0, 1) := by decide +kernel
theorem d_L_law_498 : decode code 498 = .ok (.iload_n 3, 1) := by decide +kernel
theorem d_L_law_499 : decode code 499 = .ok (.iconst 3, 1) := by decide +kernel
theorem d_L_law_500 : decode code 500 = .ok (.iadd, 1) := by decide +kernel
theorem d_L_law_501 : decode code 501 = .ok (.iaload, 1) := by decide +kernel
theorem d_L_law_502 : decode code 502 = .ok (.invokevirtual 61, 3) := by decide +kernel
theorem d_L_law_505 : decode code 505 = .ok (.aload_n 2, 1) := by decide +kernel
theorem d_L_law_506 : decode code 506 = .ok (.aload_n 0, 1) := by decide +kernel
theorem d_L_law_507 : decode code 507 = .ok (.iload_n 3, 1) := by decide +kernel
theorem d_L_law_508 : decode code 508 = .ok (.iconst 1, 1) := by decide +kernel
theorem d_L_law_509 : decode code 509 = .ok (.iadd, 1) := by decide +kernel
theorem d_L_law_510 : decode code 510 = .ok (.iaload, 1) := by decide +kernel
theorem d_L_law_511 : decode code 511 = .ok (.aload_n 0, 1) := by decide +kernel
theorem d_L_law_512 : decode code 512 = .ok (.iload_n 3, 1) := by decide +kernel
theorem d_L_law_513 : decode code 513 = .ok (.iconst 2, 1) := by decide +kernel
theorem d_L_law_514 : decode code 514 = .ok (.iadd, 1) := by decide +kernel
theorem d_L_law_515 : decode code 515 = .ok (.iaload, 1) := by decide +kernel
theorem d_L_law_516 : decode code 516 = .ok (.aload_n 0, 1) := by decide +kernel
theorem d_L_law_517 : decode code 517 = .ok (.iload_n 3, 1) := by decide +kernel
theorem d_L_law_518 : decode code 518 = .ok (.iconst 3, 1) := by decide +kernel
theorem d_L_law_519 : decode code 519 = .ok (.iadd, 1) := by decide +kernel
theorem d_L_law_520 : decode code 520 = .ok (.iaload, 1) := by decide +kernel
theorem d_L_law_521 : decode code 521 = .ok (.invokevirtual 64, 3) := by decide +kernel
theorem d_L_law_524 : decode code 524 = .ok (.if_icmp .eq 242, 3) := by decide +kernel
theorem d_L_law_527 : decode code 527 = .ok (.iconst 0, 1) := by decide +kernel
theorem d_L_law_528 : decode code 528 = .ok (.ireturn, 1) := by decide +kernel
theorem d_L_law_529 : decode code 529 = .ok (.aload_n 1, 1) := by decide +kernel
theorem d_L_law_530 : decode code 530 = .ok (.aload_n 0, 1) := by decide +kernel
theorem d_L_law_531 : decode code 531 = .ok (.iload_n 3, 1) := by decide +kernel
theorem d_L_law_532 : decode code 532 = .ok (.iconst 1, 1) := by decide +kernel
theorem d_L_law_533 : decode code 533 = .ok (.iadd, 1) := by decide +kernel
theorem d_L_law_534 : decode code 534 = .ok (.iaload, 1) := by decide +kernel
theorem d_L_law_535 : decode code 535 = .ok (.aload_n 0, 1) := by decide +kernel
theorem d_L_law_536 : decode code 536 = .ok (.iload_n 3, 1) := by decide +kernel
theorem d_L_law_537 : decode code 537 = .ok (.iconst 2, 1) := by decide +kernel
theorem d_L_law_538 : decode code 538 = .ok (.iadd, 1) := by decide +kernel
theorem d_L_law_539 : decode code 539 = .ok (.iaload, 1) := by decide +kernel
theorem d_L_law_540 : decode code 540 = .ok (.aload_n 0, 1) := by decide +kernel
theorem d_L_law_541 : decode code 541 = .ok (.iload_n 3, 1) := by decide +kernel
theorem d_L_law_542 : decode code 542 = .ok (.iconst 3, 1) := by decide +kernel
theorem d_L_law_543 : decode code 543 = .ok (.iadd, 1) := by decide +kernel
theorem d_L_law_544 : decode code 544 = .ok (.iaload, 1) := by decide +kernel
theorem d_L_law_545 : decode code 545 = .ok (.invokevirtual 65, 3) := by decide +kernel
theorem d_L_law_548 : decode code 548 = .ok (.aload_n 2, 1) := by decide +kernel
theorem d_L_law_549 : decode code 549 = .ok (.aload_n 0, 1) := by decide +kernel
theorem d_L_law_550 : decode code 550 = .ok (.iload_n 3, 1) := by decide +kernel
theorem d_L_law_551 : decode code 551 = .ok (.iconst 1, 1) := by decide +kernel
theorem d_L_law_552 : decode code 552 = .ok (.iadd, 1) := by decide +kernel
theorem d_L_law_553 : decode code 553 = .ok (.iaload, 1) := by decide +kernel
theorem d_L_law_554 : decode code 554 = .ok (.aload_n 0, 1) := by decide +kernel
theorem d_L_law_555 : decode code 555 = .ok (.iload_n 3, 1) := by decide +kernel
theorem d_L_law_556 : decode code 556 = .ok (.iconst 2, 1) := by decide +kernel
theorem d_L_law_557 : decode code 557 = .ok (.iadd, 1) := by decide +kernel
theorem d_L_law_558 : decode code 558 = .ok (.iaload, 1) := by decide +kernel
theorem d_L_law_559 : decode code 559 = .ok (.aload_n 0, 1) := by decide +kernel
theorem d_L_law_560 : decode code 560 = .ok (.iload_n 3, 1) := by decide +kernel
theorem d_L_law_561 : decode code 561 = .ok (.iconst 3, 1) := by decide +kernel
theorem d_L_law_562 : decode code 562 = .ok (.iadd, 1) := by decide +kernel
theorem d_L_law_563 : decode code 563 = .ok (.iaload, 1) := by decide +kernel
theorem d_L_law_564 : decode code 564 = .ok (.invokevirtual 68, 3) := by decide +kernel
theorem d_L_law_567 : decode code 567 = .ok (.if_icmp .eq 199, 3) := by decide +kernel
theorem d_L_law_570 : decode code 570 = .ok (.iconst 0, 1) := by decide +kernel
theorem d_L_law_571 : decode code 571 = .ok (.ireturn, 1) := by decide +kernel
theorem d_L_law_572 : decode code 572 = .ok (.aload_n 1, 1) := by decide +kernel
theorem d_L_law_573 : decode code 573 = .ok (.aload_n 0, 1) := by decide +kernel
theorem d_L_law_574 : decode code 574 = .ok (.iload_n 3, 1) := by decide +kernel
theorem d_L_law_575 : decode code 575 = .ok (.iconst 1, 1) := by decide +kernel
theorem d_L_law_576 : decode code 576 = .ok (.iadd, 1) := by decide +kernel
theorem d_L_law_577 : decode code 577 = .ok (.iaload, 1) := by decide +kernel
theorem d_L_law_578 : decode code 578 = .ok (.invokevirtual 69, 3) := by decide +kernel
theorem d_L_law_581 : decode code 581 = .ok (.aload_n 2, 1) := by decide +kernel
theorem d_L_law_582 : decode code 582 = .ok (.aload_n 0, 1) := by decide +kernel
theorem d_L_law_583 : decode code 583 = .ok (.iload_n 3, 1) := by decide +kernel
theorem d_L_law_584 : decode code 584 = .ok (.iconst 1, 1) := by decide +kernel
theorem d_L_law_585 : decode code 585 = .ok (.iadd, 1) := by decide +kernel
theorem d_L_law_586 : decode code 586 = .ok (.iaload, 1) := by decide +kernel
theorem d_L_law_587 : decode code 587 = .ok (.invokevirtual 73, 3) := by decide +kernel
theorem d_L_law_590 : decode code 590 = .ok (.if_icmp .eq 176, 3) := by decide +kernel
theorem d_L_law_593 : decode code 593 = .ok (.iconst 0, 1) := by decide +kernel
theorem d_L_law_594 : decode code 594 = .ok (.ireturn, 1) := by decide +kernel
theorem d_L_law_595 : decode code 595 = .ok (.aload_n 1, 1) := by decide +kernel
theorem d_L_law_596 : decode code 596 = .ok (.aload_n 0, 1) := by decide +kernel
theorem d_L_law_597 : decode code 597 = .ok (.iload_n 3, 1) := by decide +kernel
theorem d_L_law_598 : decode code 598 = .ok (.iconst 1, 1) := by decide +kernel
theorem d_L_law_599 : decode code 599 = .ok (.iadd, 1) := by decide +kernel
theorem d_L_law_600 : decode code 600 = .ok (.iaload, 1) := by decide +kernel
theorem d_L_law_601 : decode code 601 = .ok (.aload_n 0, 1) := by decide +kernel
theorem d_L_law_602 : decode code 602 = .ok (.iload_n 3, 1) := by decide +kernel
theorem d_L_law_603 : decode code 603 = .ok (.iconst 2, 1) := by decide +kernel
theorem d_L_law_604 : decode code 604 = .ok (.iadd, 1) := by decide +kernel
theorem d_L_law_605 : decode code 605 = .ok (.iaload, 1) := by decide +kernel
theorem d_L_law_606 : decode code 606 = .ok (.invokevirtual 74, 3) := by decide +kernel
theorem d_L_law_609 : decode code 609 = .ok (.aload_n 2, 1) := by decide +kernel
theorem d_L_law_610 : decode code 610 = .ok (.aload_n 0, 1) := by decide +kernel
theorem d_L_law_611 : decode code 611 = .ok (.iload_n 3, 1) := by decide +kernel
theorem d_L_law_612 : decode code 612 = .ok (.iconst 1, 1) := by decide +kernel
theorem d_L_law_613 : decode code 613 = .ok (.iadd, 1) := by decide +kernel
theorem d_L_law_614 : decode code 614 = .ok (.iaload, 1) := by decide +kernel
theorem d_L_law_615 : decode code 615 = .ok (.aload_n 0, 1) := by decide +kernel
theorem d_L_law_616 : decode code 616 = .ok (.iload_n 3, 1) := by decide +kernel
theorem d_L_law_617 : decode code 617 = .ok (.iconst 2, 1) := by decide +kernel
theorem d_L_law_618 : decode code 618 = .ok (.iadd, 1) := by decide +kernel
theorem d_L_law_619 : decode code 619 = .ok (.iaload, 1) := by decide +kernel
theorem d_L_law_620 : decode code 620 = .ok (.invokevirtual 77, 3) := by decide +kernel
theorem d_L_law_623 : decode code 623 = .ok (.if_icmp .eq 143, 3) := by decide +kernel
theorem d_L_law_626 : decode code 626 = .ok (.iconst 0, 1) := by decide +kernel
theorem d_L_law_627 : decode code 627 = .ok (.ireturn, 1) := by decide +kernel
theorem d_L_law_628 : decode code 628 = .ok (.aload_n 1, 1) := by decide +kernel
theorem d_L_law_629 : decode code 629 = .ok (.aload_n 0, 1) := by decide +kernel
theorem d_L_law_630 : decode code 630 = .ok (.iload_n 3, 1) := by decide +kernel
theorem d_L_law_631 : decode code 631 = .ok (.iconst 1, 1) := by decide +kernel
theorem d_L_law_632 : decode code 632 = .ok (.iadd, 1) := by decide +kernel
theorem d_L_law_633 : decode code 633 = .ok (.iaload, 1) := by decide +kernel
theorem d_L_law_634 : decode code 634 = .ok (.aload_n 0, 1) := by decide +kernel
theorem d_L_law_635 : decode code 635 = .ok (.iload_n 3, 1) := by decide +kernel
theorem d_L_law_636 : decode code 636 = .ok (.iconst 2, 1) := by decide +kernel
theorem d_L_law_637 : decode code 637 = .ok (.iadd, 1) := by decide +kernel
theorem d_L_law_638 : decode code 638 = .ok (.iaload, 1) := by decide +kernel
theorem d_L_law_639 : decode code 639 = .ok (.aload_n 0, 1) := by decide +kernel
theorem d_L_law_640 : decode code 640 = .ok (.iload_n 3, 1) := by decide +kernel
theorem d_L_law_641 : decode code 641 = .ok (.iconst 3, 1) := by decide +kernel
theorem d_L_law_642 : decode code 642 = .ok (.iadd, 1) := by decide +kernel
theorem d_L_law_643 : decode code 643 = .ok (.iaload, 1) := by decide +kernel
theorem d_L_law_644 : decode code 644 = .ok (.invokevirtual 78, 3) := by decide +kernel
theorem d_L_law_647 : decode code 647 = .ok (.aload_n 2, 1) := by decide +kernel
theorem d_L_law_648 : decode code 648 = .ok (.aload_n 0, 1) := by decide +kernel
theorem d_L_law_649 : decode code 649 = .ok (.iload_n 3, 1) := by decide +kernel
theorem d_L_law_650 : decode code 650 = .ok (.iconst 1, 1) := by decide +kernel
theorem d_L_law_651 : decode code 651 = .ok (.iadd, 1) := by decide +kernel
theorem d_L_law_652 : decode code 652 = .ok (.iaload, 1) := by decide +kernel
theorem d_L_law_653 : decode code 653 = .ok (.aload_n 0, 1) := by decide +kernel
theorem d_L_law_654 : decode code 654 = .ok (.iload_n 3, 1) := by decide +kernel
theorem d_L_law_655 : decode code 655 = .ok (.iconst 2, 1) := by decide +kernel
theorem d_L_law_656 : decode code 656 = .ok (.iadd, 1) := by decide +kernel
theorem d_L_law_657 : decode code 657 = .ok (.iaload, 1) := by decide +kernel
theorem d_L_law_658 : decode code 658 = .ok (.aload_n 0, 1) := by decide +kernel
theorem d_L_law_659 : decode code 659 = .ok (.iload_n 3, 1) := by decide +kernel
theorem d_L_law_660 : decode code 660 = .ok (.iconst 3, 1) := by decide +kernel
theorem d_L_law_661 : decode code 661 = .ok (.iadd, 1) := by decide +kernel
theorem d_L_law_662 : decode code 662 = .ok (.iaload, 1) := by decide +kernel
theorem d_L_law_663 : decode code 663 = .ok (.invokevirtual 81, 3) := by decide +kernel
theorem d_L_law_666 : decode code 666 = .ok (.if_icmp .eq 100, 3) := by decide +kernel
theorem d_L_law_669 : decode code 669 = .ok (.iconst 0, 1) := by decide +kernel
theorem d_L_law_670 : decode code 670 = .ok (.ireturn, 1) := by decide +kernel
theorem d_L_law_671 : decode code 671 = .ok (.aload_n 1, 1) := by decide +kernel
theorem d_L_law_672 : decode code 672 = .ok (.invokevirtual 82, 3) := by decide +kernel
theorem d_L_law_675 : decode code 675 = .ok (.aload_n 2, 1) := by decide +kernel
theorem d_L_law_676 : decode code 676 = .ok (.invokevirtual 85, 3) := by decide +kernel
theorem d_L_law_679 : decode code 679 = .ok (.if_icmp .eq 87, 3) := by decide +kernel
theorem d_L_law_682 : decode code 682 = .ok (.iconst 0, 1) := by decide +kernel
theorem d_L_law_683 : decode code 683 = .ok (.ireturn, 1) := by decide +kernel
theorem d_L_law_684 : decode code 684 = .ok (.aload_n 1, 1) := by decide +kernel
theorem d_L_law_685 : decode code 685 = .ok (.invokevirtual 86, 3) := by decide +kernel
theorem d_L_law_688 : decode code 688 = .ok (.aload_n 2, 1) := by decide +kernel
theorem d_L_law_689 : decode code 689 = .ok (.invokevirtual 89, 3) := by decide +kernel
theorem d_L_law_692 : decode code 692 = .ok (.if_icmp .eq 74, 3) := by decide +kernel
theorem d_L_law_695 : decode code 695 = .ok (.iconst 0, 1) := by decide +kernel
theorem d_L_law_696 : decode code 696 = .ok (.ireturn, 1) := by decide +kernel
theorem d_L_law_697 : decode code 697 = .ok (.aload_n 1, 1) := by decide +kernel
theorem d_L_law_698 : decode code 698 = .ok (.aload_n 0, 1) := by decide +kernel
theorem d_L_law_699 : decode code 699 = .ok (.iload_n 3, 1) := by decide +kernel
theorem d_L_law_700 : decode code 700 = .ok (.iconst 1, 1) := by decide +kernel
theorem d_L_law_701 : decode code 701 = .ok (.iadd, 1) := by decide +kernel
theorem d_L_law_702 : decode code 702 = .ok (.iaload, 1) := by decide +kernel
theorem d_L_law_703 : decode code 703 = .ok (.aload_n 0, 1) := by decide +kernel
theorem d_L_law_704 : decode code 704 = .ok (.iload_n 3, 1) := by decide +kernel
theorem d_L_law_705 : decode code 705 = .ok (.iconst 2, 1) := by decide +kernel
theorem d_L_law_706 : decode code 706 = .ok (.iadd, 1) := by decide +kernel
theorem d_L_law_707 : decode code 707 = .ok (.iaload, 1) := by decide +kernel
theorem d_L_law_708 : decode code 708 = .ok (.invokevirtual 90, 3) := by decide +kernel
theorem d_L_law_711 : decode code 711 = .ok (.aload_n 2, 1) := by decide +kernel
theorem d_L_law_712 : decode code 712 = .ok (.aload_n 0, 1) := by decide +kernel
theorem d_L_law_713 : decode code 713 = .ok (.iload_n 3, 1) := by decide +kernel
theorem d_L_law_714 : decode code 714 = .ok (.iconst 1, 1) := by decide +kernel
theorem d_L_law_715 : decode code 715 = .ok (.iadd, 1) := by decide +kernel
theorem d_L_law_716 : decode code 716 = .ok (.iaload, 1) := by decide +kernel
theorem d_L_law_717 : decode code 717 = .ok (.aload_n 0, 1) := by decide +kernel
theorem d_L_law_718 : decode code 718 = .ok (.iload_n 3, 1) := by decide +kernel
theorem d_L_law_719 : decode code 719 = .ok (.iconst 2, 1) := by decide +kernel
theorem d_L_law_720 : decode code 720 = .ok (.iadd, 1) := by decide +kernel
theorem d_L_law_721 : decode code 721 = .ok (.iaload, 1) := by decide +kernel
theorem d_L_law_722 : decode code 722 = .ok (.invokevirtual 93, 3) := by decide +kernel
theorem d_L_law_725 : decode code 725 = .ok (.if_icmp .eq 41, 3) := by decide +kernel
theorem d_L_law_728 : decode code 728 = .ok (.iconst 0, 1) := by decide +kernel
theorem d_L_law_729 : decode code 729 = .ok (.ireturn, 1) := by decide +kernel
theorem d_L_law_730 : decode code 730 = .ok (.aload_n 1, 1) := by decide +kernel
theorem d_L_law_731 : decode code 731 = .ok (.invokevirtual 94, 3) := by decide +kernel
theorem d_L_law_734 : decode code 734 = .ok (.aload_n 2, 1) := by decide +kernel
theorem d_L_law_735 : decode code 735 = .ok (.invokevirtual 97, 3) := by decide +kernel
theorem d_L_law_738 : decode code 738 = .ok (.if_icmp .eq 28, 3) := by decide +kernel
theorem d_L_law_741 : decode code 741 = .ok (.iconst 0, 1) := by decide +kernel
theorem d_L_law_742 : decode code 742 = .ok (.ireturn, 1) := by decide +kernel
theorem d_L_law_743 : decode code 743 = .ok (.aload_n 1, 1) := by decide +kernel
theorem d_L_law_744 : decode code 744 = .ok (.aload_n 0, 1) := by decide +kernel
theorem d_L_law_745 : decode code 745 = .ok (.iload_n 3, 1) := by decide +kernel
theorem d_L_law_746 : decode code 746 = .ok (.iconst 1, 1) := by decide +kernel
theorem d_L_law_747 : decode code 747 = .ok (.iadd, 1) := by decide +kernel
theorem d_L_law_748 : decode code 748 = .ok (.iaload, 1) := by decide +kernel
theorem d_L_law_749 : decode code 749 = .ok (.invokevirtual 98, 3) := by decide +kernel
theorem d_L_law_752 : decode code 752 = .ok (.aload_n 2, 1) := by decide +kernel
theorem d_L_law_753 : decode code 753 = .ok (.aload_n 0, 1) := by decide +kernel
theorem d_L_law_754 : decode code 754 = .ok (.iload_n 3, 1) := by decide +kernel
theorem d_L_law_755 : decode code 755 = .ok (.iconst 1, 1) := by decide +kernel
theorem d_L_law_756 : decode code 756 = .ok (.iadd, 1) := by decide +kernel
theorem d_L_law_757 : decode code 757 = .ok (.iaload, 1) := by decide +kernel
theorem d_L_law_758 : decode code 758 = .ok (.invokevirtual 101, 3) := by decide +kernel
theorem d_L_law_761 : decode code 761 = .ok (.if_icmp .eq 5, 3) := by decide +kernel
theorem d_L_law_764 : decode code 764 = .ok (.iconst 0, 1) := by decide +kernel
theorem d_L_law_765 : decode code 765 = .ok (.ireturn, 1) := by decide +kernel
theorem d_L_law_766 : decode code 766 = .ok (.iinc 3 4, 3) := by decide +kernel
theorem d_L_law_769 : decode code 769 = .ok (.goto (-751), 3) := by decide +kernel
theorem d_L_law_772 : decode code 772 = .ok (.iconst 1, 1) := by decide +kernel
theorem d_L_law_773 : decode code 773 = .ok (.ireturn, 1) := by decide +kernel
