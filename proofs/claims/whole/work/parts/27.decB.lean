theorem d_Mo_init_0 : decode prog_12_method_1_code 0 = .ok (.aload_n 0, 1) := by decide +kernel
theorem d_Mo_init_1 : decode prog_12_method_1_code 1 = .ok (.invokespecial 1, 3) := by decide +kernel
theorem d_Mo_init_4 : decode prog_12_method_1_code 4 = .ok (.aload_n 0, 1) := by decide +kernel
theorem d_Mo_init_5 : decode prog_12_method_1_code 5 = .ok (.sipush 192, 3) := by decide +kernel
theorem d_Mo_init_8 : decode prog_12_method_1_code 8 = .ok (.newarray .int, 2) := by decide +kernel
theorem d_Mo_init_10 : decode prog_12_method_1_code 10 = .ok (.putfield 7, 3) := by decide +kernel
theorem d_Mo_init_13 : decode prog_12_method_1_code 13 = .ok (.aload_n 0, 1) := by decide +kernel
theorem d_Mo_init_14 : decode prog_12_method_1_code 14 = .ok (.iconst 2, 1) := by decide +kernel
theorem d_Mo_init_15 : decode prog_12_method_1_code 15 = .ok (.newarray .int, 2) := by decide +kernel
theorem d_Mo_init_17 : decode prog_12_method_1_code 17 = .ok (.putfield 13, 3) := by decide +kernel
theorem d_Mo_init_20 : decode prog_12_method_1_code 20 = .ok (.aload_n 0, 1) := by decide +kernel
theorem d_Mo_init_21 : decode prog_12_method_1_code 21 = .ok (.sipush 676, 3) := by decide +kernel
theorem d_Mo_init_24 : decode prog_12_method_1_code 24 = .ok (.newarray .int, 2) := by decide +kernel
theorem d_Mo_init_26 : decode prog_12_method_1_code 26 = .ok (.putfield 16, 3) := by decide +kernel
theorem d_Mo_init_29 : decode prog_12_method_1_code 29 = .ok (.aload_n 0, 1) := by decide +kernel
theorem d_Mo_init_30 : decode prog_12_method_1_code 30 = .ok (.iconst 3, 1) := by decide +kernel
theorem d_Mo_init_31 : decode prog_12_method_1_code 31 = .ok (.putfield 19, 3) := by decide +kernel
theorem d_Mo_init_34 : decode prog_12_method_1_code 34 = .ok (.aload_n 0, 1) := by decide +kernel
theorem d_Mo_init_35 : decode prog_12_method_1_code 35 = .ok (.iconst 1, 1) := by decide +kernel
theorem d_Mo_init_36 : decode prog_12_method_1_code 36 = .ok (.putfield 23, 3) := by decide +kernel
theorem d_Mo_init_39 : decode prog_12_method_1_code 39 = .ok (.aload_n 0, 1) := by decide +kernel
theorem d_Mo_init_40 : decode prog_12_method_1_code 40 = .ok (.sipush 192, 3) := by decide +kernel
theorem d_Mo_init_43 : decode prog_12_method_1_code 43 = .ok (.newarray .int, 2) := by decide +kernel
theorem d_Mo_init_45 : decode prog_12_method_1_code 45 = .ok (.putfield 26, 3) := by decide +kernel
theorem d_Mo_init_48 : decode prog_12_method_1_code 48 = .ok (.aload_n 0, 1) := by decide +kernel
theorem d_Mo_init_49 : decode prog_12_method_1_code 49 = .ok (.iconst 2, 1) := by decide +kernel
theorem d_Mo_init_50 : decode prog_12_method_1_code 50 = .ok (.newarray .int, 2) := by decide +kernel
theorem d_Mo_init_52 : decode prog_12_method_1_code 52 = .ok (.putfield 29, 3) := by decide +kernel
theorem d_Mo_init_55 : decode prog_12_method_1_code 55 = .ok (.aload_n 0, 1) := by decide +kernel
theorem d_Mo_init_56 : decode prog_12_method_1_code 56 = .ok (.iconst 2, 1) := by decide +kernel
theorem d_Mo_init_57 : decode prog_12_method_1_code 57 = .ok (.newarray .int, 2) := by decide +kernel
theorem d_Mo_init_59 : decode prog_12_method_1_code 59 = .ok (.putfield 32, 3) := by decide +kernel
theorem d_Mo_init_62 : decode prog_12_method_1_code 62 = .ok (.aload_n 0, 1) := by decide +kernel
theorem d_Mo_init_63 : decode prog_12_method_1_code 63 = .ok (.sipush 28227, 3) := by decide +kernel
theorem d_Mo_init_66 : decode prog_12_method_1_code 66 = .ok (.newarray .int, 2) := by decide +kernel
theorem d_Mo_init_68 : decode prog_12_method_1_code 68 = .ok (.putfield 35, 3) := by decide +kernel
theorem d_Mo_init_71 : decode prog_12_method_1_code 71 = .ok (.aload_n 0, 1) := by decide +kernel
theorem d_Mo_init_72 : decode prog_12_method_1_code 72 = .ok (.sipush 28227, 3) := by decide +kernel
theorem d_Mo_init_75 : decode prog_12_method_1_code 75 = .ok (.newarray .long, 2) := by decide +kernel
theorem d_Mo_init_77 : decode prog_12_method_1_code 77 = .ok (.putfield 38, 3) := by decide +kernel
theorem d_Mo_init_80 : decode prog_12_method_1_code 80 = .ok (.aload_n 0, 1) := by decide +kernel
theorem d_Mo_init_81 : decode prog_12_method_1_code 81 = .ok (.sipush 28227, 3) := by decide +kernel
theorem d_Mo_init_84 : decode prog_12_method_1_code 84 = .ok (.newarray .int, 2) := by decide +kernel
theorem d_Mo_init_86 : decode prog_12_method_1_code 86 = .ok (.putfield 42, 3) := by decide +kernel
theorem d_Mo_init_89 : decode prog_12_method_1_code 89 = .ok (.aload_n 0, 1) := by decide +kernel
theorem d_Mo_init_90 : decode prog_12_method_1_code 90 = .ok (.sipush 200, 3) := by decide +kernel
theorem d_Mo_init_93 : decode prog_12_method_1_code 93 = .ok (.newarray .int, 2) := by decide +kernel
theorem d_Mo_init_95 : decode prog_12_method_1_code 95 = .ok (.putfield 45, 3) := by decide +kernel
theorem d_Mo_init_98 : decode prog_12_method_1_code 98 = .ok (.aload_n 0, 1) := by decide +kernel
theorem d_Mo_init_99 : decode prog_12_method_1_code 99 = .ok (.iconst 1, 1) := by decide +kernel
theorem d_Mo_init_100 : decode prog_12_method_1_code 100 = .ok (.iconst (-1), 1) := by decide +kernel
theorem d_Mo_init_101 : decode prog_12_method_1_code 101 = .ok (.invokevirtual 48, 3) := by decide +kernel
theorem d_Mo_init_104 : decode prog_12_method_1_code 104 = .ok (.return_, 1) := by decide +kernel
theorem d_Mo_setScores_0 : decode prog_12_method_3_code 0 = .ok (.iconst 0, 1) := by decide +kernel
theorem d_Mo_setScores_1 : decode prog_12_method_3_code 1 = .ok (.istore_n 3, 1) := by decide +kernel
theorem d_Mo_setScores_2 : decode prog_12_method_3_code 2 = .ok (.iload_n 3, 1) := by decide +kernel
theorem d_Mo_setScores_3 : decode prog_12_method_3_code 3 = .ok (.sipush 676, 3) := by decide +kernel
theorem d_Mo_setScores_6 : decode prog_12_method_3_code 6 = .ok (.if_icmp .ge 31, 3) := by decide +kernel
theorem d_Mo_setScores_9 : decode prog_12_method_3_code 9 = .ok (.aload_n 0, 1) := by decide +kernel
theorem d_Mo_setScores_10 : decode prog_12_method_3_code 10 = .ok (.getfield 16, 3) := by decide +kernel
theorem d_Mo_setScores_13 : decode prog_12_method_3_code 13 = .ok (.iload_n 3, 1) := by decide +kernel
theorem d_Mo_setScores_14 : decode prog_12_method_3_code 14 = .ok (.iload_n 3, 1) := by decide +kernel
theorem d_Mo_setScores_15 : decode prog_12_method_3_code 15 = .ok (.bipush 26, 2) := by decide +kernel
theorem d_Mo_setScores_17 : decode prog_12_method_3_code 17 = .ok (.idiv, 1) := by decide +kernel
theorem d_Mo_setScores_18 : decode prog_12_method_3_code 18 = .ok (.iload_n 3, 1) := by decide +kernel
theorem d_Mo_setScores_19 : decode prog_12_method_3_code 19 = .ok (.bipush 26, 2) := by decide +kernel
theorem d_Mo_setScores_21 : decode prog_12_method_3_code 21 = .ok (.irem, 1) := by decide +kernel
theorem d_Mo_setScores_22 : decode prog_12_method_3_code 22 = .ok (.if_icmp .ne 7, 3) := by decide +kernel
theorem d_Mo_setScores_25 : decode prog_12_method_3_code 25 = .ok (.iload_n 1, 1) := by decide +kernel
theorem d_Mo_setScores_26 : decode prog_12_method_3_code 26 = .ok (.goto 4, 3) := by decide +kernel
theorem d_Mo_setScores_29 : decode prog_12_method_3_code 29 = .ok (.iload_n 2, 1) := by decide +kernel
theorem d_Mo_setScores_30 : decode prog_12_method_3_code 30 = .ok (.iastore, 1) := by decide +kernel
theorem d_Mo_setScores_31 : decode prog_12_method_3_code 31 = .ok (.iinc 3 1, 3) := by decide +kernel
theorem d_Mo_setScores_34 : decode prog_12_method_3_code 34 = .ok (.goto (-32), 3) := by decide +kernel
theorem d_Mo_setScores_37 : decode prog_12_method_3_code 37 = .ok (.return_, 1) := by decide +kernel
theorem d_Mo_thrown_0 : decode prog_12_method_2_code 0 = .ok (.aload_n 0, 1) := by decide +kernel
theorem d_Mo_thrown_1 : decode prog_12_method_2_code 1 = .ok (.getfield 52, 3) := by decide +kernel
theorem d_Mo_thrown_4 : decode prog_12_method_2_code 4 = .ok (.ireturn, 1) := by decide +kernel
theorem d_Mo_type_0 : decode prog_12_method_5_code 0 = .ok (.aload_n 0, 1) := by decide +kernel
theorem d_Mo_type_1 : decode prog_12_method_5_code 1 = .ok (.iload_n 1, 1) := by decide +kernel
theorem d_Mo_type_2 : decode prog_12_method_5_code 2 = .ok (.invokevirtual 55, 3) := by decide +kernel
theorem d_Mo_type_5 : decode prog_12_method_5_code 5 = .ok (.ifCond .eq 5, 3) := by decide +kernel
theorem d_Mo_type_8 : decode prog_12_method_5_code 8 = .ok (.iconst 0, 1) := by decide +kernel
theorem d_Mo_type_9 : decode prog_12_method_5_code 9 = .ok (.ireturn, 1) := by decide +kernel
theorem d_Mo_type_10 : decode prog_12_method_5_code 10 = .ok (.aload_n 0, 1) := by decide +kernel
theorem d_Mo_type_11 : decode prog_12_method_5_code 11 = .ok (.iload 4, 2) := by decide +kernel
theorem d_Mo_type_13 : decode prog_12_method_5_code 13 = .ok (.iconst 1, 1) := by decide +kernel
theorem d_Mo_type_14 : decode prog_12_method_5_code 14 = .ok (.if_icmp .lt 10, 3) := by decide +kernel
theorem d_Mo_type_17 : decode prog_12_method_5_code 17 = .ok (.iload 4, 2) := by decide +kernel
theorem d_Mo_type_19 : decode prog_12_method_5_code 19 = .ok (.bipush 8, 2) := by decide +kernel
theorem d_Mo_type_21 : decode prog_12_method_5_code 21 = .ok (.if_icmp .le 7, 3) := by decide +kernel
theorem d_Mo_type_24 : decode prog_12_method_5_code 24 = .ok (.iconst 2, 1) := by decide +kernel
theorem d_Mo_type_25 : decode prog_12_method_5_code 25 = .ok (.goto 4, 3) := by decide +kernel
theorem d_Mo_type_28 : decode prog_12_method_5_code 28 = .ok (.iconst 0, 1) := by decide +kernel
theorem d_Mo_type_29 : decode prog_12_method_5_code 29 = .ok (.putfield 52, 3) := by decide +kernel
theorem d_Mo_type_32 : decode prog_12_method_5_code 32 = .ok (.iconst 0, 1) := by decide +kernel
theorem d_Mo_type_33 : decode prog_12_method_5_code 33 = .ok (.istore 5, 2) := by decide +kernel
theorem d_Mo_type_35 : decode prog_12_method_5_code 35 = .ok (.iload 5, 2) := by decide +kernel
theorem d_Mo_type_37 : decode prog_12_method_5_code 37 = .ok (.iload 4, 2) := by decide +kernel
theorem d_Mo_type_39 : decode prog_12_method_5_code 39 = .ok (.if_icmp .ge 53, 3) := by decide +kernel
theorem d_Mo_type_42 : decode prog_12_method_5_code 42 = .ok (.aload_n 0, 1) := by decide +kernel
theorem d_Mo_type_43 : decode prog_12_method_5_code 43 = .ok (.getfield 52, 3) := by decide +kernel
theorem d_Mo_type_46 : decode prog_12_method_5_code 46 = .ok (.ifCond .ne 46, 3) := by decide +kernel
theorem d_Mo_type_49 : decode prog_12_method_5_code 49 = .ok (.lload_n 2, 1) := by decide +kernel
theorem d_Mo_type_50 : decode prog_12_method_5_code 50 = .ok (.bipush 8, 2) := by decide +kernel
theorem d_Mo_type_52 : decode prog_12_method_5_code 52 = .ok (.iload 5, 2) := by decide +kernel
theorem d_Mo_type_54 : decode prog_12_method_5_code 54 = .ok (.imul, 1) := by decide +kernel
theorem d_Mo_type_55 : decode prog_12_method_5_code 55 = .ok (.lshr, 1) := by decide +kernel
theorem d_Mo_type_56 : decode prog_12_method_5_code 56 = .ok (.ldc2_w 59, 3) := by decide +kernel
theorem d_Mo_type_59 : decode prog_12_method_5_code 59 = .ok (.land, 1) := by decide +kernel
theorem d_Mo_type_60 : decode prog_12_method_5_code 60 = .ok (.l2i, 1) := by decide +kernel
theorem d_Mo_type_61 : decode prog_12_method_5_code 61 = .ok (.istore 6, 2) := by decide +kernel
theorem d_Mo_type_63 : decode prog_12_method_5_code 63 = .ok (.aload_n 0, 1) := by decide +kernel
theorem d_Mo_type_64 : decode prog_12_method_5_code 64 = .ok (.iload 6, 2) := by decide +kernel
theorem d_Mo_type_66 : decode prog_12_method_5_code 66 = .ok (.bipush 97, 2) := by decide +kernel
theorem d_Mo_type_68 : decode prog_12_method_5_code 68 = .ok (.if_icmp .lt 10, 3) := by decide +kernel
theorem d_Mo_type_71 : decode prog_12_method_5_code 71 = .ok (.iload 6, 2) := by decide +kernel
theorem d_Mo_type_73 : decode prog_12_method_5_code 73 = .ok (.bipush 122, 2) := by decide +kernel
theorem d_Mo_type_75 : decode prog_12_method_5_code 75 = .ok (.if_icmp .le 7, 3) := by decide +kernel
theorem d_Mo_type_78 : decode prog_12_method_5_code 78 = .ok (.iconst 2, 1) := by decide +kernel
theorem d_Mo_type_79 : decode prog_12_method_5_code 79 = .ok (.goto 4, 3) := by decide +kernel
theorem d_Mo_type_82 : decode prog_12_method_5_code 82 = .ok (.iconst 0, 1) := by decide +kernel
theorem d_Mo_type_83 : decode prog_12_method_5_code 83 = .ok (.putfield 52, 3) := by decide +kernel
theorem d_Mo_type_86 : decode prog_12_method_5_code 86 = .ok (.iinc 5 1, 3) := by decide +kernel
theorem d_Mo_type_89 : decode prog_12_method_5_code 89 = .ok (.goto (-54), 3) := by decide +kernel
theorem d_Mo_type_92 : decode prog_12_method_5_code 92 = .ok (.aload_n 0, 1) := by decide +kernel
theorem d_Mo_type_93 : decode prog_12_method_5_code 93 = .ok (.aload_n 0, 1) := by decide +kernel
theorem d_Mo_type_94 : decode prog_12_method_5_code 94 = .ok (.getfield 52, 3) := by decide +kernel
theorem d_Mo_type_97 : decode prog_12_method_5_code 97 = .ok (.ifCond .ne 21, 3) := by decide +kernel
theorem d_Mo_type_100 : decode prog_12_method_5_code 100 = .ok (.aload_n 0, 1) := by decide +kernel
theorem d_Mo_type_101 : decode prog_12_method_5_code 101 = .ok (.getfield 13, 3) := by decide +kernel
theorem d_Mo_type_104 : decode prog_12_method_5_code 104 = .ok (.iload_n 1, 1) := by decide +kernel
theorem d_Mo_type_105 : decode prog_12_method_5_code 105 = .ok (.iaload, 1) := by decide +kernel
theorem d_Mo_type_106 : decode prog_12_method_5_code 106 = .ok (.iload 4, 2) := by decide +kernel
theorem d_Mo_type_108 : decode prog_12_method_5_code 108 = .ok (.iadd, 1) := by decide +kernel
theorem d_Mo_type_109 : decode prog_12_method_5_code 109 = .ok (.bipush 96, 2) := by decide +kernel
theorem d_Mo_type_111 : decode prog_12_method_5_code 111 = .ok (.if_icmp .le 7, 3) := by decide +kernel
theorem d_Mo_type_114 : decode prog_12_method_5_code 114 = .ok (.iconst 3, 1) := by decide +kernel
theorem d_Mo_type_115 : decode prog_12_method_5_code 115 = .ok (.goto 7, 3) := by decide +kernel
theorem d_Mo_type_118 : decode prog_12_method_5_code 118 = .ok (.aload_n 0, 1) := by decide +kernel
theorem d_Mo_type_119 : decode prog_12_method_5_code 119 = .ok (.getfield 52, 3) := by decide +kernel
theorem d_Mo_type_122 : decode prog_12_method_5_code 122 = .ok (.putfield 52, 3) := by decide +kernel
theorem d_Mo_type_125 : decode prog_12_method_5_code 125 = .ok (.aload_n 0, 1) := by decide +kernel
theorem d_Mo_type_126 : decode prog_12_method_5_code 126 = .ok (.getfield 52, 3) := by decide +kernel
theorem d_Mo_type_129 : decode prog_12_method_5_code 129 = .ok (.ifCond .le 5, 3) := by decide +kernel
theorem d_Mo_type_132 : decode prog_12_method_5_code 132 = .ok (.iconst 0, 1) := by decide +kernel
theorem d_Mo_type_133 : decode prog_12_method_5_code 133 = .ok (.ireturn, 1) := by decide +kernel
theorem d_Mo_type_134 : decode prog_12_method_5_code 134 = .ok (.iconst 0, 1) := by decide +kernel
theorem d_Mo_type_135 : decode prog_12_method_5_code 135 = .ok (.istore 5, 2) := by decide +kernel
theorem d_Mo_type_137 : decode prog_12_method_5_code 137 = .ok (.iload 5, 2) := by decide +kernel
theorem d_Mo_type_139 : decode prog_12_method_5_code 139 = .ok (.iload 4, 2) := by decide +kernel
theorem d_Mo_type_141 : decode prog_12_method_5_code 141 = .ok (.if_icmp .ge 50, 3) := by decide +kernel
theorem d_Mo_type_144 : decode prog_12_method_5_code 144 = .ok (.aload_n 0, 1) := by decide +kernel
theorem d_Mo_type_145 : decode prog_12_method_5_code 145 = .ok (.getfield 7, 3) := by decide +kernel
theorem d_Mo_type_148 : decode prog_12_method_5_code 148 = .ok (.bipush 96, 2) := by decide +kernel
theorem d_Mo_type_150 : decode prog_12_method_5_code 150 = .ok (.iload_n 1, 1) := by decide +kernel
theorem d_Mo_type_151 : decode prog_12_method_5_code 151 = .ok (.imul, 1) := by decide +kernel
theorem d_Mo_type_152 : decode prog_12_method_5_code 152 = .ok (.aload_n 0, 1) := by decide +kernel
theorem d_Mo_type_153 : decode prog_12_method_5_code 153 = .ok (.getfield 13, 3) := by decide +kernel
theorem d_Mo_type_156 : decode prog_12_method_5_code 156 = .ok (.iload_n 1, 1) := by decide +kernel
theorem d_Mo_type_157 : decode prog_12_method_5_code 157 = .ok (.iaload, 1) := by decide +kernel
theorem d_Mo_type_158 : decode prog_12_method_5_code 158 = .ok (.iadd, 1) := by decide +kernel
theorem d_Mo_type_159 : decode prog_12_method_5_code 159 = .ok (.lload_n 2, 1) := by decide +kernel
theorem d_Mo_type_160 : decode prog_12_method_5_code 160 = .ok (.bipush 8, 2) := by decide +kernel
theorem d_Mo_type_162 : decode prog_12_method_5_code 162 = .ok (.iload 5, 2) := by decide +kernel
theorem d_Mo_type_164 : decode prog_12_method_5_code 164 = .ok (.imul, 1) := by decide +kernel
theorem d_Mo_type_165 : decode prog_12_method_5_code 165 = .ok (.lshr, 1) := by decide +kernel
theorem d_Mo_type_166 : decode prog_12_method_5_code 166 = .ok (.ldc2_w 59, 3) := by decide +kernel
theorem d_Mo_type_169 : decode prog_12_method_5_code 169 = .ok (.land, 1) := by decide +kernel
theorem d_Mo_type_170 : decode prog_12_method_5_code 170 = .ok (.l2i, 1) := by decide +kernel
theorem d_Mo_type_171 : decode prog_12_method_5_code 171 = .ok (.bipush 97, 2) := by decide +kernel
theorem d_Mo_type_173 : decode prog_12_method_5_code 173 = .ok (.isub, 1) := by decide +kernel
theorem d_Mo_type_174 : decode prog_12_method_5_code 174 = .ok (.iastore, 1) := by decide +kernel
theorem d_Mo_type_175 : decode prog_12_method_5_code 175 = .ok (.aload_n 0, 1) := by decide +kernel
theorem d_Mo_type_176 : decode prog_12_method_5_code 176 = .ok (.getfield 13, 3) := by decide +kernel
theorem d_Mo_type_179 : decode prog_12_method_5_code 179 = .ok (.iload_n 1, 1) := by decide +kernel
theorem d_Mo_type_180 : decode prog_12_method_5_code 180 = .ok (.dup2, 1) := by decide +kernel
theorem d_Mo_type_181 : decode prog_12_method_5_code 181 = .ok (.iaload, 1) := by decide +kernel
theorem d_Mo_type_182 : decode prog_12_method_5_code 182 = .ok (.iconst 1, 1) := by decide +kernel
theorem d_Mo_type_183 : decode prog_12_method_5_code 183 = .ok (.iadd, 1) := by decide +kernel
theorem d_Mo_type_184 : decode prog_12_method_5_code 184 = .ok (.iastore, 1) := by decide +kernel
theorem d_Mo_type_185 : decode prog_12_method_5_code 185 = .ok (.iinc 5 1, 3) := by decide +kernel
theorem d_Mo_type_188 : decode prog_12_method_5_code 188 = .ok (.goto (-51), 3) := by decide +kernel
theorem d_Mo_type_191 : decode prog_12_method_5_code 191 = .ok (.aload_n 0, 1) := by decide +kernel
theorem d_Mo_type_192 : decode prog_12_method_5_code 192 = .ok (.iconst 0, 1) := by decide +kernel
theorem d_Mo_type_193 : decode prog_12_method_5_code 193 = .ok (.putfield 61, 3) := by decide +kernel
theorem d_Mo_type_196 : decode prog_12_method_5_code 196 = .ok (.aload_n 0, 1) := by decide +kernel
theorem d_Mo_type_197 : decode prog_12_method_5_code 197 = .ok (.getfield 13, 3) := by decide +kernel
theorem d_Mo_type_200 : decode prog_12_method_5_code 200 = .ok (.iload_n 1, 1) := by decide +kernel
theorem d_Mo_type_201 : decode prog_12_method_5_code 201 = .ok (.iaload, 1) := by decide +kernel
theorem d_Mo_type_202 : decode prog_12_method_5_code 202 = .ok (.ireturn, 1) := by decide +kernel
theorem d_Mo_noRow_0 : decode prog_12_method_4_code 0 = .ok (.aload_n 0, 1) := by decide +kernel
theorem d_Mo_noRow_1 : decode prog_12_method_4_code 1 = .ok (.iload_n 1, 1) := by decide +kernel
theorem d_Mo_noRow_2 : decode prog_12_method_4_code 2 = .ok (.ifCond .lt 8, 3) := by decide +kernel
theorem d_Mo_noRow_5 : decode prog_12_method_4_code 5 = .ok (.iload_n 1, 1) := by decide +kernel
theorem d_Mo_noRow_6 : decode prog_12_method_4_code 6 = .ok (.iconst 1, 1) := by decide +kernel
theorem d_Mo_noRow_7 : decode prog_12_method_4_code 7 = .ok (.if_icmp .le 7, 3) := by decide +kernel
theorem d_Mo_noRow_10 : decode prog_12_method_4_code 10 = .ok (.iconst 1, 1) := by decide +kernel
theorem d_Mo_noRow_11 : decode prog_12_method_4_code 11 = .ok (.goto 4, 3) := by decide +kernel
theorem d_Mo_noRow_14 : decode prog_12_method_4_code 14 = .ok (.iconst 0, 1) := by decide +kernel
theorem d_Mo_noRow_15 : decode prog_12_method_4_code 15 = .ok (.putfield 52, 3) := by decide +kernel
theorem d_Mo_noRow_18 : decode prog_12_method_4_code 18 = .ok (.aload_n 0, 1) := by decide +kernel
theorem d_Mo_noRow_19 : decode prog_12_method_4_code 19 = .ok (.getfield 52, 3) := by decide +kernel
theorem d_Mo_noRow_22 : decode prog_12_method_4_code 22 = .ok (.ifCond .le 7, 3) := by decide +kernel
theorem d_Mo_noRow_25 : decode prog_12_method_4_code 25 = .ok (.iconst 1, 1) := by decide +kernel
theorem d_Mo_noRow_26 : decode prog_12_method_4_code 26 = .ok (.goto 4, 3) := by decide +kernel
theorem d_Mo_noRow_29 : decode prog_12_method_4_code 29 = .ok (.iconst 0, 1) := by decide +kernel
theorem d_Mo_noRow_30 : decode prog_12_method_4_code 30 = .ok (.ireturn, 1) := by decide +kernel
theorem d_Mo_cut_0 : decode prog_12_method_6_code 0 = .ok (.aload_n 0, 1) := by decide +kernel
theorem d_Mo_cut_1 : decode prog_12_method_6_code 1 = .ok (.iload_n 1, 1) := by decide +kernel
theorem d_Mo_cut_2 : decode prog_12_method_6_code 2 = .ok (.invokevirtual 55, 3) := by decide +kernel
theorem d_Mo_cut_5 : decode prog_12_method_6_code 5 = .ok (.ifCond .eq 4, 3) := by decide +kernel
theorem d_Mo_cut_8 : decode prog_12_method_6_code 8 = .ok (.return_, 1) := by decide +kernel
theorem d_Mo_cut_9 : decode prog_12_method_6_code 9 = .ok (.aload_n 0, 1) := by decide +kernel
theorem d_Mo_cut_10 : decode prog_12_method_6_code 10 = .ok (.iload_n 2, 1) := by decide +kernel
theorem d_Mo_cut_11 : decode prog_12_method_6_code 11 = .ok (.ifCond .lt 13, 3) := by decide +kernel
theorem d_Mo_cut_14 : decode prog_12_method_6_code 14 = .ok (.iload_n 2, 1) := by decide +kernel
theorem d_Mo_cut_15 : decode prog_12_method_6_code 15 = .ok (.aload_n 0, 1) := by decide +kernel
theorem d_Mo_cut_16 : decode prog_12_method_6_code 16 = .ok (.getfield 13, 3) := by decide +kernel
theorem d_Mo_cut_19 : decode prog_12_method_6_code 19 = .ok (.iload_n 1, 1) := by decide +kernel
theorem d_Mo_cut_20 : decode prog_12_method_6_code 20 = .ok (.iaload, 1) := by decide +kernel
theorem d_Mo_cut_21 : decode prog_12_method_6_code 21 = .ok (.if_icmp .le 7, 3) := by decide +kernel
theorem d_Mo_cut_24 : decode prog_12_method_6_code 24 = .ok (.iconst 2, 1) := by decide +kernel
theorem d_Mo_cut_25 : decode prog_12_method_6_code 25 = .ok (.goto 4, 3) := by decide +kernel
theorem d_Mo_cut_28 : decode prog_12_method_6_code 28 = .ok (.iconst 0, 1) := by decide +kernel
theorem d_Mo_cut_29 : decode prog_12_method_6_code 29 = .ok (.putfield 52, 3) := by decide +kernel
theorem d_Mo_cut_32 : decode prog_12_method_6_code 32 = .ok (.aload_n 0, 1) := by decide +kernel
theorem d_Mo_cut_33 : decode prog_12_method_6_code 33 = .ok (.getfield 52, 3) := by decide +kernel
theorem d_Mo_cut_36 : decode prog_12_method_6_code 36 = .ok (.ifCond .ne 15, 3) := by decide +kernel
theorem d_Mo_cut_39 : decode prog_12_method_6_code 39 = .ok (.aload_n 0, 1) := by decide +kernel
theorem d_Mo_cut_40 : decode prog_12_method_6_code 40 = .ok (.getfield 13, 3) := by decide +kernel
theorem d_Mo_cut_43 : decode prog_12_method_6_code 43 = .ok (.iload_n 1, 1) := by decide +kernel
theorem d_Mo_cut_44 : decode prog_12_method_6_code 44 = .ok (.iload_n 2, 1) := by decide +kernel
theorem d_Mo_cut_45 : decode prog_12_method_6_code 45 = .ok (.iastore, 1) := by decide +kernel
theorem d_Mo_cut_46 : decode prog_12_method_6_code 46 = .ok (.aload_n 0, 1) := by decide +kernel
theorem d_Mo_cut_47 : decode prog_12_method_6_code 47 = .ok (.iconst 0, 1) := by decide +kernel
theorem d_Mo_cut_48 : decode prog_12_method_6_code 48 = .ok (.putfield 61, 3) := by decide +kernel
theorem d_Mo_cut_51 : decode prog_12_method_6_code 51 = .ok (.return_, 1) := by decide +kernel
theorem d_Mo_turn_0 : decode prog_12_method_7_code 0 = .ok (.aload_n 0, 1) := by decide +kernel
theorem d_Mo_turn_1 : decode prog_12_method_7_code 1 = .ok (.iload_n 1, 1) := by decide +kernel
theorem d_Mo_turn_2 : decode prog_12_method_7_code 2 = .ok (.invokevirtual 55, 3) := by decide +kernel
theorem d_Mo_turn_5 : decode prog_12_method_7_code 5 = .ok (.ifCond .eq 4, 3) := by decide +kernel
theorem d_Mo_turn_8 : decode prog_12_method_7_code 8 = .ok (.return_, 1) := by decide +kernel
theorem d_Mo_turn_9 : decode prog_12_method_7_code 9 = .ok (.iconst 0, 1) := by decide +kernel
theorem d_Mo_turn_10 : decode prog_12_method_7_code 10 = .ok (.istore_n 2, 1) := by decide +kernel
theorem d_Mo_turn_11 : decode prog_12_method_7_code 11 = .ok (.iload_n 2, 1) := by decide +kernel
theorem d_Mo_turn_12 : decode prog_12_method_7_code 12 = .ok (.aload_n 0, 1) := by decide +kernel
theorem d_Mo_turn_13 : decode prog_12_method_7_code 13 = .ok (.getfield 13, 3) := by decide +kernel
theorem d_Mo_turn_16 : decode prog_12_method_7_code 16 = .ok (.iload_n 1, 1) := by decide +kernel
theorem d_Mo_turn_17 : decode prog_12_method_7_code 17 = .ok (.iaload, 1) := by decide +kernel
theorem d_Mo_turn_18 : decode prog_12_method_7_code 18 = .ok (.iconst 2, 1) := by decide +kernel
theorem d_Mo_turn_19 : decode prog_12_method_7_code 19 = .ok (.idiv, 1) := by decide +kernel
theorem d_Mo_turn_20 : decode prog_12_method_7_code 20 = .ok (.if_icmp .ge 63, 3) := by decide +kernel
theorem d_Mo_turn_23 : decode prog_12_method_7_code 23 = .ok (.bipush 96, 2) := by decide +kernel
theorem d_Mo_turn_25 : decode prog_12_method_7_code 25 = .ok (.iload_n 1, 1) := by decide +kernel
theorem d_Mo_turn_26 : decode prog_12_method_7_code 26 = .ok (.imul, 1) := by decide +kernel
theorem d_Mo_turn_27 : decode prog_12_method_7_code 27 = .ok (.iload_n 2, 1) := by decide +kernel
theorem d_Mo_turn_28 : decode prog_12_method_7_code 28 = .ok (.iadd, 1) := by decide +kernel
theorem d_Mo_turn_29 : decode prog_12_method_7_code 29 = .ok (.istore_n 3, 1) := by decide +kernel
theorem d_Mo_turn_30 : decode prog_12_method_7_code 30 = .ok (.bipush 96, 2) := by decide +kernel
theorem d_Mo_turn_32 : decode prog_12_method_7_code 32 = .ok (.iload_n 1, 1) := by decide +kernel
theorem d_Mo_turn_33 : decode prog_12_method_7_code 33 = .ok (.imul, 1) := by decide +kernel
theorem d_Mo_turn_34 : decode prog_12_method_7_code 34 = .ok (.aload_n 0, 1) := by decide +kernel
theorem d_Mo_turn_35 : decode prog_12_method_7_code 35 = .ok (.getfield 13, 3) := by decide +kernel
theorem d_Mo_turn_38 : decode prog_12_method_7_code 38 = .ok (.iload_n 1, 1) := by decide +kernel
theorem d_Mo_turn_39 : decode prog_12_method_7_code 39 = .ok (.iaload, 1) := by decide +kernel
theorem d_Mo_turn_40 : decode prog_12_method_7_code 40 = .ok (.iadd, 1) := by decide +kernel
theorem d_Mo_turn_41 : decode prog_12_method_7_code 41 = .ok (.iconst 1, 1) := by decide +kernel
theorem d_Mo_turn_42 : decode prog_12_method_7_code 42 = .ok (.isub, 1) := by decide +kernel
theorem d_Mo_turn_43 : decode prog_12_method_7_code 43 = .ok (.iload_n 2, 1) := by decide +kernel
theorem d_Mo_turn_44 : decode prog_12_method_7_code 44 = .ok (.isub, 1) := by decide +kernel
theorem d_Mo_turn_45 : decode prog_12_method_7_code 45 = .ok (.istore 4, 2) := by decide +kernel
theorem d_Mo_turn_47 : decode prog_12_method_7_code 47 = .ok (.aload_n 0, 1) := by decide +kernel
theorem d_Mo_turn_48 : decode prog_12_method_7_code 48 = .ok (.getfield 7, 3) := by decide +kernel
theorem d_Mo_turn_51 : decode prog_12_method_7_code 51 = .ok (.iload_n 3, 1) := by decide +kernel
theorem d_Mo_turn_52 : decode prog_12_method_7_code 52 = .ok (.iaload, 1) := by decide +kernel
theorem d_Mo_turn_53 : decode prog_12_method_7_code 53 = .ok (.istore 5, 2) := by decide +kernel
theorem d_Mo_turn_55 : decode prog_12_method_7_code 55 = .ok (.aload_n 0, 1) := by decide +kernel
theorem d_Mo_turn_56 : decode prog_12_method_7_code 56 = .ok (.getfield 7, 3) := by decide +kernel
theorem d_Mo_turn_59 : decode prog_12_method_7_code 59 = .ok (.iload_n 3, 1) := by decide +kernel
theorem d_Mo_turn_60 : decode prog_12_method_7_code 60 = .ok (.aload_n 0, 1) := by decide +kernel
theorem d_Mo_turn_61 : decode prog_12_method_7_code 61 = .ok (.getfield 7, 3) := by decide +kernel
theorem d_Mo_turn_64 : decode prog_12_method_7_code 64 = .ok (.iload 4, 2) := by decide +kernel
theorem d_Mo_turn_66 : decode prog_12_method_7_code 66 = .ok (.iaload, 1) := by decide +kernel
theorem d_Mo_turn_67 : decode prog_12_method_7_code 67 = .ok (.iastore, 1) := by decide +kernel
theorem d_Mo_turn_68 : decode prog_12_method_7_code 68 = .ok (.aload_n 0, 1) := by decide +kernel
theorem d_Mo_turn_69 : decode prog_12_method_7_code 69 = .ok (.getfield 7, 3) := by decide +kernel
theorem d_Mo_turn_72 : decode prog_12_method_7_code 72 = .ok (.iload 4, 2) := by decide +kernel
theorem d_Mo_turn_74 : decode prog_12_method_7_code 74 = .ok (.iload 5, 2) := by decide +kernel
theorem d_Mo_turn_76 : decode prog_12_method_7_code 76 = .ok (.iastore, 1) := by decide +kernel
theorem d_Mo_turn_77 : decode prog_12_method_7_code 77 = .ok (.iinc 2 1, 3) := by decide +kernel
theorem d_Mo_turn_80 : decode prog_12_method_7_code 80 = .ok (.goto (-69), 3) := by decide +kernel
theorem d_Mo_turn_83 : decode prog_12_method_7_code 83 = .ok (.aload_n 0, 1) := by decide +kernel
theorem d_Mo_turn_84 : decode prog_12_method_7_code 84 = .ok (.iconst 0, 1) := by decide +kernel
theorem d_Mo_turn_85 : decode prog_12_method_7_code 85 = .ok (.putfield 61, 3) := by decide +kernel
theorem d_Mo_turn_88 : decode prog_12_method_7_code 88 = .ok (.return_, 1) := by decide +kernel
theorem d_Mo_letter_0 : decode prog_12_method_8_code 0 = .ok (.aload_n 0, 1) := by decide +kernel
theorem d_Mo_letter_1 : decode prog_12_method_8_code 1 = .ok (.iload_n 1, 1) := by decide +kernel
theorem d_Mo_letter_2 : decode prog_12_method_8_code 2 = .ok (.ifCond .lt 22, 3) := by decide +kernel
theorem d_Mo_letter_5 : decode prog_12_method_8_code 5 = .ok (.iload_n 1, 1) := by decide +kernel
theorem d_Mo_letter_6 : decode prog_12_method_8_code 6 = .ok (.iconst 1, 1) := by decide +kernel
theorem d_Mo_letter_7 : decode prog_12_method_8_code 7 = .ok (.if_icmp .gt 17, 3) := by decide +kernel
theorem d_Mo_letter_10 : decode prog_12_method_8_code 10 = .ok (.iload_n 2, 1) := by decide +kernel
theorem d_Mo_letter_11 : decode prog_12_method_8_code 11 = .ok (.ifCond .lt 13, 3) := by decide +kernel
theorem d_Mo_letter_14 : decode prog_12_method_8_code 14 = .ok (.iload_n 2, 1) := by decide +kernel
theorem d_Mo_letter_15 : decode prog_12_method_8_code 15 = .ok (.aload_n 0, 1) := by decide +kernel
theorem d_Mo_letter_16 : decode prog_12_method_8_code 16 = .ok (.getfield 13, 3) := by decide +kernel
theorem d_Mo_letter_19 : decode prog_12_method_8_code 19 = .ok (.iload_n 1, 1) := by decide +kernel
theorem d_Mo_letter_20 : decode prog_12_method_8_code 20 = .ok (.iaload, 1) := by decide +kernel
theorem d_Mo_letter_21 : decode prog_12_method_8_code 21 = .ok (.if_icmp .lt 7, 3) := by decide +kernel
theorem d_Mo_letter_24 : decode prog_12_method_8_code 24 = .ok (.iconst 1, 1) := by decide +kernel
theorem d_Mo_letter_25 : decode prog_12_method_8_code 25 = .ok (.goto 4, 3) := by decide +kernel
theorem d_Mo_letter_28 : decode prog_12_method_8_code 28 = .ok (.iconst 0, 1) := by decide +kernel
theorem d_Mo_letter_29 : decode prog_12_method_8_code 29 = .ok (.putfield 52, 3) := by decide +kernel
theorem d_Mo_letter_32 : decode prog_12_method_8_code 32 = .ok (.aload_n 0, 1) := by decide +kernel
theorem d_Mo_letter_33 : decode prog_12_method_8_code 33 = .ok (.getfield 52, 3) := by decide +kernel
theorem d_Mo_letter_36 : decode prog_12_method_8_code 36 = .ok (.ifCond .le 7, 3) := by decide +kernel
theorem d_Mo_letter_39 : decode prog_12_method_8_code 39 = .ok (.iconst 0, 1) := by decide +kernel
theorem d_Mo_letter_40 : decode prog_12_method_8_code 40 = .ok (.goto 14, 3) := by decide +kernel
theorem d_Mo_letter_43 : decode prog_12_method_8_code 43 = .ok (.aload_n 0, 1) := by decide +kernel
theorem d_Mo_letter_44 : decode prog_12_method_8_code 44 = .ok (.getfield 7, 3) := by decide +kernel
theorem d_Mo_letter_47 : decode prog_12_method_8_code 47 = .ok (.bipush 96, 2) := by decide +kernel
theorem d_Mo_letter_49 : decode prog_12_method_8_code 49 = .ok (.iload_n 1, 1) := by decide +kernel
theorem d_Mo_letter_50 : decode prog_12_method_8_code 50 = .ok (.imul, 1) := by decide +kernel
theorem d_Mo_letter_51 : decode prog_12_method_8_code 51 = .ok (.iload_n 2, 1) := by decide +kernel
theorem d_Mo_letter_52 : decode prog_12_method_8_code 52 = .ok (.iadd, 1) := by decide +kernel
theorem d_Mo_letter_53 : decode prog_12_method_8_code 53 = .ok (.iaload, 1) := by decide +kernel
theorem d_Mo_letter_54 : decode prog_12_method_8_code 54 = .ok (.ireturn, 1) := by decide +kernel
theorem d_Mo_size_0 : decode prog_12_method_9_code 0 = .ok (.aload_n 0, 1) := by decide +kernel
theorem d_Mo_size_1 : decode prog_12_method_9_code 1 = .ok (.iload_n 1, 1) := by decide +kernel
theorem d_Mo_size_2 : decode prog_12_method_9_code 2 = .ok (.invokevirtual 55, 3) := by decide +kernel
theorem d_Mo_size_5 : decode prog_12_method_9_code 5 = .ok (.ifCond .eq 7, 3) := by decide +kernel
theorem d_Mo_size_8 : decode prog_12_method_9_code 8 = .ok (.iconst 0, 1) := by decide +kernel
theorem d_Mo_size_9 : decode prog_12_method_9_code 9 = .ok (.goto 9, 3) := by decide +kernel
theorem d_Mo_size_12 : decode prog_12_method_9_code 12 = .ok (.aload_n 0, 1) := by decide +kernel
theorem d_Mo_size_13 : decode prog_12_method_9_code 13 = .ok (.getfield 13, 3) := by decide +kernel
theorem d_Mo_size_16 : decode prog_12_method_9_code 16 = .ok (.iload_n 1, 1) := by decide +kernel
theorem d_Mo_size_17 : decode prog_12_method_9_code 17 = .ok (.iaload, 1) := by decide +kernel
theorem d_Mo_size_18 : decode prog_12_method_9_code 18 = .ok (.ireturn, 1) := by decide +kernel
theorem d_Mo_score_0 : decode prog_12_method_11_code 0 = .ok (.aload_n 0, 1) := by decide +kernel
theorem d_Mo_score_1 : decode prog_12_method_11_code 1 = .ok (.iload_n 1, 1) := by decide +kernel
theorem d_Mo_score_2 : decode prog_12_method_11_code 2 = .ok (.iconst 0, 1) := by decide +kernel
theorem d_Mo_score_3 : decode prog_12_method_11_code 3 = .ok (.bipush 25, 2) := by decide +kernel
theorem d_Mo_score_5 : decode prog_12_method_11_code 5 = .ok (.invokestatic 65, 3) := by decide +kernel
theorem d_Mo_score_8 : decode prog_12_method_11_code 8 = .ok (.ifCond .eq 13, 3) := by decide +kernel
theorem d_Mo_score_11 : decode prog_12_method_11_code 11 = .ok (.iload_n 2, 1) := by decide +kernel
theorem d_Mo_score_12 : decode prog_12_method_11_code 12 = .ok (.iconst 0, 1) := by decide +kernel
theorem d_Mo_score_13 : decode prog_12_method_11_code 13 = .ok (.bipush 25, 2) := by decide +kernel
theorem d_Mo_score_15 : decode prog_12_method_11_code 15 = .ok (.invokestatic 65, 3) := by decide +kernel
theorem d_Mo_score_18 : decode prog_12_method_11_code 18 = .ok (.ifCond .ne 7, 3) := by decide +kernel
theorem d_Mo_score_21 : decode prog_12_method_11_code 21 = .ok (.iconst 1, 1) := by decide +kernel
theorem d_Mo_score_22 : decode prog_12_method_11_code 22 = .ok (.goto 21, 3) := by decide +kernel
theorem d_Mo_score_25 : decode prog_12_method_11_code 25 = .ok (.iload_n 3, 1) := by decide +kernel
theorem d_Mo_score_26 : decode prog_12_method_11_code 26 = .ok (.sipush (-512), 3) := by decide +kernel
theorem d_Mo_score_29 : decode prog_12_method_11_code 29 = .ok (.sipush 512, 3) := by decide +kernel
theorem d_Mo_score_32 : decode prog_12_method_11_code 32 = .ok (.invokestatic 65, 3) := by decide +kernel
theorem d_Mo_score_35 : decode prog_12_method_11_code 35 = .ok (.ifCond .eq 7, 3) := by decide +kernel
theorem d_Mo_score_38 : decode prog_12_method_11_code 38 = .ok (.iconst 0, 1) := by decide +kernel
theorem d_Mo_score_39 : decode prog_12_method_11_code 39 = .ok (.goto 4, 3) := by decide +kernel
theorem d_Mo_score_42 : decode prog_12_method_11_code 42 = .ok (.iconst 2, 1) := by decide +kernel
theorem d_Mo_score_43 : decode prog_12_method_11_code 43 = .ok (.putfield 52, 3) := by decide +kernel
theorem d_Mo_score_46 : decode prog_12_method_11_code 46 = .ok (.aload_n 0, 1) := by decide +kernel
theorem d_Mo_score_47 : decode prog_12_method_11_code 47 = .ok (.getfield 52, 3) := by decide +kernel
theorem d_Mo_score_50 : decode prog_12_method_11_code 50 = .ok (.ifCond .ne 20, 3) := by decide +kernel
theorem d_Mo_score_53 : decode prog_12_method_11_code 53 = .ok (.aload_n 0, 1) := by decide +kernel
theorem d_Mo_score_54 : decode prog_12_method_11_code 54 = .ok (.getfield 16, 3) := by decide +kernel
theorem d_Mo_score_57 : decode prog_12_method_11_code 57 = .ok (.bipush 26, 2) := by decide +kernel
theorem d_Mo_score_59 : decode prog_12_method_11_code 59 = .ok (.iload_n 1, 1) := by decide +kernel
theorem d_Mo_score_60 : decode prog_12_method_11_code 60 = .ok (.imul, 1) := by decide +kernel
theorem d_Mo_score_61 : decode prog_12_method_11_code 61 = .ok (.iload_n 2, 1) := by decide +kernel
theorem d_Mo_score_62 : decode prog_12_method_11_code 62 = .ok (.iadd, 1) := by decide +kernel
theorem d_Mo_score_63 : decode prog_12_method_11_code 63 = .ok (.iload_n 3, 1) := by decide +kernel
theorem d_Mo_score_64 : decode prog_12_method_11_code 64 = .ok (.iastore, 1) := by decide +kernel
theorem d_Mo_score_65 : decode prog_12_method_11_code 65 = .ok (.aload_n 0, 1) := by decide +kernel
theorem d_Mo_score_66 : decode prog_12_method_11_code 66 = .ok (.iconst 0, 1) := by decide +kernel
theorem d_Mo_score_67 : decode prog_12_method_11_code 67 = .ok (.putfield 61, 3) := by decide +kernel
theorem d_Mo_score_70 : decode prog_12_method_11_code 70 = .ok (.return_, 1) := by decide +kernel
theorem d_Mo_isIn_0 : decode prog_12_method_10_code 0 = .ok (.iload_n 0, 1) := by decide +kernel
theorem d_Mo_isIn_1 : decode prog_12_method_10_code 1 = .ok (.iload_n 1, 1) := by decide +kernel
theorem d_Mo_isIn_2 : decode prog_12_method_10_code 2 = .ok (.if_icmp .lt 12, 3) := by decide +kernel
theorem d_Mo_isIn_5 : decode prog_12_method_10_code 5 = .ok (.iload_n 0, 1) := by decide +kernel
theorem d_Mo_isIn_6 : decode prog_12_method_10_code 6 = .ok (.iload_n 2, 1) := by decide +kernel
theorem d_Mo_isIn_7 : decode prog_12_method_10_code 7 = .ok (.if_icmp .gt 7, 3) := by decide +kernel
theorem d_Mo_isIn_10 : decode prog_12_method_10_code 10 = .ok (.iconst 1, 1) := by decide +kernel
theorem d_Mo_isIn_11 : decode prog_12_method_10_code 11 = .ok (.goto 4, 3) := by decide +kernel
theorem d_Mo_isIn_14 : decode prog_12_method_10_code 14 = .ok (.iconst 0, 1) := by decide +kernel
theorem d_Mo_isIn_15 : decode prog_12_method_10_code 15 = .ok (.ireturn, 1) := by decide +kernel
theorem d_Mo_scores_0 : decode prog_12_method_12_code 0 = .ok (.aload_n 0, 1) := by decide +kernel
theorem d_Mo_scores_1 : decode prog_12_method_12_code 1 = .ok (.iload_n 1, 1) := by decide +kernel
theorem d_Mo_scores_2 : decode prog_12_method_12_code 2 = .ok (.sipush (-512), 3) := by decide +kernel
theorem d_Mo_scores_5 : decode prog_12_method_12_code 5 = .ok (.sipush 512, 3) := by decide +kernel
theorem d_Mo_scores_8 : decode prog_12_method_12_code 8 = .ok (.invokestatic 65, 3) := by decide +kernel
theorem d_Mo_scores_11 : decode prog_12_method_12_code 11 = .ok (.ifCond .eq 20, 3) := by decide +kernel
theorem d_Mo_scores_14 : decode prog_12_method_12_code 14 = .ok (.iload_n 2, 1) := by decide +kernel
theorem d_Mo_scores_15 : decode prog_12_method_12_code 15 = .ok (.sipush (-512), 3) := by decide +kernel
theorem d_Mo_scores_18 : decode prog_12_method_12_code 18 = .ok (.sipush 512, 3) := by decide +kernel
theorem d_Mo_scores_21 : decode prog_12_method_12_code 21 = .ok (.invokestatic 65, 3) := by decide +kernel
theorem d_Mo_scores_24 : decode prog_12_method_12_code 24 = .ok (.ifCond .eq 7, 3) := by decide +kernel
theorem d_Mo_scores_27 : decode prog_12_method_12_code 27 = .ok (.iconst 0, 1) := by decide +kernel
theorem d_Mo_scores_28 : decode prog_12_method_12_code 28 = .ok (.goto 4, 3) := by decide +kernel
theorem d_Mo_scores_31 : decode prog_12_method_12_code 31 = .ok (.iconst 1, 1) := by decide +kernel
theorem d_Mo_scores_32 : decode prog_12_method_12_code 32 = .ok (.putfield 52, 3) := by decide +kernel
theorem d_Mo_scores_35 : decode prog_12_method_12_code 35 = .ok (.aload_n 0, 1) := by decide +kernel
theorem d_Mo_scores_36 : decode prog_12_method_12_code 36 = .ok (.getfield 52, 3) := by decide +kernel
theorem d_Mo_scores_39 : decode prog_12_method_12_code 39 = .ok (.ifCond .ne 14, 3) := by decide +kernel
theorem d_Mo_scores_42 : decode prog_12_method_12_code 42 = .ok (.aload_n 0, 1) := by decide +kernel
theorem d_Mo_scores_43 : decode prog_12_method_12_code 43 = .ok (.iload_n 1, 1) := by decide +kernel
theorem d_Mo_scores_44 : decode prog_12_method_12_code 44 = .ok (.iload_n 2, 1) := by decide +kernel
theorem d_Mo_scores_45 : decode prog_12_method_12_code 45 = .ok (.invokevirtual 48, 3) := by decide +kernel
theorem d_Mo_scores_48 : decode prog_12_method_12_code 48 = .ok (.aload_n 0, 1) := by decide +kernel
theorem d_Mo_scores_49 : decode prog_12_method_12_code 49 = .ok (.iconst 0, 1) := by decide +kernel
theorem d_Mo_scores_50 : decode prog_12_method_12_code 50 = .ok (.putfield 61, 3) := by decide +kernel
theorem d_Mo_scores_53 : decode prog_12_method_12_code 53 = .ok (.return_, 1) := by decide +kernel
theorem d_Mo_costs_0 : decode prog_12_method_13_code 0 = .ok (.aload_n 0, 1) := by decide +kernel
theorem d_Mo_costs_1 : decode prog_12_method_13_code 1 = .ok (.iload_n 1, 1) := by decide +kernel
theorem d_Mo_costs_2 : decode prog_12_method_13_code 2 = .ok (.iconst 0, 1) := by decide +kernel
theorem d_Mo_costs_3 : decode prog_12_method_13_code 3 = .ok (.sipush 512, 3) := by decide +kernel
theorem d_Mo_costs_6 : decode prog_12_method_13_code 6 = .ok (.invokestatic 65, 3) := by decide +kernel
theorem d_Mo_costs_9 : decode prog_12_method_13_code 9 = .ok (.ifCond .eq 18, 3) := by decide +kernel
theorem d_Mo_costs_12 : decode prog_12_method_13_code 12 = .ok (.iload_n 2, 1) := by decide +kernel
theorem d_Mo_costs_13 : decode prog_12_method_13_code 13 = .ok (.iconst 0, 1) := by decide +kernel
theorem d_Mo_costs_14 : decode prog_12_method_13_code 14 = .ok (.sipush 512, 3) := by decide +kernel
theorem d_Mo_costs_17 : decode prog_12_method_13_code 17 = .ok (.invokestatic 65, 3) := by decide +kernel
theorem d_Mo_costs_20 : decode prog_12_method_13_code 20 = .ok (.ifCond .eq 7, 3) := by decide +kernel
theorem d_Mo_costs_23 : decode prog_12_method_13_code 23 = .ok (.iconst 0, 1) := by decide +kernel
theorem d_Mo_costs_24 : decode prog_12_method_13_code 24 = .ok (.goto 4, 3) := by decide +kernel
theorem d_Mo_costs_27 : decode prog_12_method_13_code 27 = .ok (.iconst 1, 1) := by decide +kernel
theorem d_Mo_costs_28 : decode prog_12_method_13_code 28 = .ok (.putfield 52, 3) := by decide +kernel
theorem d_Mo_costs_31 : decode prog_12_method_13_code 31 = .ok (.aload_n 0, 1) := by decide +kernel
theorem d_Mo_costs_32 : decode prog_12_method_13_code 32 = .ok (.getfield 52, 3) := by decide +kernel
theorem d_Mo_costs_35 : decode prog_12_method_13_code 35 = .ok (.ifCond .ne 18, 3) := by decide +kernel
theorem d_Mo_costs_38 : decode prog_12_method_13_code 38 = .ok (.aload_n 0, 1) := by decide +kernel
theorem d_Mo_costs_39 : decode prog_12_method_13_code 39 = .ok (.iload_n 1, 1) := by decide +kernel
theorem d_Mo_costs_40 : decode prog_12_method_13_code 40 = .ok (.putfield 19, 3) := by decide +kernel
theorem d_Mo_costs_43 : decode prog_12_method_13_code 43 = .ok (.aload_n 0, 1) := by decide +kernel
theorem d_Mo_costs_44 : decode prog_12_method_13_code 44 = .ok (.iload_n 2, 1) := by decide +kernel
theorem d_Mo_costs_45 : decode prog_12_method_13_code 45 = .ok (.putfield 23, 3) := by decide +kernel
theorem d_Mo_costs_48 : decode prog_12_method_13_code 48 = .ok (.aload_n 0, 1) := by decide +kernel
theorem d_Mo_costs_49 : decode prog_12_method_13_code 49 = .ok (.iconst 0, 1) := by decide +kernel
theorem d_Mo_costs_50 : decode prog_12_method_13_code 50 = .ok (.putfield 61, 3) := by decide +kernel
theorem d_Mo_costs_53 : decode prog_12_method_13_code 53 = .ok (.return_, 1) := by decide +kernel
theorem d_Mo_whole_0 : decode prog_12_method_25_code 0 = .ok (.aload_n 0, 1) := by decide +kernel
theorem d_Mo_whole_1 : decode prog_12_method_25_code 1 = .ok (.iload_n 1, 1) := by decide +kernel
theorem d_Mo_whole_2 : decode prog_12_method_25_code 2 = .ok (.iconst 0, 1) := by decide +kernel
theorem d_Mo_whole_3 : decode prog_12_method_25_code 3 = .ok (.bipush 15, 2) := by decide +kernel
theorem d_Mo_whole_5 : decode prog_12_method_25_code 5 = .ok (.invokestatic 65, 3) := by decide +kernel
theorem d_Mo_whole_8 : decode prog_12_method_25_code 8 = .ok (.ifCond .eq 7, 3) := by decide +kernel
theorem d_Mo_whole_11 : decode prog_12_method_25_code 11 = .ok (.iconst 0, 1) := by decide +kernel
theorem d_Mo_whole_12 : decode prog_12_method_25_code 12 = .ok (.goto 4, 3) := by decide +kernel
theorem d_Mo_whole_15 : decode prog_12_method_25_code 15 = .ok (.iconst 1, 1) := by decide +kernel
theorem d_Mo_whole_16 : decode prog_12_method_25_code 16 = .ok (.putfield 52, 3) := by decide +kernel
theorem d_Mo_whole_19 : decode prog_12_method_25_code 19 = .ok (.aload_n 0, 1) := by decide +kernel
theorem d_Mo_whole_20 : decode prog_12_method_25_code 20 = .ok (.getfield 52, 3) := by decide +kernel
theorem d_Mo_whole_23 : decode prog_12_method_25_code 23 = .ok (.ifCond .le 5, 3) := by decide +kernel
theorem d_Mo_whole_26 : decode prog_12_method_25_code 26 = .ok (.iconst 0, 1) := by decide +kernel
theorem d_Mo_whole_27 : decode prog_12_method_25_code 27 = .ok (.ireturn, 1) := by decide +kernel
theorem d_Mo_whole_28 : decode prog_12_method_25_code 28 = .ok (.aload_n 0, 1) := by decide +kernel
theorem d_Mo_whole_29 : decode prog_12_method_25_code 29 = .ok (.iload_n 1, 1) := by decide +kernel
theorem d_Mo_whole_30 : decode prog_12_method_25_code 30 = .ok (.putfield 69, 3) := by decide +kernel
theorem d_Mo_whole_33 : decode prog_12_method_25_code 33 = .ok (.aload_n 0, 1) := by decide +kernel
theorem d_Mo_whole_34 : decode prog_12_method_25_code 34 = .ok (.iconst 0, 1) := by decide +kernel
theorem d_Mo_whole_35 : decode prog_12_method_25_code 35 = .ok (.putfield 76, 3) := by decide +kernel
theorem d_Mo_whole_38 : decode prog_12_method_25_code 38 = .ok (.aload_n 0, 1) := by decide +kernel
theorem d_Mo_whole_39 : decode prog_12_method_25_code 39 = .ok (.invokevirtual 110, 3) := by decide +kernel
theorem d_Mo_whole_42 : decode prog_12_method_25_code 42 = .ok (.aload_n 0, 1) := by decide +kernel
theorem d_Mo_whole_43 : decode prog_12_method_25_code 43 = .ok (.getfield 29, 3) := by decide +kernel
theorem d_Mo_whole_46 : decode prog_12_method_25_code 46 = .ok (.iconst 0, 1) := by decide +kernel
theorem d_Mo_whole_47 : decode prog_12_method_25_code 47 = .ok (.iconst 0, 1) := by decide +kernel
theorem d_Mo_whole_48 : decode prog_12_method_25_code 48 = .ok (.iastore, 1) := by decide +kernel
theorem d_Mo_whole_49 : decode prog_12_method_25_code 49 = .ok (.aload_n 0, 1) := by decide +kernel
theorem d_Mo_whole_50 : decode prog_12_method_25_code 50 = .ok (.getfield 29, 3) := by decide +kernel
theorem d_Mo_whole_53 : decode prog_12_method_25_code 53 = .ok (.iconst 1, 1) := by decide +kernel
theorem d_Mo_whole_54 : decode prog_12_method_25_code 54 = .ok (.iconst 0, 1) := by decide +kernel
theorem d_Mo_whole_55 : decode prog_12_method_25_code 55 = .ok (.iastore, 1) := by decide +kernel
theorem d_Mo_whole_56 : decode prog_12_method_25_code 56 = .ok (.aload_n 0, 1) := by decide +kernel
theorem d_Mo_whole_57 : decode prog_12_method_25_code 57 = .ok (.iconst 0, 1) := by decide +kernel
theorem d_Mo_whole_58 : decode prog_12_method_25_code 58 = .ok (.iconst 0, 1) := by decide +kernel
theorem d_Mo_whole_59 : decode prog_12_method_25_code 59 = .ok (.invokevirtual 113, 3) := by decide +kernel
theorem d_Mo_whole_62 : decode prog_12_method_25_code 62 = .ok (.aload_n 0, 1) := by decide +kernel
theorem d_Mo_whole_63 : decode prog_12_method_25_code 63 = .ok (.iconst 1, 1) := by decide +kernel
theorem d_Mo_whole_64 : decode prog_12_method_25_code 64 = .ok (.putfield 61, 3) := by decide +kernel
theorem d_Mo_whole_67 : decode prog_12_method_25_code 67 = .ok (.aload_n 0, 1) := by decide +kernel
theorem d_Mo_whole_68 : decode prog_12_method_25_code 68 = .ok (.getfield 35, 3) := by decide +kernel
theorem d_Mo_whole_71 : decode prog_12_method_25_code 71 = .ok (.iconst 0, 1) := by decide +kernel
theorem d_Mo_whole_72 : decode prog_12_method_25_code 72 = .ok (.iaload, 1) := by decide +kernel
theorem d_Mo_whole_73 : decode prog_12_method_25_code 73 = .ok (.ireturn, 1) := by decide +kernel
theorem d_Mo_reckonAll_0 : decode prog_12_method_19_code 0 = .ok (.aload_n 0, 1) := by decide +kernel
theorem d_Mo_reckonAll_1 : decode prog_12_method_19_code 1 = .ok (.getfield 13, 3) := by decide +kernel
theorem d_Mo_reckonAll_4 : decode prog_12_method_19_code 4 = .ok (.iconst 0, 1) := by decide +kernel
theorem d_Mo_reckonAll_5 : decode prog_12_method_19_code 5 = .ok (.iaload, 1) := by decide +kernel
theorem d_Mo_reckonAll_6 : decode prog_12_method_19_code 6 = .ok (.istore_n 1, 1) := by decide +kernel
theorem d_Mo_reckonAll_7 : decode prog_12_method_19_code 7 = .ok (.iload_n 1, 1) := by decide +kernel
theorem d_Mo_reckonAll_8 : decode prog_12_method_19_code 8 = .ok (.ifCond .lt 46, 3) := by decide +kernel
theorem d_Mo_reckonAll_11 : decode prog_12_method_19_code 11 = .ok (.aload_n 0, 1) := by decide +kernel
theorem d_Mo_reckonAll_12 : decode prog_12_method_19_code 12 = .ok (.getfield 13, 3) := by decide +kernel
theorem d_Mo_reckonAll_15 : decode prog_12_method_19_code 15 = .ok (.iconst 1, 1) := by decide +kernel
theorem d_Mo_reckonAll_16 : decode prog_12_method_19_code 16 = .ok (.iaload, 1) := by decide +kernel
theorem d_Mo_reckonAll_17 : decode prog_12_method_19_code 17 = .ok (.istore_n 2, 1) := by decide +kernel
theorem d_Mo_reckonAll_18 : decode prog_12_method_19_code 18 = .ok (.iload_n 2, 1) := by decide +kernel
theorem d_Mo_reckonAll_19 : decode prog_12_method_19_code 19 = .ok (.ifCond .lt 29, 3) := by decide +kernel
theorem d_Mo_reckonAll_22 : decode prog_12_method_19_code 22 = .ok (.iconst 0, 1) := by decide +kernel
theorem d_Mo_reckonAll_23 : decode prog_12_method_19_code 23 = .ok (.istore_n 3, 1) := by decide +kernel
theorem d_Mo_reckonAll_24 : decode prog_12_method_19_code 24 = .ok (.iload_n 3, 1) := by decide +kernel
theorem d_Mo_reckonAll_25 : decode prog_12_method_19_code 25 = .ok (.iconst 3, 1) := by decide +kernel
theorem d_Mo_reckonAll_26 : decode prog_12_method_19_code 26 = .ok (.if_icmp .ge 16, 3) := by decide +kernel
theorem d_Mo_reckonAll_29 : decode prog_12_method_19_code 29 = .ok (.aload_n 0, 1) := by decide +kernel
theorem d_Mo_reckonAll_30 : decode prog_12_method_19_code 30 = .ok (.iload_n 1, 1) := by decide +kernel
theorem d_Mo_reckonAll_31 : decode prog_12_method_19_code 31 = .ok (.iload_n 2, 1) := by decide +kernel
theorem d_Mo_reckonAll_32 : decode prog_12_method_19_code 32 = .ok (.iload_n 3, 1) := by decide +kernel
theorem d_Mo_reckonAll_33 : decode prog_12_method_19_code 33 = .ok (.invokevirtual 92, 3) := by decide +kernel
theorem d_Mo_reckonAll_36 : decode prog_12_method_19_code 36 = .ok (.iinc 3 1, 3) := by decide +kernel
theorem d_Mo_reckonAll_39 : decode prog_12_method_19_code 39 = .ok (.goto (-15), 3) := by decide +kernel
theorem d_Mo_reckonAll_42 : decode prog_12_method_19_code 42 = .ok (.iinc 2 (-1), 3) := by decide +kernel
theorem d_Mo_reckonAll_45 : decode prog_12_method_19_code 45 = .ok (.goto (-27), 3) := by decide +kernel
theorem d_Mo_reckonAll_48 : decode prog_12_method_19_code 48 = .ok (.iinc 1 (-1), 3) := by decide +kernel
theorem d_Mo_reckonAll_51 : decode prog_12_method_19_code 51 = .ok (.goto (-44), 3) := by decide +kernel
theorem d_Mo_reckonAll_54 : decode prog_12_method_19_code 54 = .ok (.return_, 1) := by decide +kernel
theorem d_Mo_reckon_0 : decode prog_12_method_17_code 0 = .ok (.iload_n 1, 1) := by decide +kernel
theorem d_Mo_reckon_1 : decode prog_12_method_17_code 1 = .ok (.iload_n 2, 1) := by decide +kernel
theorem d_Mo_reckon_2 : decode prog_12_method_17_code 2 = .ok (.iload_n 3, 1) := by decide +kernel
theorem d_Mo_reckon_3 : decode prog_12_method_17_code 3 = .ok (.invokestatic 72, 3) := by decide +kernel
theorem d_Mo_reckon_6 : decode prog_12_method_17_code 6 = .ok (.istore 4, 2) := by decide +kernel
theorem d_Mo_reckon_8 : decode prog_12_method_17_code 8 = .ok (.iload_n 1, 1) := by decide +kernel
theorem d_Mo_reckon_9 : decode prog_12_method_17_code 9 = .ok (.aload_n 0, 1) := by decide +kernel
theorem d_Mo_reckon_10 : decode prog_12_method_17_code 10 = .ok (.getfield 13, 3) := by decide +kernel
theorem d_Mo_reckon_13 : decode prog_12_method_17_code 13 = .ok (.iconst 0, 1) := by decide +kernel
theorem d_Mo_reckon_14 : decode prog_12_method_17_code 14 = .ok (.iaload, 1) := by decide +kernel
theorem d_Mo_reckon_15 : decode prog_12_method_17_code 15 = .ok (.if_icmp .ne 17, 3) := by decide +kernel
theorem d_Mo_reckon_18 : decode prog_12_method_17_code 18 = .ok (.iload_n 2, 1) := by decide +kernel
theorem d_Mo_reckon_19 : decode prog_12_method_17_code 19 = .ok (.aload_n 0, 1) := by decide +kernel
theorem d_Mo_reckon_20 : decode prog_12_method_17_code 20 = .ok (.getfield 13, 3) := by decide +kernel
theorem d_Mo_reckon_23 : decode prog_12_method_17_code 23 = .ok (.iconst 1, 1) := by decide +kernel
theorem d_Mo_reckon_24 : decode prog_12_method_17_code 24 = .ok (.iaload, 1) := by decide +kernel
theorem d_Mo_reckon_25 : decode prog_12_method_17_code 25 = .ok (.if_icmp .ne 7, 3) := by decide +kernel
theorem d_Mo_reckon_28 : decode prog_12_method_17_code 28 = .ok (.iconst 1, 1) := by decide +kernel
theorem d_Mo_reckon_29 : decode prog_12_method_17_code 29 = .ok (.goto 4, 3) := by decide +kernel
theorem d_Mo_reckon_32 : decode prog_12_method_17_code 32 = .ok (.iconst 0, 1) := by decide +kernel
theorem d_Mo_reckon_33 : decode prog_12_method_17_code 33 = .ok (.istore 5, 2) := by decide +kernel
theorem d_Mo_reckon_35 : decode prog_12_method_17_code 35 = .ok (.aload_n 0, 1) := by decide +kernel
theorem d_Mo_reckon_36 : decode prog_12_method_17_code 36 = .ok (.getfield 35, 3) := by decide +kernel
theorem d_Mo_reckon_39 : decode prog_12_method_17_code 39 = .ok (.iload 4, 2) := by decide +kernel
theorem d_Mo_reckon_41 : decode prog_12_method_17_code 41 = .ok (.aload_n 0, 1) := by decide +kernel
theorem d_Mo_reckon_42 : decode prog_12_method_17_code 42 = .ok (.getfield 76, 3) := by decide +kernel
theorem d_Mo_reckon_45 : decode prog_12_method_17_code 45 = .ok (.ifCond .ne 8, 3) := by decide +kernel
theorem d_Mo_reckon_48 : decode prog_12_method_17_code 48 = .ok (.iload 5, 2) := by decide +kernel
theorem d_Mo_reckon_50 : decode prog_12_method_17_code 50 = .ok (.ifCond .eq 7, 3) := by decide +kernel
theorem d_Mo_reckon_53 : decode prog_12_method_17_code 53 = .ok (.iconst 0, 1) := by decide +kernel
theorem d_Mo_reckon_54 : decode prog_12_method_17_code 54 = .ok (.goto 5, 3) := by decide +kernel
theorem d_Mo_reckon_57 : decode prog_12_method_17_code 57 = .ok (.ldc 79, 2) := by decide +kernel
theorem d_Mo_reckon_59 : decode prog_12_method_17_code 59 = .ok (.iastore, 1) := by decide +kernel
theorem d_Mo_reckon_60 : decode prog_12_method_17_code 60 = .ok (.aload_n 0, 1) := by decide +kernel
theorem d_Mo_reckon_61 : decode prog_12_method_17_code 61 = .ok (.getfield 38, 3) := by decide +kernel
theorem d_Mo_reckon_64 : decode prog_12_method_17_code 64 = .ok (.iload 4, 2) := by decide +kernel
theorem d_Mo_reckon_66 : decode prog_12_method_17_code 66 = .ok (.aload_n 0, 1) := by decide +kernel
theorem d_Mo_reckon_67 : decode prog_12_method_17_code 67 = .ok (.getfield 76, 3) := by decide +kernel
theorem d_Mo_reckon_70 : decode prog_12_method_17_code 70 = .ok (.ifCond .ne 8, 3) := by decide +kernel
theorem d_Mo_reckon_73 : decode prog_12_method_17_code 73 = .ok (.iload 5, 2) := by decide +kernel
theorem d_Mo_reckon_75 : decode prog_12_method_17_code 75 = .ok (.ifCond .eq 7, 3) := by decide +kernel
theorem d_Mo_reckon_78 : decode prog_12_method_17_code 78 = .ok (.lconst 1, 1) := by decide +kernel
theorem d_Mo_reckon_79 : decode prog_12_method_17_code 79 = .ok (.goto 4, 3) := by decide +kernel
theorem d_Mo_reckon_82 : decode prog_12_method_17_code 82 = .ok (.lconst 0, 1) := by decide +kernel
theorem d_Mo_reckon_83 : decode prog_12_method_17_code 83 = .ok (.lastore, 1) := by decide +kernel
theorem d_Mo_reckon_84 : decode prog_12_method_17_code 84 = .ok (.iload_n 1, 1) := by decide +kernel
theorem d_Mo_reckon_85 : decode prog_12_method_17_code 85 = .ok (.aload_n 0, 1) := by decide +kernel
theorem d_Mo_reckon_86 : decode prog_12_method_17_code 86 = .ok (.getfield 13, 3) := by decide +kernel
theorem d_Mo_reckon_89 : decode prog_12_method_17_code 89 = .ok (.iconst 0, 1) := by decide +kernel
theorem d_Mo_reckon_90 : decode prog_12_method_17_code 90 = .ok (.iaload, 1) := by decide +kernel
theorem d_Mo_reckon_91 : decode prog_12_method_17_code 91 = .ok (.if_icmp .ge 35, 3) := by decide +kernel
theorem d_Mo_reckon_94 : decode prog_12_method_17_code 94 = .ok (.iload_n 2, 1) := by decide +kernel
theorem d_Mo_reckon_95 : decode prog_12_method_17_code 95 = .ok (.aload_n 0, 1) := by decide +kernel
theorem d_Mo_reckon_96 : decode prog_12_method_17_code 96 = .ok (.getfield 13, 3) := by decide +kernel
theorem d_Mo_reckon_99 : decode prog_12_method_17_code 99 = .ok (.iconst 1, 1) := by decide +kernel
theorem d_Mo_reckon_100 : decode prog_12_method_17_code 100 = .ok (.iaload, 1) := by decide +kernel
theorem d_Mo_reckon_101 : decode prog_12_method_17_code 101 = .ok (.if_icmp .ge 25, 3) := by decide +kernel
theorem d_Mo_reckon_104 : decode prog_12_method_17_code 104 = .ok (.aload_n 0, 1) := by decide +kernel
theorem d_Mo_reckon_105 : decode prog_12_method_17_code 105 = .ok (.iload 4, 2) := by decide +kernel
theorem d_Mo_reckon_107 : decode prog_12_method_17_code 107 = .ok (.aload_n 0, 1) := by decide +kernel
theorem d_Mo_reckon_108 : decode prog_12_method_17_code 108 = .ok (.iload_n 1, 1) := by decide +kernel
theorem d_Mo_reckon_109 : decode prog_12_method_17_code 109 = .ok (.iload_n 2, 1) := by decide +kernel
theorem d_Mo_reckon_110 : decode prog_12_method_17_code 110 = .ok (.invokevirtual 80, 3) := by decide +kernel
theorem d_Mo_reckon_113 : decode prog_12_method_17_code 113 = .ok (.iload_n 1, 1) := by decide +kernel
theorem d_Mo_reckon_114 : decode prog_12_method_17_code 114 = .ok (.iconst 1, 1) := by decide +kernel
theorem d_Mo_reckon_115 : decode prog_12_method_17_code 115 = .ok (.iadd, 1) := by decide +kernel
theorem d_Mo_reckon_116 : decode prog_12_method_17_code 116 = .ok (.iload_n 2, 1) := by decide +kernel
theorem d_Mo_reckon_117 : decode prog_12_method_17_code 117 = .ok (.iconst 1, 1) := by decide +kernel
theorem d_Mo_reckon_118 : decode prog_12_method_17_code 118 = .ok (.iadd, 1) := by decide +kernel
theorem d_Mo_reckon_119 : decode prog_12_method_17_code 119 = .ok (.iconst 0, 1) := by decide +kernel
theorem d_Mo_reckon_120 : decode prog_12_method_17_code 120 = .ok (.invokestatic 72, 3) := by decide +kernel
theorem d_Mo_reckon_123 : decode prog_12_method_17_code 123 = .ok (.invokevirtual 84, 3) := by decide +kernel
theorem d_Mo_reckon_126 : decode prog_12_method_17_code 126 = .ok (.iconst 1, 1) := by decide +kernel
theorem d_Mo_reckon_127 : decode prog_12_method_17_code 127 = .ok (.istore 6, 2) := by decide +kernel
theorem d_Mo_reckon_129 : decode prog_12_method_17_code 129 = .ok (.iload_n 3, 1) := by decide +kernel
theorem d_Mo_reckon_130 : decode prog_12_method_17_code 130 = .ok (.iconst 1, 1) := by decide +kernel
theorem d_Mo_reckon_131 : decode prog_12_method_17_code 131 = .ok (.if_icmp .eq 47, 3) := by decide +kernel
theorem d_Mo_reckon_134 : decode prog_12_method_17_code 134 = .ok (.iload_n 1, 1) := by decide +kernel
theorem d_Mo_reckon_135 : decode prog_12_method_17_code 135 = .ok (.iload 6, 2) := by decide +kernel
theorem d_Mo_reckon_137 : decode prog_12_method_17_code 137 = .ok (.iadd, 1) := by decide +kernel
theorem d_Mo_reckon_138 : decode prog_12_method_17_code 138 = .ok (.aload_n 0, 1) := by decide +kernel
theorem d_Mo_reckon_139 : decode prog_12_method_17_code 139 = .ok (.getfield 13, 3) := by decide +kernel
theorem d_Mo_reckon_142 : decode prog_12_method_17_code 142 = .ok (.iconst 0, 1) := by decide +kernel
theorem d_Mo_reckon_143 : decode prog_12_method_17_code 143 = .ok (.iaload, 1) := by decide +kernel
theorem d_Mo_reckon_144 : decode prog_12_method_17_code 144 = .ok (.if_icmp .gt 34, 3) := by decide +kernel
theorem d_Mo_reckon_147 : decode prog_12_method_17_code 147 = .ok (.aload_n 0, 1) := by decide +kernel
theorem d_Mo_reckon_148 : decode prog_12_method_17_code 148 = .ok (.iload 4, 2) := by decide +kernel
theorem d_Mo_reckon_150 : decode prog_12_method_17_code 150 = .ok (.aload_n 0, 1) := by decide +kernel
theorem d_Mo_reckon_151 : decode prog_12_method_17_code 151 = .ok (.iconst 1, 1) := by decide +kernel
theorem d_Mo_reckon_152 : decode prog_12_method_17_code 152 = .ok (.iload_n 1, 1) := by decide +kernel
theorem d_Mo_reckon_153 : decode prog_12_method_17_code 153 = .ok (.iload_n 2, 1) := by decide +kernel
theorem d_Mo_reckon_154 : decode prog_12_method_17_code 154 = .ok (.iload 6, 2) := by decide +kernel
theorem d_Mo_reckon_156 : decode prog_12_method_17_code 156 = .ok (.invokevirtual 88, 3) := by decide +kernel
theorem d_Mo_reckon_159 : decode prog_12_method_17_code 159 = .ok (.ineg, 1) := by decide +kernel
theorem d_Mo_reckon_160 : decode prog_12_method_17_code 160 = .ok (.iload_n 1, 1) := by decide +kernel
theorem d_Mo_reckon_161 : decode prog_12_method_17_code 161 = .ok (.iload 6, 2) := by decide +kernel
theorem d_Mo_reckon_163 : decode prog_12_method_17_code 163 = .ok (.iadd, 1) := by decide +kernel
theorem d_Mo_reckon_164 : decode prog_12_method_17_code 164 = .ok (.iload_n 2, 1) := by decide +kernel
theorem d_Mo_reckon_165 : decode prog_12_method_17_code 165 = .ok (.iconst 1, 1) := by decide +kernel
theorem d_Mo_reckon_166 : decode prog_12_method_17_code 166 = .ok (.invokestatic 72, 3) := by decide +kernel
theorem d_Mo_reckon_169 : decode prog_12_method_17_code 169 = .ok (.invokevirtual 84, 3) := by decide +kernel
theorem d_Mo_reckon_172 : decode prog_12_method_17_code 172 = .ok (.iinc 6 1, 3) := by decide +kernel
theorem d_Mo_reckon_175 : decode prog_12_method_17_code 175 = .ok (.goto (-46), 3) := by decide +kernel
theorem d_Mo_reckon_178 : decode prog_12_method_17_code 178 = .ok (.iconst 1, 1) := by decide +kernel
theorem d_Mo_reckon_179 : decode prog_12_method_17_code 179 = .ok (.istore 6, 2) := by decide +kernel
theorem d_Mo_reckon_181 : decode prog_12_method_17_code 181 = .ok (.iload_n 3, 1) := by decide +kernel
theorem d_Mo_reckon_182 : decode prog_12_method_17_code 182 = .ok (.iconst 2, 1) := by decide +kernel
theorem d_Mo_reckon_183 : decode prog_12_method_17_code 183 = .ok (.if_icmp .eq 47, 3) := by decide +kernel
theorem d_Mo_reckon_186 : decode prog_12_method_17_code 186 = .ok (.iload_n 2, 1) := by decide +kernel
theorem d_Mo_reckon_187 : decode prog_12_method_17_code 187 = .ok (.iload 6, 2) := by decide +kernel
theorem d_Mo_reckon_189 : decode prog_12_method_17_code 189 = .ok (.iadd, 1) := by decide +kernel
theorem d_Mo_reckon_190 : decode prog_12_method_17_code 190 = .ok (.aload_n 0, 1) := by decide +kernel
theorem d_Mo_reckon_191 : decode prog_12_method_17_code 191 = .ok (.getfield 13, 3) := by decide +kernel
theorem d_Mo_reckon_194 : decode prog_12_method_17_code 194 = .ok (.iconst 1, 1) := by decide +kernel
theorem d_Mo_reckon_195 : decode prog_12_method_17_code 195 = .ok (.iaload, 1) := by decide +kernel
theorem d_Mo_reckon_196 : decode prog_12_method_17_code 196 = .ok (.if_icmp .gt 34, 3) := by decide +kernel
theorem d_Mo_reckon_199 : decode prog_12_method_17_code 199 = .ok (.aload_n 0, 1) := by decide +kernel
theorem d_Mo_reckon_200 : decode prog_12_method_17_code 200 = .ok (.iload 4, 2) := by decide +kernel
theorem d_Mo_reckon_202 : decode prog_12_method_17_code 202 = .ok (.aload_n 0, 1) := by decide +kernel
theorem d_Mo_reckon_203 : decode prog_12_method_17_code 203 = .ok (.iconst 0, 1) := by decide +kernel
theorem d_Mo_reckon_204 : decode prog_12_method_17_code 204 = .ok (.iload_n 1, 1) := by decide +kernel
theorem d_Mo_reckon_205 : decode prog_12_method_17_code 205 = .ok (.iload_n 2, 1) := by decide +kernel
theorem d_Mo_reckon_206 : decode prog_12_method_17_code 206 = .ok (.iload 6, 2) := by decide +kernel
theorem d_Mo_reckon_208 : decode prog_12_method_17_code 208 = .ok (.invokevirtual 88, 3) := by decide +kernel
theorem d_Mo_reckon_211 : decode prog_12_method_17_code 211 = .ok (.ineg, 1) := by decide +kernel
theorem d_Mo_reckon_212 : decode prog_12_method_17_code 212 = .ok (.iload_n 1, 1) := by decide +kernel
theorem d_Mo_reckon_213 : decode prog_12_method_17_code 213 = .ok (.iload_n 2, 1) := by decide +kernel
theorem d_Mo_reckon_214 : decode prog_12_method_17_code 214 = .ok (.iload 6, 2) := by decide +kernel
theorem d_Mo_reckon_216 : decode prog_12_method_17_code 216 = .ok (.iadd, 1) := by decide +kernel
theorem d_Mo_reckon_217 : decode prog_12_method_17_code 217 = .ok (.iconst 2, 1) := by decide +kernel
theorem d_Mo_reckon_218 : decode prog_12_method_17_code 218 = .ok (.invokestatic 72, 3) := by decide +kernel
theorem d_Mo_reckon_221 : decode prog_12_method_17_code 221 = .ok (.invokevirtual 84, 3) := by decide +kernel
theorem d_Mo_reckon_224 : decode prog_12_method_17_code 224 = .ok (.iinc 6 1, 3) := by decide +kernel
theorem d_Mo_reckon_227 : decode prog_12_method_17_code 227 = .ok (.goto (-46), 3) := by decide +kernel
theorem d_Mo_reckon_230 : decode prog_12_method_17_code 230 = .ok (.return_, 1) := by decide +kernel
theorem d_Mo_at_0 : decode prog_12_method_16_code 0 = .ok (.bipush 97, 2) := by decide +kernel
theorem d_Mo_at_2 : decode prog_12_method_16_code 2 = .ok (.iload_n 0, 1) := by decide +kernel
theorem d_Mo_at_3 : decode prog_12_method_16_code 3 = .ok (.imul, 1) := by decide +kernel
theorem d_Mo_at_4 : decode prog_12_method_16_code 4 = .ok (.iload_n 1, 1) := by decide +kernel
theorem d_Mo_at_5 : decode prog_12_method_16_code 5 = .ok (.iadd, 1) := by decide +kernel
theorem d_Mo_at_6 : decode prog_12_method_16_code 6 = .ok (.iconst 3, 1) := by decide +kernel
theorem d_Mo_at_7 : decode prog_12_method_16_code 7 = .ok (.imul, 1) := by decide +kernel
theorem d_Mo_at_8 : decode prog_12_method_16_code 8 = .ok (.iload_n 2, 1) := by decide +kernel
theorem d_Mo_at_9 : decode prog_12_method_16_code 9 = .ok (.iadd, 1) := by decide +kernel
theorem d_Mo_at_10 : decode prog_12_method_16_code 10 = .ok (.ireturn, 1) := by decide +kernel
theorem d_Mo_scoreAt_0 : decode prog_12_method_14_code 0 = .ok (.aload_n 0, 1) := by decide +kernel
theorem d_Mo_scoreAt_1 : decode prog_12_method_14_code 1 = .ok (.getfield 16, 3) := by decide +kernel
theorem d_Mo_scoreAt_4 : decode prog_12_method_14_code 4 = .ok (.bipush 26, 2) := by decide +kernel
theorem d_Mo_scoreAt_6 : decode prog_12_method_14_code 6 = .ok (.aload_n 0, 1) := by decide +kernel
theorem d_Mo_scoreAt_7 : decode prog_12_method_14_code 7 = .ok (.getfield 7, 3) := by decide +kernel
theorem d_Mo_scoreAt_10 : decode prog_12_method_14_code 10 = .ok (.iload_n 1, 1) := by decide +kernel
theorem d_Mo_scoreAt_11 : decode prog_12_method_14_code 11 = .ok (.iaload, 1) := by decide +kernel
theorem d_Mo_scoreAt_12 : decode prog_12_method_14_code 12 = .ok (.imul, 1) := by decide +kernel
theorem d_Mo_scoreAt_13 : decode prog_12_method_14_code 13 = .ok (.aload_n 0, 1) := by decide +kernel
theorem d_Mo_scoreAt_14 : decode prog_12_method_14_code 14 = .ok (.getfield 7, 3) := by decide +kernel
theorem d_Mo_scoreAt_17 : decode prog_12_method_14_code 17 = .ok (.bipush 96, 2) := by decide +kernel
theorem d_Mo_scoreAt_19 : decode prog_12_method_14_code 19 = .ok (.iload_n 2, 1) := by decide +kernel
theorem d_Mo_scoreAt_20 : decode prog_12_method_14_code 20 = .ok (.iadd, 1) := by decide +kernel
theorem d_Mo_scoreAt_21 : decode prog_12_method_14_code 21 = .ok (.iaload, 1) := by decide +kernel
theorem d_Mo_scoreAt_22 : decode prog_12_method_14_code 22 = .ok (.iadd, 1) := by decide +kernel
theorem d_Mo_scoreAt_23 : decode prog_12_method_14_code 23 = .ok (.iaload, 1) := by decide +kernel
theorem d_Mo_scoreAt_24 : decode prog_12_method_14_code 24 = .ok (.ireturn, 1) := by decide +kernel
theorem d_Mo_offer_0 : decode prog_12_method_18_code 0 = .ok (.iload_n 2, 1) := by decide +kernel
theorem d_Mo_offer_1 : decode prog_12_method_18_code 1 = .ok (.aload_n 0, 1) := by decide +kernel
theorem d_Mo_offer_2 : decode prog_12_method_18_code 2 = .ok (.getfield 35, 3) := by decide +kernel
theorem d_Mo_offer_5 : decode prog_12_method_18_code 5 = .ok (.iload_n 3, 1) := by decide +kernel
theorem d_Mo_offer_6 : decode prog_12_method_18_code 6 = .ok (.iaload, 1) := by decide +kernel
theorem d_Mo_offer_7 : decode prog_12_method_18_code 7 = .ok (.iadd, 1) := by decide +kernel
theorem d_Mo_offer_8 : decode prog_12_method_18_code 8 = .ok (.istore 4, 2) := by decide +kernel
theorem d_Mo_offer_10 : decode prog_12_method_18_code 10 = .ok (.aload_n 0, 1) := by decide +kernel
theorem d_Mo_offer_11 : decode prog_12_method_18_code 11 = .ok (.getfield 35, 3) := by decide +kernel
theorem d_Mo_offer_14 : decode prog_12_method_18_code 14 = .ok (.iload_n 3, 1) := by decide +kernel
theorem d_Mo_offer_15 : decode prog_12_method_18_code 15 = .ok (.iaload, 1) := by decide +kernel
theorem d_Mo_offer_16 : decode prog_12_method_18_code 16 = .ok (.ldc 79, 2) := by decide +kernel
theorem d_Mo_offer_18 : decode prog_12_method_18_code 18 = .ok (.if_icmp .eq 14, 3) := by decide +kernel
theorem d_Mo_offer_21 : decode prog_12_method_18_code 21 = .ok (.iload 4, 2) := by decide +kernel
theorem d_Mo_offer_23 : decode prog_12_method_18_code 23 = .ok (.aload_n 0, 1) := by decide +kernel
theorem d_Mo_offer_24 : decode prog_12_method_18_code 24 = .ok (.getfield 35, 3) := by decide +kernel
theorem d_Mo_offer_27 : decode prog_12_method_18_code 27 = .ok (.iload_n 1, 1) := by decide +kernel
theorem d_Mo_offer_28 : decode prog_12_method_18_code 28 = .ok (.iaload, 1) := by decide +kernel
theorem d_Mo_offer_29 : decode prog_12_method_18_code 29 = .ok (.if_icmp .ge 4, 3) := by decide +kernel
theorem d_Mo_offer_32 : decode prog_12_method_18_code 32 = .ok (.return_, 1) := by decide +kernel
theorem d_Mo_offer_33 : decode prog_12_method_18_code 33 = .ok (.aload_n 0, 1) := by decide +kernel
theorem d_Mo_offer_34 : decode prog_12_method_18_code 34 = .ok (.getfield 38, 3) := by decide +kernel
theorem d_Mo_offer_37 : decode prog_12_method_18_code 37 = .ok (.iload_n 1, 1) := by decide +kernel
theorem d_Mo_offer_38 : decode prog_12_method_18_code 38 = .ok (.iload 4, 2) := by decide +kernel
theorem d_Mo_offer_40 : decode prog_12_method_18_code 40 = .ok (.aload_n 0, 1) := by decide +kernel
theorem d_Mo_offer_41 : decode prog_12_method_18_code 41 = .ok (.getfield 35, 3) := by decide +kernel
theorem d_Mo_offer_44 : decode prog_12_method_18_code 44 = .ok (.iload_n 1, 1) := by decide +kernel
theorem d_Mo_offer_45 : decode prog_12_method_18_code 45 = .ok (.iaload, 1) := by decide +kernel
theorem d_Mo_offer_46 : decode prog_12_method_18_code 46 = .ok (.if_icmp .le 12, 3) := by decide +kernel
theorem d_Mo_offer_49 : decode prog_12_method_18_code 49 = .ok (.aload_n 0, 1) := by decide +kernel
theorem d_Mo_offer_50 : decode prog_12_method_18_code 50 = .ok (.getfield 38, 3) := by decide +kernel
theorem d_Mo_offer_53 : decode prog_12_method_18_code 53 = .ok (.iload_n 3, 1) := by decide +kernel
theorem d_Mo_offer_54 : decode prog_12_method_18_code 54 = .ok (.laload, 1) := by decide +kernel
theorem d_Mo_offer_55 : decode prog_12_method_18_code 55 = .ok (.goto 16, 3) := by decide +kernel
theorem d_Mo_offer_58 : decode prog_12_method_18_code 58 = .ok (.aload_n 0, 1) := by decide +kernel
theorem d_Mo_offer_59 : decode prog_12_method_18_code 59 = .ok (.getfield 38, 3) := by decide +kernel
theorem d_Mo_offer_62 : decode prog_12_method_18_code 62 = .ok (.iload_n 1, 1) := by decide +kernel
theorem d_Mo_offer_63 : decode prog_12_method_18_code 63 = .ok (.laload, 1) := by decide +kernel
theorem d_Mo_offer_64 : decode prog_12_method_18_code 64 = .ok (.aload_n 0, 1) := by decide +kernel
theorem d_Mo_offer_65 : decode prog_12_method_18_code 65 = .ok (.getfield 38, 3) := by decide +kernel
theorem d_Mo_offer_68 : decode prog_12_method_18_code 68 = .ok (.iload_n 3, 1) := by decide +kernel
theorem d_Mo_offer_69 : decode prog_12_method_18_code 69 = .ok (.laload, 1) := by decide +kernel
theorem d_Mo_offer_70 : decode prog_12_method_18_code 70 = .ok (.ladd, 1) := by decide +kernel
theorem d_Mo_offer_71 : decode prog_12_method_18_code 71 = .ok (.lastore, 1) := by decide +kernel
theorem d_Mo_offer_72 : decode prog_12_method_18_code 72 = .ok (.aload_n 0, 1) := by decide +kernel
theorem d_Mo_offer_73 : decode prog_12_method_18_code 73 = .ok (.getfield 35, 3) := by decide +kernel
theorem d_Mo_offer_76 : decode prog_12_method_18_code 76 = .ok (.iload_n 1, 1) := by decide +kernel
theorem d_Mo_offer_77 : decode prog_12_method_18_code 77 = .ok (.iload 4, 2) := by decide +kernel
theorem d_Mo_offer_79 : decode prog_12_method_18_code 79 = .ok (.iastore, 1) := by decide +kernel
theorem d_Mo_offer_80 : decode prog_12_method_18_code 80 = .ok (.return_, 1) := by decide +kernel
theorem d_Mo_gap_0 : decode prog_12_method_15_code 0 = .ok (.iload_n 2, 1) := by decide +kernel
theorem d_Mo_gap_1 : decode prog_12_method_15_code 1 = .ok (.ifCond .ne 11, 3) := by decide +kernel
theorem d_Mo_gap_4 : decode prog_12_method_15_code 4 = .ok (.iload_n 3, 1) := by decide +kernel
theorem d_Mo_gap_5 : decode prog_12_method_15_code 5 = .ok (.ifCond .ne 7, 3) := by decide +kernel
theorem d_Mo_gap_8 : decode prog_12_method_15_code 8 = .ok (.iconst 1, 1) := by decide +kernel
theorem d_Mo_gap_9 : decode prog_12_method_15_code 9 = .ok (.goto 4, 3) := by decide +kernel
theorem d_Mo_gap_12 : decode prog_12_method_15_code 12 = .ok (.iconst 0, 1) := by decide +kernel
theorem d_Mo_gap_13 : decode prog_12_method_15_code 13 = .ok (.istore 5, 2) := by decide +kernel
theorem d_Mo_gap_15 : decode prog_12_method_15_code 15 = .ok (.iload_n 1, 1) := by decide +kernel
theorem d_Mo_gap_16 : decode prog_12_method_15_code 16 = .ok (.ifCond .eq 10, 3) := by decide +kernel
theorem d_Mo_gap_19 : decode prog_12_method_15_code 19 = .ok (.iload_n 2, 1) := by decide +kernel
theorem d_Mo_gap_20 : decode prog_12_method_15_code 20 = .ok (.iload 4, 2) := by decide +kernel
theorem d_Mo_gap_22 : decode prog_12_method_15_code 22 = .ok (.iadd, 1) := by decide +kernel
theorem d_Mo_gap_23 : decode prog_12_method_15_code 23 = .ok (.goto 4, 3) := by decide +kernel
theorem d_Mo_gap_26 : decode prog_12_method_15_code 26 = .ok (.iload_n 2, 1) := by decide +kernel
theorem d_Mo_gap_27 : decode prog_12_method_15_code 27 = .ok (.aload_n 0, 1) := by decide +kernel
theorem d_Mo_gap_28 : decode prog_12_method_15_code 28 = .ok (.getfield 13, 3) := by decide +kernel
theorem d_Mo_gap_31 : decode prog_12_method_15_code 31 = .ok (.iconst 0, 1) := by decide +kernel
theorem d_Mo_gap_32 : decode prog_12_method_15_code 32 = .ok (.iaload, 1) := by decide +kernel
theorem d_Mo_gap_33 : decode prog_12_method_15_code 33 = .ok (.if_icmp .ne 28, 3) := by decide +kernel
theorem d_Mo_gap_36 : decode prog_12_method_15_code 36 = .ok (.iload_n 1, 1) := by decide +kernel
theorem d_Mo_gap_37 : decode prog_12_method_15_code 37 = .ok (.ifCond .eq 7, 3) := by decide +kernel
theorem d_Mo_gap_40 : decode prog_12_method_15_code 40 = .ok (.iload_n 3, 1) := by decide +kernel
theorem d_Mo_gap_41 : decode prog_12_method_15_code 41 = .ok (.goto 7, 3) := by decide +kernel
theorem d_Mo_gap_44 : decode prog_12_method_15_code 44 = .ok (.iload_n 3, 1) := by decide +kernel
theorem d_Mo_gap_45 : decode prog_12_method_15_code 45 = .ok (.iload 4, 2) := by decide +kernel
theorem d_Mo_gap_47 : decode prog_12_method_15_code 47 = .ok (.iadd, 1) := by decide +kernel
theorem d_Mo_gap_48 : decode prog_12_method_15_code 48 = .ok (.aload_n 0, 1) := by decide +kernel
theorem d_Mo_gap_49 : decode prog_12_method_15_code 49 = .ok (.getfield 13, 3) := by decide +kernel
theorem d_Mo_gap_52 : decode prog_12_method_15_code 52 = .ok (.iconst 1, 1) := by decide +kernel
theorem d_Mo_gap_53 : decode prog_12_method_15_code 53 = .ok (.iaload, 1) := by decide +kernel
theorem d_Mo_gap_54 : decode prog_12_method_15_code 54 = .ok (.if_icmp .ne 7, 3) := by decide +kernel
theorem d_Mo_gap_57 : decode prog_12_method_15_code 57 = .ok (.iconst 1, 1) := by decide +kernel
theorem d_Mo_gap_58 : decode prog_12_method_15_code 58 = .ok (.goto 4, 3) := by decide +kernel
theorem d_Mo_gap_61 : decode prog_12_method_15_code 61 = .ok (.iconst 0, 1) := by decide +kernel
theorem d_Mo_gap_62 : decode prog_12_method_15_code 62 = .ok (.istore 6, 2) := by decide +kernel
theorem d_Mo_gap_64 : decode prog_12_method_15_code 64 = .ok (.iload_n 1, 1) := by decide +kernel
theorem d_Mo_gap_65 : decode prog_12_method_15_code 65 = .ok (.ifCond .eq 7, 3) := by decide +kernel
theorem d_Mo_gap_68 : decode prog_12_method_15_code 68 = .ok (.iconst 1, 1) := by decide +kernel
theorem d_Mo_gap_69 : decode prog_12_method_15_code 69 = .ok (.goto 4, 3) := by decide +kernel
theorem d_Mo_gap_72 : decode prog_12_method_15_code 72 = .ok (.iconst 2, 1) := by decide +kernel
theorem d_Mo_gap_73 : decode prog_12_method_15_code 73 = .ok (.istore 7, 2) := by decide +kernel
theorem d_Mo_gap_75 : decode prog_12_method_15_code 75 = .ok (.iload_n 1, 1) := by decide +kernel
theorem d_Mo_gap_76 : decode prog_12_method_15_code 76 = .ok (.ifCond .eq 7, 3) := by decide +kernel
theorem d_Mo_gap_79 : decode prog_12_method_15_code 79 = .ok (.iconst 4, 1) := by decide +kernel
theorem d_Mo_gap_80 : decode prog_12_method_15_code 80 = .ok (.goto 5, 3) := by decide +kernel
theorem d_Mo_gap_83 : decode prog_12_method_15_code 83 = .ok (.bipush 8, 2) := by decide +kernel
theorem d_Mo_gap_85 : decode prog_12_method_15_code 85 = .ok (.istore 8, 2) := by decide +kernel
theorem d_Mo_gap_87 : decode prog_12_method_15_code 87 = .ok (.iload 5, 2) := by decide +kernel
theorem d_Mo_gap_89 : decode prog_12_method_15_code 89 = .ok (.ifCond .eq 13, 3) := by decide +kernel
theorem d_Mo_gap_92 : decode prog_12_method_15_code 92 = .ok (.aload_n 0, 1) := by decide +kernel
theorem d_Mo_gap_93 : decode prog_12_method_15_code 93 = .ok (.getfield 69, 3) := by decide +kernel
theorem d_Mo_gap_96 : decode prog_12_method_15_code 96 = .ok (.iload 7, 2) := by decide +kernel
theorem d_Mo_gap_98 : decode prog_12_method_15_code 98 = .ok (.iand, 1) := by decide +kernel
theorem d_Mo_gap_99 : decode prog_12_method_15_code 99 = .ok (.ifCond .gt 18, 3) := by decide +kernel
theorem d_Mo_gap_102 : decode prog_12_method_15_code 102 = .ok (.iload 6, 2) := by decide +kernel
theorem d_Mo_gap_104 : decode prog_12_method_15_code 104 = .ok (.ifCond .eq 17, 3) := by decide +kernel
theorem d_Mo_gap_107 : decode prog_12_method_15_code 107 = .ok (.aload_n 0, 1) := by decide +kernel
theorem d_Mo_gap_108 : decode prog_12_method_15_code 108 = .ok (.getfield 69, 3) := by decide +kernel
theorem d_Mo_gap_111 : decode prog_12_method_15_code 111 = .ok (.iload 8, 2) := by decide +kernel
theorem d_Mo_gap_113 : decode prog_12_method_15_code 113 = .ok (.iand, 1) := by decide +kernel
theorem d_Mo_gap_114 : decode prog_12_method_15_code 114 = .ok (.ifCond .le 7, 3) := by decide +kernel
theorem d_Mo_gap_117 : decode prog_12_method_15_code 117 = .ok (.iconst 1, 1) := by decide +kernel
theorem d_Mo_gap_118 : decode prog_12_method_15_code 118 = .ok (.goto 4, 3) := by decide +kernel
theorem d_Mo_gap_121 : decode prog_12_method_15_code 121 = .ok (.iconst 0, 1) := by decide +kernel
theorem d_Mo_gap_122 : decode prog_12_method_15_code 122 = .ok (.istore 9, 2) := by decide +kernel
theorem d_Mo_gap_124 : decode prog_12_method_15_code 124 = .ok (.iload 9, 2) := by decide +kernel
theorem d_Mo_gap_126 : decode prog_12_method_15_code 126 = .ok (.ifCond .eq 7, 3) := by decide +kernel
theorem d_Mo_gap_129 : decode prog_12_method_15_code 129 = .ok (.iconst 0, 1) := by decide +kernel
theorem d_Mo_gap_130 : decode prog_12_method_15_code 130 = .ok (.goto 15, 3) := by decide +kernel
theorem d_Mo_gap_133 : decode prog_12_method_15_code 133 = .ok (.aload_n 0, 1) := by decide +kernel
theorem d_Mo_gap_134 : decode prog_12_method_15_code 134 = .ok (.getfield 19, 3) := by decide +kernel
theorem d_Mo_gap_137 : decode prog_12_method_15_code 137 = .ok (.aload_n 0, 1) := by decide +kernel
theorem d_Mo_gap_138 : decode prog_12_method_15_code 138 = .ok (.getfield 23, 3) := by decide +kernel
theorem d_Mo_gap_141 : decode prog_12_method_15_code 141 = .ok (.iload 4, 2) := by decide +kernel
theorem d_Mo_gap_143 : decode prog_12_method_15_code 143 = .ok (.imul, 1) := by decide +kernel
theorem d_Mo_gap_144 : decode prog_12_method_15_code 144 = .ok (.iadd, 1) := by decide +kernel
theorem d_Mo_gap_145 : decode prog_12_method_15_code 145 = .ok (.ireturn, 1) := by decide +kernel
theorem d_Mo_follow_0 : decode prog_12_method_22_code 0 = .ok (.iload_n 1, 1) := by decide +kernel
theorem d_Mo_follow_1 : decode prog_12_method_22_code 1 = .ok (.istore_n 3, 1) := by decide +kernel
theorem d_Mo_follow_2 : decode prog_12_method_22_code 2 = .ok (.iload_n 2, 1) := by decide +kernel
theorem d_Mo_follow_3 : decode prog_12_method_22_code 3 = .ok (.istore 4, 2) := by decide +kernel
theorem d_Mo_follow_5 : decode prog_12_method_22_code 5 = .ok (.iconst 0, 1) := by decide +kernel
theorem d_Mo_follow_6 : decode prog_12_method_22_code 6 = .ok (.istore 5, 2) := by decide +kernel
theorem d_Mo_follow_8 : decode prog_12_method_22_code 8 = .ok (.aload_n 0, 1) := by decide +kernel
theorem d_Mo_follow_9 : decode prog_12_method_22_code 9 = .ok (.iconst 0, 1) := by decide +kernel
theorem d_Mo_follow_10 : decode prog_12_method_22_code 10 = .ok (.putfield 98, 3) := by decide +kernel
theorem d_Mo_follow_13 : decode prog_12_method_22_code 13 = .ok (.iconst 1, 1) := by decide +kernel
theorem d_Mo_follow_14 : decode prog_12_method_22_code 14 = .ok (.istore 6, 2) := by decide +kernel
theorem d_Mo_follow_16 : decode prog_12_method_22_code 16 = .ok (.iload 6, 2) := by decide +kernel
theorem d_Mo_follow_18 : decode prog_12_method_22_code 18 = .ok (.ifCond .eq 211, 3) := by decide +kernel
theorem d_Mo_follow_21 : decode prog_12_method_22_code 21 = .ok (.aload_n 0, 1) := by decide +kernel
theorem d_Mo_follow_22 : decode prog_12_method_22_code 22 = .ok (.getfield 35, 3) := by decide +kernel
theorem d_Mo_follow_25 : decode prog_12_method_22_code 25 = .ok (.iload_n 3, 1) := by decide +kernel
theorem d_Mo_follow_26 : decode prog_12_method_22_code 26 = .ok (.iload 4, 2) := by decide +kernel
theorem d_Mo_follow_28 : decode prog_12_method_22_code 28 = .ok (.iload 5, 2) := by decide +kernel
theorem d_Mo_follow_30 : decode prog_12_method_22_code 30 = .ok (.invokestatic 72, 3) := by decide +kernel
theorem d_Mo_follow_33 : decode prog_12_method_22_code 33 = .ok (.iaload, 1) := by decide +kernel
theorem d_Mo_follow_34 : decode prog_12_method_22_code 34 = .ok (.istore 7, 2) := by decide +kernel
theorem d_Mo_follow_36 : decode prog_12_method_22_code 36 = .ok (.iload_n 3, 1) := by decide +kernel
theorem d_Mo_follow_37 : decode prog_12_method_22_code 37 = .ok (.aload_n 0, 1) := by decide +kernel
theorem d_Mo_follow_38 : decode prog_12_method_22_code 38 = .ok (.getfield 13, 3) := by decide +kernel
theorem d_Mo_follow_41 : decode prog_12_method_22_code 41 = .ok (.iconst 0, 1) := by decide +kernel
theorem d_Mo_follow_42 : decode prog_12_method_22_code 42 = .ok (.iaload, 1) := by decide +kernel
theorem d_Mo_follow_43 : decode prog_12_method_22_code 43 = .ok (.if_icmp .ne 18, 3) := by decide +kernel
theorem d_Mo_follow_46 : decode prog_12_method_22_code 46 = .ok (.iload 4, 2) := by decide +kernel
theorem d_Mo_follow_48 : decode prog_12_method_22_code 48 = .ok (.aload_n 0, 1) := by decide +kernel
theorem d_Mo_follow_49 : decode prog_12_method_22_code 49 = .ok (.getfield 13, 3) := by decide +kernel
theorem d_Mo_follow_52 : decode prog_12_method_22_code 52 = .ok (.iconst 1, 1) := by decide +kernel
theorem d_Mo_follow_53 : decode prog_12_method_22_code 53 = .ok (.iaload, 1) := by decide +kernel
theorem d_Mo_follow_54 : decode prog_12_method_22_code 54 = .ok (.if_icmp .ne 7, 3) := by decide +kernel
theorem d_Mo_follow_57 : decode prog_12_method_22_code 57 = .ok (.iconst 1, 1) := by decide +kernel
theorem d_Mo_follow_58 : decode prog_12_method_22_code 58 = .ok (.goto 4, 3) := by decide +kernel
theorem d_Mo_follow_61 : decode prog_12_method_22_code 61 = .ok (.iconst 0, 1) := by decide +kernel
theorem d_Mo_follow_62 : decode prog_12_method_22_code 62 = .ok (.istore 8, 2) := by decide +kernel
theorem d_Mo_follow_64 : decode prog_12_method_22_code 64 = .ok (.iload 8, 2) := by decide +kernel
theorem d_Mo_follow_66 : decode prog_12_method_22_code 66 = .ok (.ifCond .ne 15, 3) := by decide +kernel
theorem d_Mo_follow_69 : decode prog_12_method_22_code 69 = .ok (.aload_n 0, 1) := by decide +kernel
theorem d_Mo_follow_70 : decode prog_12_method_22_code 70 = .ok (.getfield 76, 3) := by decide +kernel
theorem d_Mo_follow_73 : decode prog_12_method_22_code 73 = .ok (.ifCond .eq 14, 3) := by decide +kernel
theorem d_Mo_follow_76 : decode prog_12_method_22_code 76 = .ok (.iload 7, 2) := by decide +kernel
theorem d_Mo_follow_78 : decode prog_12_method_22_code 78 = .ok (.ifCond .ne 9, 3) := by decide +kernel
theorem d_Mo_follow_81 : decode prog_12_method_22_code 81 = .ok (.iconst 0, 1) := by decide +kernel
theorem d_Mo_follow_82 : decode prog_12_method_22_code 82 = .ok (.istore 6, 2) := by decide +kernel
theorem d_Mo_follow_84 : decode prog_12_method_22_code 84 = .ok (.goto 142, 3) := by decide +kernel
theorem d_Mo_follow_87 : decode prog_12_method_22_code 87 = .ok (.iload_n 3, 1) := by decide +kernel
theorem d_Mo_follow_88 : decode prog_12_method_22_code 88 = .ok (.aload_n 0, 1) := by decide +kernel
theorem d_Mo_follow_89 : decode prog_12_method_22_code 89 = .ok (.getfield 13, 3) := by decide +kernel
theorem d_Mo_follow_92 : decode prog_12_method_22_code 92 = .ok (.iconst 0, 1) := by decide +kernel
theorem d_Mo_follow_93 : decode prog_12_method_22_code 93 = .ok (.iaload, 1) := by decide +kernel
theorem d_Mo_follow_94 : decode prog_12_method_22_code 94 = .ok (.if_icmp .ge 59, 3) := by decide +kernel
theorem d_Mo_follow_97 : decode prog_12_method_22_code 97 = .ok (.iload 4, 2) := by decide +kernel
theorem d_Mo_follow_99 : decode prog_12_method_22_code 99 = .ok (.aload_n 0, 1) := by decide +kernel
theorem d_Mo_follow_100 : decode prog_12_method_22_code 100 = .ok (.getfield 13, 3) := by decide +kernel
theorem d_Mo_follow_103 : decode prog_12_method_22_code 103 = .ok (.iconst 1, 1) := by decide +kernel
theorem d_Mo_follow_104 : decode prog_12_method_22_code 104 = .ok (.iaload, 1) := by decide +kernel
theorem d_Mo_follow_105 : decode prog_12_method_22_code 105 = .ok (.if_icmp .ge 48, 3) := by decide +kernel
theorem d_Mo_follow_108 : decode prog_12_method_22_code 108 = .ok (.aload_n 0, 1) := by decide +kernel
theorem d_Mo_follow_109 : decode prog_12_method_22_code 109 = .ok (.aload_n 0, 1) := by decide +kernel
theorem d_Mo_follow_110 : decode prog_12_method_22_code 110 = .ok (.iload_n 3, 1) := by decide +kernel
theorem d_Mo_follow_111 : decode prog_12_method_22_code 111 = .ok (.iload 4, 2) := by decide +kernel
theorem d_Mo_follow_113 : decode prog_12_method_22_code 113 = .ok (.invokevirtual 80, 3) := by decide +kernel
theorem d_Mo_follow_116 : decode prog_12_method_22_code 116 = .ok (.iload_n 3, 1) := by decide +kernel
theorem d_Mo_follow_117 : decode prog_12_method_22_code 117 = .ok (.iconst 1, 1) := by decide +kernel
theorem d_Mo_follow_118 : decode prog_12_method_22_code 118 = .ok (.iadd, 1) := by decide +kernel
theorem d_Mo_follow_119 : decode prog_12_method_22_code 119 = .ok (.iload 4, 2) := by decide +kernel
theorem d_Mo_follow_121 : decode prog_12_method_22_code 121 = .ok (.iconst 1, 1) := by decide +kernel
theorem d_Mo_follow_122 : decode prog_12_method_22_code 122 = .ok (.iadd, 1) := by decide +kernel
theorem d_Mo_follow_123 : decode prog_12_method_22_code 123 = .ok (.iconst 0, 1) := by decide +kernel
theorem d_Mo_follow_124 : decode prog_12_method_22_code 124 = .ok (.invokestatic 72, 3) := by decide +kernel
theorem d_Mo_follow_127 : decode prog_12_method_22_code 127 = .ok (.iload 7, 2) := by decide +kernel
theorem d_Mo_follow_129 : decode prog_12_method_22_code 129 = .ok (.invokevirtual 95, 3) := by decide +kernel
theorem d_Mo_follow_132 : decode prog_12_method_22_code 132 = .ok (.ifCond .eq 21, 3) := by decide +kernel
theorem d_Mo_follow_135 : decode prog_12_method_22_code 135 = .ok (.aload_n 0, 1) := by decide +kernel
theorem d_Mo_follow_136 : decode prog_12_method_22_code 136 = .ok (.iconst 0, 1) := by decide +kernel
theorem d_Mo_follow_137 : decode prog_12_method_22_code 137 = .ok (.iconst 1, 1) := by decide +kernel
theorem d_Mo_follow_138 : decode prog_12_method_22_code 138 = .ok (.invokevirtual 101, 3) := by decide +kernel
theorem d_Mo_follow_141 : decode prog_12_method_22_code 141 = .ok (.iinc 3 1, 3) := by decide +kernel
theorem d_Mo_follow_144 : decode prog_12_method_22_code 144 = .ok (.iinc 4 1, 3) := by decide +kernel
theorem d_Mo_follow_147 : decode prog_12_method_22_code 147 = .ok (.iconst 0, 1) := by decide +kernel
theorem d_Mo_follow_148 : decode prog_12_method_22_code 148 = .ok (.istore 5, 2) := by decide +kernel
theorem d_Mo_follow_150 : decode prog_12_method_22_code 150 = .ok (.goto 76, 3) := by decide +kernel
theorem d_Mo_follow_153 : decode prog_12_method_22_code 153 = .ok (.iload 5, 2) := by decide +kernel
theorem d_Mo_follow_155 : decode prog_12_method_22_code 155 = .ok (.iconst 1, 1) := by decide +kernel
theorem d_Mo_follow_156 : decode prog_12_method_22_code 156 = .ok (.if_icmp .eq 15, 3) := by decide +kernel
theorem d_Mo_follow_159 : decode prog_12_method_22_code 159 = .ok (.aload_n 0, 1) := by decide +kernel
theorem d_Mo_follow_160 : decode prog_12_method_22_code 160 = .ok (.iload_n 3, 1) := by decide +kernel
theorem d_Mo_follow_161 : decode prog_12_method_22_code 161 = .ok (.iload 4, 2) := by decide +kernel
theorem d_Mo_follow_163 : decode prog_12_method_22_code 163 = .ok (.iload 7, 2) := by decide +kernel
theorem d_Mo_follow_165 : decode prog_12_method_22_code 165 = .ok (.invokevirtual 104, 3) := by decide +kernel
theorem d_Mo_follow_168 : decode prog_12_method_22_code 168 = .ok (.goto 4, 3) := by decide +kernel
theorem d_Mo_follow_171 : decode prog_12_method_22_code 171 = .ok (.iconst 0, 1) := by decide +kernel
theorem d_Mo_follow_172 : decode prog_12_method_22_code 172 = .ok (.istore 9, 2) := by decide +kernel
theorem d_Mo_follow_174 : decode prog_12_method_22_code 174 = .ok (.iload 9, 2) := by decide +kernel
theorem d_Mo_follow_176 : decode prog_12_method_22_code 176 = .ok (.ifCond .le 21, 3) := by decide +kernel
theorem d_Mo_follow_179 : decode prog_12_method_22_code 179 = .ok (.aload_n 0, 1) := by decide +kernel
theorem d_Mo_follow_180 : decode prog_12_method_22_code 180 = .ok (.iconst 1, 1) := by decide +kernel
theorem d_Mo_follow_181 : decode prog_12_method_22_code 181 = .ok (.iload 9, 2) := by decide +kernel
theorem d_Mo_follow_183 : decode prog_12_method_22_code 183 = .ok (.invokevirtual 101, 3) := by decide +kernel
theorem d_Mo_follow_186 : decode prog_12_method_22_code 186 = .ok (.iload_n 3, 1) := by decide +kernel
theorem d_Mo_follow_187 : decode prog_12_method_22_code 187 = .ok (.iload 9, 2) := by decide +kernel
theorem d_Mo_follow_189 : decode prog_12_method_22_code 189 = .ok (.iadd, 1) := by decide +kernel
theorem d_Mo_follow_190 : decode prog_12_method_22_code 190 = .ok (.istore_n 3, 1) := by decide +kernel
theorem d_Mo_follow_191 : decode prog_12_method_22_code 191 = .ok (.iconst 1, 1) := by decide +kernel
theorem d_Mo_follow_192 : decode prog_12_method_22_code 192 = .ok (.istore 5, 2) := by decide +kernel
theorem d_Mo_follow_194 : decode prog_12_method_22_code 194 = .ok (.goto 32, 3) := by decide +kernel
theorem d_Mo_follow_197 : decode prog_12_method_22_code 197 = .ok (.aload_n 0, 1) := by decide +kernel
theorem d_Mo_follow_198 : decode prog_12_method_22_code 198 = .ok (.iconst 0, 1) := by decide +kernel
theorem d_Mo_follow_199 : decode prog_12_method_22_code 199 = .ok (.iload_n 3, 1) := by decide +kernel
theorem d_Mo_follow_200 : decode prog_12_method_22_code 200 = .ok (.iload 4, 2) := by decide +kernel
theorem d_Mo_follow_202 : decode prog_12_method_22_code 202 = .ok (.iload 7, 2) := by decide +kernel
theorem d_Mo_follow_204 : decode prog_12_method_22_code 204 = .ok (.invokevirtual 107, 3) := by decide +kernel
theorem d_Mo_follow_207 : decode prog_12_method_22_code 207 = .ok (.istore 10, 2) := by decide +kernel
theorem d_Mo_follow_209 : decode prog_12_method_22_code 209 = .ok (.aload_n 0, 1) := by decide +kernel
theorem d_Mo_follow_210 : decode prog_12_method_22_code 210 = .ok (.iconst 2, 1) := by decide +kernel
theorem d_Mo_follow_211 : decode prog_12_method_22_code 211 = .ok (.iload 10, 2) := by decide +kernel
theorem d_Mo_follow_213 : decode prog_12_method_22_code 213 = .ok (.invokevirtual 101, 3) := by decide +kernel
theorem d_Mo_follow_216 : decode prog_12_method_22_code 216 = .ok (.iload 4, 2) := by decide +kernel
theorem d_Mo_follow_218 : decode prog_12_method_22_code 218 = .ok (.iload 10, 2) := by decide +kernel
theorem d_Mo_follow_220 : decode prog_12_method_22_code 220 = .ok (.iadd, 1) := by decide +kernel
theorem d_Mo_follow_221 : decode prog_12_method_22_code 221 = .ok (.istore 4, 2) := by decide +kernel
theorem d_Mo_follow_223 : decode prog_12_method_22_code 223 = .ok (.iconst 2, 1) := by decide +kernel
theorem d_Mo_follow_224 : decode prog_12_method_22_code 224 = .ok (.istore 5, 2) := by decide +kernel
theorem d_Mo_follow_226 : decode prog_12_method_22_code 226 = .ok (.goto (-210), 3) := by decide +kernel
theorem d_Mo_follow_229 : decode prog_12_method_22_code 229 = .ok (.aload_n 0, 1) := by decide +kernel
theorem d_Mo_follow_230 : decode prog_12_method_22_code 230 = .ok (.getfield 32, 3) := by decide +kernel
theorem d_Mo_follow_233 : decode prog_12_method_22_code 233 = .ok (.iconst 0, 1) := by decide +kernel
theorem d_Mo_follow_234 : decode prog_12_method_22_code 234 = .ok (.iload_n 3, 1) := by decide +kernel
theorem d_Mo_follow_235 : decode prog_12_method_22_code 235 = .ok (.iastore, 1) := by decide +kernel
theorem d_Mo_follow_236 : decode prog_12_method_22_code 236 = .ok (.aload_n 0, 1) := by decide +kernel
theorem d_Mo_follow_237 : decode prog_12_method_22_code 237 = .ok (.getfield 32, 3) := by decide +kernel
theorem d_Mo_follow_240 : decode prog_12_method_22_code 240 = .ok (.iconst 1, 1) := by decide +kernel
theorem d_Mo_follow_241 : decode prog_12_method_22_code 241 = .ok (.iload 4, 2) := by decide +kernel
theorem d_Mo_follow_243 : decode prog_12_method_22_code 243 = .ok (.iastore, 1) := by decide +kernel
theorem d_Mo_follow_244 : decode prog_12_method_22_code 244 = .ok (.return_, 1) := by decide +kernel
theorem d_Mo_isGoal_0 : decode prog_12_method_20_code 0 = .ok (.aload_n 0, 1) := by decide +kernel
theorem d_Mo_isGoal_1 : decode prog_12_method_20_code 1 = .ok (.getfield 35, 3) := by decide +kernel
theorem d_Mo_isGoal_4 : decode prog_12_method_20_code 4 = .ok (.iload_n 2, 1) := by decide +kernel
theorem d_Mo_isGoal_5 : decode prog_12_method_20_code 5 = .ok (.iaload, 1) := by decide +kernel
theorem d_Mo_isGoal_6 : decode prog_12_method_20_code 6 = .ok (.ldc 79, 2) := by decide +kernel
theorem d_Mo_isGoal_8 : decode prog_12_method_20_code 8 = .ok (.if_icmp .eq 19, 3) := by decide +kernel
theorem d_Mo_isGoal_11 : decode prog_12_method_20_code 11 = .ok (.iload_n 1, 1) := by decide +kernel
theorem d_Mo_isGoal_12 : decode prog_12_method_20_code 12 = .ok (.aload_n 0, 1) := by decide +kernel
theorem d_Mo_isGoal_13 : decode prog_12_method_20_code 13 = .ok (.getfield 35, 3) := by decide +kernel
theorem d_Mo_isGoal_16 : decode prog_12_method_20_code 16 = .ok (.iload_n 2, 1) := by decide +kernel
theorem d_Mo_isGoal_17 : decode prog_12_method_20_code 17 = .ok (.iaload, 1) := by decide +kernel
theorem d_Mo_isGoal_18 : decode prog_12_method_20_code 18 = .ok (.iadd, 1) := by decide +kernel
theorem d_Mo_isGoal_19 : decode prog_12_method_20_code 19 = .ok (.iload_n 3, 1) := by decide +kernel
theorem d_Mo_isGoal_20 : decode prog_12_method_20_code 20 = .ok (.if_icmp .ne 7, 3) := by decide +kernel
theorem d_Mo_isGoal_23 : decode prog_12_method_20_code 23 = .ok (.iconst 1, 1) := by decide +kernel
theorem d_Mo_isGoal_24 : decode prog_12_method_20_code 24 = .ok (.goto 4, 3) := by decide +kernel
theorem d_Mo_isGoal_27 : decode prog_12_method_20_code 27 = .ok (.iconst 0, 1) := by decide +kernel
theorem d_Mo_isGoal_28 : decode prog_12_method_20_code 28 = .ok (.ireturn, 1) := by decide +kernel
theorem d_Mo_put_0 : decode prog_12_method_24_code 0 = .ok (.iconst 0, 1) := by decide +kernel
theorem d_Mo_put_1 : decode prog_12_method_24_code 1 = .ok (.istore_n 3, 1) := by decide +kernel
theorem d_Mo_put_2 : decode prog_12_method_24_code 2 = .ok (.iload_n 3, 1) := by decide +kernel
theorem d_Mo_put_3 : decode prog_12_method_24_code 3 = .ok (.iload_n 2, 1) := by decide +kernel
theorem d_Mo_put_4 : decode prog_12_method_24_code 4 = .ok (.if_icmp .ge 29, 3) := by decide +kernel
theorem d_Mo_put_7 : decode prog_12_method_24_code 7 = .ok (.aload_n 0, 1) := by decide +kernel
theorem d_Mo_put_8 : decode prog_12_method_24_code 8 = .ok (.getfield 26, 3) := by decide +kernel
theorem d_Mo_put_11 : decode prog_12_method_24_code 11 = .ok (.aload_n 0, 1) := by decide +kernel
theorem d_Mo_put_12 : decode prog_12_method_24_code 12 = .ok (.getfield 98, 3) := by decide +kernel
theorem d_Mo_put_15 : decode prog_12_method_24_code 15 = .ok (.iload_n 1, 1) := by decide +kernel
theorem d_Mo_put_16 : decode prog_12_method_24_code 16 = .ok (.iastore, 1) := by decide +kernel
theorem d_Mo_put_17 : decode prog_12_method_24_code 17 = .ok (.aload_n 0, 1) := by decide +kernel
theorem d_Mo_put_18 : decode prog_12_method_24_code 18 = .ok (.dup, 1) := by decide +kernel
theorem d_Mo_put_19 : decode prog_12_method_24_code 19 = .ok (.getfield 98, 3) := by decide +kernel
theorem d_Mo_put_22 : decode prog_12_method_24_code 22 = .ok (.iconst 1, 1) := by decide +kernel
theorem d_Mo_put_23 : decode prog_12_method_24_code 23 = .ok (.iadd, 1) := by decide +kernel
theorem d_Mo_put_24 : decode prog_12_method_24_code 24 = .ok (.putfield 98, 3) := by decide +kernel
theorem d_Mo_put_27 : decode prog_12_method_24_code 27 = .ok (.iinc 3 1, 3) := by decide +kernel
theorem d_Mo_put_30 : decode prog_12_method_24_code 30 = .ok (.goto (-28), 3) := by decide +kernel
theorem d_Mo_put_33 : decode prog_12_method_24_code 33 = .ok (.return_, 1) := by decide +kernel
theorem d_Mo_gapOfOne_0 : decode prog_12_method_23_code 0 = .ok (.iconst 0, 1) := by decide +kernel
theorem d_Mo_gapOfOne_1 : decode prog_12_method_23_code 1 = .ok (.istore 4, 2) := by decide +kernel
theorem d_Mo_gapOfOne_3 : decode prog_12_method_23_code 3 = .ok (.iconst 1, 1) := by decide +kernel
theorem d_Mo_gapOfOne_4 : decode prog_12_method_23_code 4 = .ok (.istore 5, 2) := by decide +kernel
theorem d_Mo_gapOfOne_6 : decode prog_12_method_23_code 6 = .ok (.iload_n 1, 1) := by decide +kernel
theorem d_Mo_gapOfOne_7 : decode prog_12_method_23_code 7 = .ok (.iload 5, 2) := by decide +kernel
theorem d_Mo_gapOfOne_9 : decode prog_12_method_23_code 9 = .ok (.iadd, 1) := by decide +kernel
theorem d_Mo_gapOfOne_10 : decode prog_12_method_23_code 10 = .ok (.aload_n 0, 1) := by decide +kernel
theorem d_Mo_gapOfOne_11 : decode prog_12_method_23_code 11 = .ok (.getfield 13, 3) := by decide +kernel
theorem d_Mo_gapOfOne_14 : decode prog_12_method_23_code 14 = .ok (.iconst 0, 1) := by decide +kernel
theorem d_Mo_gapOfOne_15 : decode prog_12_method_23_code 15 = .ok (.iaload, 1) := by decide +kernel
theorem d_Mo_gapOfOne_16 : decode prog_12_method_23_code 16 = .ok (.if_icmp .gt 170, 3) := by decide +kernel
theorem d_Mo_gapOfOne_19 : decode prog_12_method_23_code 19 = .ok (.iload_n 1, 1) := by decide +kernel
theorem d_Mo_gapOfOne_20 : decode prog_12_method_23_code 20 = .ok (.iload 5, 2) := by decide +kernel
theorem d_Mo_gapOfOne_22 : decode prog_12_method_23_code 22 = .ok (.iadd, 1) := by decide +kernel
theorem d_Mo_gapOfOne_23 : decode prog_12_method_23_code 23 = .ok (.iload_n 2, 1) := by decide +kernel
theorem d_Mo_gapOfOne_24 : decode prog_12_method_23_code 24 = .ok (.iconst 1, 1) := by decide +kernel
theorem d_Mo_gapOfOne_25 : decode prog_12_method_23_code 25 = .ok (.invokestatic 72, 3) := by decide +kernel
theorem d_Mo_gapOfOne_28 : decode prog_12_method_23_code 28 = .ok (.istore 6, 2) := by decide +kernel
theorem d_Mo_gapOfOne_30 : decode prog_12_method_23_code 30 = .ok (.aload_n 0, 1) := by decide +kernel
theorem d_Mo_gapOfOne_31 : decode prog_12_method_23_code 31 = .ok (.aload_n 0, 1) := by decide +kernel
theorem d_Mo_gapOfOne_32 : decode prog_12_method_23_code 32 = .ok (.iconst 1, 1) := by decide +kernel
theorem d_Mo_gapOfOne_33 : decode prog_12_method_23_code 33 = .ok (.iload_n 1, 1) := by decide +kernel
theorem d_Mo_gapOfOne_34 : decode prog_12_method_23_code 34 = .ok (.iload_n 2, 1) := by decide +kernel
theorem d_Mo_gapOfOne_35 : decode prog_12_method_23_code 35 = .ok (.iload 5, 2) := by decide +kernel
theorem d_Mo_gapOfOne_37 : decode prog_12_method_23_code 37 = .ok (.invokevirtual 88, 3) := by decide +kernel
theorem d_Mo_gapOfOne_40 : decode prog_12_method_23_code 40 = .ok (.ineg, 1) := by decide +kernel
theorem d_Mo_gapOfOne_41 : decode prog_12_method_23_code 41 = .ok (.iload 6, 2) := by decide +kernel
theorem d_Mo_gapOfOne_43 : decode prog_12_method_23_code 43 = .ok (.iload_n 3, 1) := by decide +kernel
theorem d_Mo_gapOfOne_44 : decode prog_12_method_23_code 44 = .ok (.invokevirtual 95, 3) := by decide +kernel
theorem d_Mo_gapOfOne_47 : decode prog_12_method_23_code 47 = .ok (.ifCond .eq 133, 3) := by decide +kernel
theorem d_Mo_gapOfOne_50 : decode prog_12_method_23_code 50 = .ok (.iload 5, 2) := by decide +kernel
theorem d_Mo_gapOfOne_52 : decode prog_12_method_23_code 52 = .ok (.istore 4, 2) := by decide +kernel
theorem d_Mo_gapOfOne_54 : decode prog_12_method_23_code 54 = .ok (.iload_n 1, 1) := by decide +kernel
theorem d_Mo_gapOfOne_55 : decode prog_12_method_23_code 55 = .ok (.iload 5, 2) := by decide +kernel
theorem d_Mo_gapOfOne_57 : decode prog_12_method_23_code 57 = .ok (.iadd, 1) := by decide +kernel
theorem d_Mo_gapOfOne_58 : decode prog_12_method_23_code 58 = .ok (.aload_n 0, 1) := by decide +kernel
theorem d_Mo_gapOfOne_59 : decode prog_12_method_23_code 59 = .ok (.getfield 13, 3) := by decide +kernel
theorem d_Mo_gapOfOne_62 : decode prog_12_method_23_code 62 = .ok (.iconst 0, 1) := by decide +kernel
theorem d_Mo_gapOfOne_63 : decode prog_12_method_23_code 63 = .ok (.iaload, 1) := by decide +kernel
theorem d_Mo_gapOfOne_64 : decode prog_12_method_23_code 64 = .ok (.if_icmp .ne 13, 3) := by decide +kernel
theorem d_Mo_gapOfOne_67 : decode prog_12_method_23_code 67 = .ok (.iload_n 2, 1) := by decide +kernel
theorem d_Mo_gapOfOne_68 : decode prog_12_method_23_code 68 = .ok (.aload_n 0, 1) := by decide +kernel
theorem d_Mo_gapOfOne_69 : decode prog_12_method_23_code 69 = .ok (.getfield 13, 3) := by decide +kernel
theorem d_Mo_gapOfOne_72 : decode prog_12_method_23_code 72 = .ok (.iconst 1, 1) := by decide +kernel
theorem d_Mo_gapOfOne_73 : decode prog_12_method_23_code 73 = .ok (.iaload, 1) := by decide +kernel
theorem d_Mo_gapOfOne_74 : decode prog_12_method_23_code 74 = .ok (.if_icmp .eq 20, 3) := by decide +kernel
theorem d_Mo_gapOfOne_77 : decode prog_12_method_23_code 77 = .ok (.aload_n 0, 1) := by decide +kernel
theorem d_Mo_gapOfOne_78 : decode prog_12_method_23_code 78 = .ok (.getfield 76, 3) := by decide +kernel
theorem d_Mo_gapOfOne_81 : decode prog_12_method_23_code 81 = .ok (.ifCond .eq 17, 3) := by decide +kernel
theorem d_Mo_gapOfOne_84 : decode prog_12_method_23_code 84 = .ok (.aload_n 0, 1) := by decide +kernel
theorem d_Mo_gapOfOne_85 : decode prog_12_method_23_code 85 = .ok (.getfield 35, 3) := by decide +kernel
theorem d_Mo_gapOfOne_88 : decode prog_12_method_23_code 88 = .ok (.iload 6, 2) := by decide +kernel
theorem d_Mo_gapOfOne_90 : decode prog_12_method_23_code 90 = .ok (.iaload, 1) := by decide +kernel
theorem d_Mo_gapOfOne_91 : decode prog_12_method_23_code 91 = .ok (.ifCond .ne 7, 3) := by decide +kernel
theorem d_Mo_gapOfOne_94 : decode prog_12_method_23_code 94 = .ok (.iconst 1, 1) := by decide +kernel
theorem d_Mo_gapOfOne_95 : decode prog_12_method_23_code 95 = .ok (.goto 4, 3) := by decide +kernel
theorem d_Mo_gapOfOne_98 : decode prog_12_method_23_code 98 = .ok (.iconst 0, 1) := by decide +kernel
theorem d_Mo_gapOfOne_99 : decode prog_12_method_23_code 99 = .ok (.istore 7, 2) := by decide +kernel
theorem d_Mo_gapOfOne_101 : decode prog_12_method_23_code 101 = .ok (.iload_n 1, 1) := by decide +kernel
theorem d_Mo_gapOfOne_102 : decode prog_12_method_23_code 102 = .ok (.iload 5, 2) := by decide +kernel
theorem d_Mo_gapOfOne_104 : decode prog_12_method_23_code 104 = .ok (.iadd, 1) := by decide +kernel
theorem d_Mo_gapOfOne_105 : decode prog_12_method_23_code 105 = .ok (.aload_n 0, 1) := by decide +kernel
theorem d_Mo_gapOfOne_106 : decode prog_12_method_23_code 106 = .ok (.getfield 13, 3) := by decide +kernel
theorem d_Mo_gapOfOne_109 : decode prog_12_method_23_code 109 = .ok (.iconst 0, 1) := by decide +kernel
theorem d_Mo_gapOfOne_110 : decode prog_12_method_23_code 110 = .ok (.iaload, 1) := by decide +kernel
theorem d_Mo_gapOfOne_111 : decode prog_12_method_23_code 111 = .ok (.if_icmp .ge 53, 3) := by decide +kernel
theorem d_Mo_gapOfOne_114 : decode prog_12_method_23_code 114 = .ok (.iload_n 2, 1) := by decide +kernel
theorem d_Mo_gapOfOne_115 : decode prog_12_method_23_code 115 = .ok (.aload_n 0, 1) := by decide +kernel
theorem d_Mo_gapOfOne_116 : decode prog_12_method_23_code 116 = .ok (.getfield 13, 3) := by decide +kernel
theorem d_Mo_gapOfOne_119 : decode prog_12_method_23_code 119 = .ok (.iconst 1, 1) := by decide +kernel
theorem d_Mo_gapOfOne_120 : decode prog_12_method_23_code 120 = .ok (.iaload, 1) := by decide +kernel
theorem d_Mo_gapOfOne_121 : decode prog_12_method_23_code 121 = .ok (.if_icmp .ge 43, 3) := by decide +kernel
theorem d_Mo_gapOfOne_124 : decode prog_12_method_23_code 124 = .ok (.aload_n 0, 1) := by decide +kernel
theorem d_Mo_gapOfOne_125 : decode prog_12_method_23_code 125 = .ok (.aload_n 0, 1) := by decide +kernel
theorem d_Mo_gapOfOne_126 : decode prog_12_method_23_code 126 = .ok (.iload_n 1, 1) := by decide +kernel
theorem d_Mo_gapOfOne_127 : decode prog_12_method_23_code 127 = .ok (.iload 5, 2) := by decide +kernel
theorem d_Mo_gapOfOne_129 : decode prog_12_method_23_code 129 = .ok (.iadd, 1) := by decide +kernel
theorem d_Mo_gapOfOne_130 : decode prog_12_method_23_code 130 = .ok (.iload_n 2, 1) := by decide +kernel
theorem d_Mo_gapOfOne_131 : decode prog_12_method_23_code 131 = .ok (.invokevirtual 80, 3) := by decide +kernel
theorem d_Mo_gapOfOne_134 : decode prog_12_method_23_code 134 = .ok (.iload_n 1, 1) := by decide +kernel
theorem d_Mo_gapOfOne_135 : decode prog_12_method_23_code 135 = .ok (.iload 5, 2) := by decide +kernel
theorem d_Mo_gapOfOne_137 : decode prog_12_method_23_code 137 = .ok (.iadd, 1) := by decide +kernel
theorem d_Mo_gapOfOne_138 : decode prog_12_method_23_code 138 = .ok (.iconst 1, 1) := by decide +kernel
theorem d_Mo_gapOfOne_139 : decode prog_12_method_23_code 139 = .ok (.iadd, 1) := by decide +kernel
theorem d_Mo_gapOfOne_140 : decode prog_12_method_23_code 140 = .ok (.iload_n 2, 1) := by decide +kernel
theorem d_Mo_gapOfOne_141 : decode prog_12_method_23_code 141 = .ok (.iconst 1, 1) := by decide +kernel
theorem d_Mo_gapOfOne_142 : decode prog_12_method_23_code 142 = .ok (.iadd, 1) := by decide +kernel
theorem d_Mo_gapOfOne_143 : decode prog_12_method_23_code 143 = .ok (.iconst 0, 1) := by decide +kernel
theorem d_Mo_gapOfOne_144 : decode prog_12_method_23_code 144 = .ok (.invokestatic 72, 3) := by decide +kernel
theorem d_Mo_gapOfOne_147 : decode prog_12_method_23_code 147 = .ok (.aload_n 0, 1) := by decide +kernel
theorem d_Mo_gapOfOne_148 : decode prog_12_method_23_code 148 = .ok (.getfield 35, 3) := by decide +kernel
theorem d_Mo_gapOfOne_151 : decode prog_12_method_23_code 151 = .ok (.iload 6, 2) := by decide +kernel
theorem d_Mo_gapOfOne_153 : decode prog_12_method_23_code 153 = .ok (.iaload, 1) := by decide +kernel
theorem d_Mo_gapOfOne_154 : decode prog_12_method_23_code 154 = .ok (.invokevirtual 95, 3) := by decide +kernel
theorem d_Mo_gapOfOne_157 : decode prog_12_method_23_code 157 = .ok (.ifCond .eq 7, 3) := by decide +kernel
theorem d_Mo_gapOfOne_160 : decode prog_12_method_23_code 160 = .ok (.iconst 1, 1) := by decide +kernel
theorem d_Mo_gapOfOne_161 : decode prog_12_method_23_code 161 = .ok (.goto 4, 3) := by decide +kernel
theorem d_Mo_gapOfOne_164 : decode prog_12_method_23_code 164 = .ok (.iconst 0, 1) := by decide +kernel
theorem d_Mo_gapOfOne_165 : decode prog_12_method_23_code 165 = .ok (.istore 8, 2) := by decide +kernel
theorem d_Mo_gapOfOne_167 : decode prog_12_method_23_code 167 = .ok (.iload 7, 2) := by decide +kernel
theorem d_Mo_gapOfOne_169 : decode prog_12_method_23_code 169 = .ok (.ifCond .ne 8, 3) := by decide +kernel
theorem d_Mo_gapOfOne_172 : decode prog_12_method_23_code 172 = .ok (.iload 8, 2) := by decide +kernel
theorem d_Mo_gapOfOne_174 : decode prog_12_method_23_code 174 = .ok (.ifCond .eq 6, 3) := by decide +kernel
theorem d_Mo_gapOfOne_177 : decode prog_12_method_23_code 177 = .ok (.iload 5, 2) := by decide +kernel
theorem d_Mo_gapOfOne_179 : decode prog_12_method_23_code 179 = .ok (.ireturn, 1) := by decide +kernel
theorem d_Mo_gapOfOne_180 : decode prog_12_method_23_code 180 = .ok (.iinc 5 1, 3) := by decide +kernel
theorem d_Mo_gapOfOne_183 : decode prog_12_method_23_code 183 = .ok (.goto (-177), 3) := by decide +kernel
theorem d_Mo_gapOfOne_186 : decode prog_12_method_23_code 186 = .ok (.iload 4, 2) := by decide +kernel
theorem d_Mo_gapOfOne_188 : decode prog_12_method_23_code 188 = .ok (.ireturn, 1) := by decide +kernel
theorem d_Mo_gapHere_0 : decode prog_12_method_21_code 0 = .ok (.iload_n 1, 1) := by decide +kernel
theorem d_Mo_gapHere_1 : decode prog_12_method_21_code 1 = .ok (.ifCond .eq 14, 3) := by decide +kernel
theorem d_Mo_gapHere_4 : decode prog_12_method_21_code 4 = .ok (.aload_n 0, 1) := by decide +kernel
theorem d_Mo_gapHere_5 : decode prog_12_method_21_code 5 = .ok (.getfield 13, 3) := by decide +kernel
theorem d_Mo_gapHere_8 : decode prog_12_method_21_code 8 = .ok (.iconst 0, 1) := by decide +kernel
theorem d_Mo_gapHere_9 : decode prog_12_method_21_code 9 = .ok (.iaload, 1) := by decide +kernel
theorem d_Mo_gapHere_10 : decode prog_12_method_21_code 10 = .ok (.iload_n 2, 1) := by decide +kernel
theorem d_Mo_gapHere_11 : decode prog_12_method_21_code 11 = .ok (.isub, 1) := by decide +kernel
theorem d_Mo_gapHere_12 : decode prog_12_method_21_code 12 = .ok (.goto 11, 3) := by decide +kernel
theorem d_Mo_gapHere_15 : decode prog_12_method_21_code 15 = .ok (.aload_n 0, 1) := by decide +kernel
theorem d_Mo_gapHere_16 : decode prog_12_method_21_code 16 = .ok (.getfield 13, 3) := by decide +kernel
theorem d_Mo_gapHere_19 : decode prog_12_method_21_code 19 = .ok (.iconst 1, 1) := by decide +kernel
theorem d_Mo_gapHere_20 : decode prog_12_method_21_code 20 = .ok (.iaload, 1) := by decide +kernel
theorem d_Mo_gapHere_21 : decode prog_12_method_21_code 21 = .ok (.iload_n 3, 1) := by decide +kernel
theorem d_Mo_gapHere_22 : decode prog_12_method_21_code 22 = .ok (.isub, 1) := by decide +kernel
theorem d_Mo_gapHere_23 : decode prog_12_method_21_code 23 = .ok (.istore 5, 2) := by decide +kernel
theorem d_Mo_gapHere_25 : decode prog_12_method_21_code 25 = .ok (.iconst 0, 1) := by decide +kernel
theorem d_Mo_gapHere_26 : decode prog_12_method_21_code 26 = .ok (.istore 6, 2) := by decide +kernel
theorem d_Mo_gapHere_28 : decode prog_12_method_21_code 28 = .ok (.iconst 1, 1) := by decide +kernel
theorem d_Mo_gapHere_29 : decode prog_12_method_21_code 29 = .ok (.istore 7, 2) := by decide +kernel
theorem d_Mo_gapHere_31 : decode prog_12_method_21_code 31 = .ok (.iload 7, 2) := by decide +kernel
theorem d_Mo_gapHere_33 : decode prog_12_method_21_code 33 = .ok (.iload 5, 2) := by decide +kernel
theorem d_Mo_gapHere_35 : decode prog_12_method_21_code 35 = .ok (.if_icmp .gt 70, 3) := by decide +kernel
theorem d_Mo_gapHere_38 : decode prog_12_method_21_code 38 = .ok (.iload 6, 2) := by decide +kernel
theorem d_Mo_gapHere_40 : decode prog_12_method_21_code 40 = .ok (.ifCond .ne 65, 3) := by decide +kernel
theorem d_Mo_gapHere_43 : decode prog_12_method_21_code 43 = .ok (.iload_n 1, 1) := by decide +kernel
theorem d_Mo_gapHere_44 : decode prog_12_method_21_code 44 = .ok (.ifCond .eq 15, 3) := by decide +kernel
theorem d_Mo_gapHere_47 : decode prog_12_method_21_code 47 = .ok (.iload_n 2, 1) := by decide +kernel
theorem d_Mo_gapHere_48 : decode prog_12_method_21_code 48 = .ok (.iload 7, 2) := by decide +kernel
theorem d_Mo_gapHere_50 : decode prog_12_method_21_code 50 = .ok (.iadd, 1) := by decide +kernel
theorem d_Mo_gapHere_51 : decode prog_12_method_21_code 51 = .ok (.iload_n 3, 1) := by decide +kernel
theorem d_Mo_gapHere_52 : decode prog_12_method_21_code 52 = .ok (.iconst 1, 1) := by decide +kernel
theorem d_Mo_gapHere_53 : decode prog_12_method_21_code 53 = .ok (.invokestatic 72, 3) := by decide +kernel
theorem d_Mo_gapHere_56 : decode prog_12_method_21_code 56 = .ok (.goto 12, 3) := by decide +kernel
theorem d_Mo_gapHere_59 : decode prog_12_method_21_code 59 = .ok (.iload_n 2, 1) := by decide +kernel
theorem d_Mo_gapHere_60 : decode prog_12_method_21_code 60 = .ok (.iload_n 3, 1) := by decide +kernel
theorem d_Mo_gapHere_61 : decode prog_12_method_21_code 61 = .ok (.iload 7, 2) := by decide +kernel
theorem d_Mo_gapHere_63 : decode prog_12_method_21_code 63 = .ok (.iadd, 1) := by decide +kernel
theorem d_Mo_gapHere_64 : decode prog_12_method_21_code 64 = .ok (.iconst 2, 1) := by decide +kernel
theorem d_Mo_gapHere_65 : decode prog_12_method_21_code 65 = .ok (.invokestatic 72, 3) := by decide +kernel
theorem d_Mo_gapHere_68 : decode prog_12_method_21_code 68 = .ok (.istore 8, 2) := by decide +kernel
theorem d_Mo_gapHere_70 : decode prog_12_method_21_code 70 = .ok (.aload_n 0, 1) := by decide +kernel
theorem d_Mo_gapHere_71 : decode prog_12_method_21_code 71 = .ok (.aload_n 0, 1) := by decide +kernel
theorem d_Mo_gapHere_72 : decode prog_12_method_21_code 72 = .ok (.iload_n 1, 1) := by decide +kernel
theorem d_Mo_gapHere_73 : decode prog_12_method_21_code 73 = .ok (.iload_n 2, 1) := by decide +kernel
theorem d_Mo_gapHere_74 : decode prog_12_method_21_code 74 = .ok (.iload_n 3, 1) := by decide +kernel
theorem d_Mo_gapHere_75 : decode prog_12_method_21_code 75 = .ok (.iload 7, 2) := by decide +kernel
theorem d_Mo_gapHere_77 : decode prog_12_method_21_code 77 = .ok (.invokevirtual 88, 3) := by decide +kernel
theorem d_Mo_gapHere_80 : decode prog_12_method_21_code 80 = .ok (.ineg, 1) := by decide +kernel
theorem d_Mo_gapHere_81 : decode prog_12_method_21_code 81 = .ok (.iload 8, 2) := by decide +kernel
theorem d_Mo_gapHere_83 : decode prog_12_method_21_code 83 = .ok (.iload 4, 2) := by decide +kernel
theorem d_Mo_gapHere_85 : decode prog_12_method_21_code 85 = .ok (.invokevirtual 95, 3) := by decide +kernel
theorem d_Mo_gapHere_88 : decode prog_12_method_21_code 88 = .ok (.ifCond .eq 8, 3) := by decide +kernel
theorem d_Mo_gapHere_91 : decode prog_12_method_21_code 91 = .ok (.iload 7, 2) := by decide +kernel
theorem d_Mo_gapHere_93 : decode prog_12_method_21_code 93 = .ok (.goto 4, 3) := by decide +kernel
theorem d_Mo_gapHere_96 : decode prog_12_method_21_code 96 = .ok (.iconst 0, 1) := by decide +kernel
theorem d_Mo_gapHere_97 : decode prog_12_method_21_code 97 = .ok (.istore 6, 2) := by decide +kernel
theorem d_Mo_gapHere_99 : decode prog_12_method_21_code 99 = .ok (.iinc 7 1, 3) := by decide +kernel
theorem d_Mo_gapHere_102 : decode prog_12_method_21_code 102 = .ok (.goto (-71), 3) := by decide +kernel
theorem d_Mo_gapHere_105 : decode prog_12_method_21_code 105 = .ok (.iload 6, 2) := by decide +kernel
theorem d_Mo_gapHere_107 : decode prog_12_method_21_code 107 = .ok (.ireturn, 1) := by decide +kernel
theorem d_Mo_parts_0 : decode prog_12_method_26_code 0 = .ok (.aload_n 0, 1) := by decide +kernel
theorem d_Mo_parts_1 : decode prog_12_method_26_code 1 = .ok (.iconst 0, 1) := by decide +kernel
theorem d_Mo_parts_2 : decode prog_12_method_26_code 2 = .ok (.putfield 52, 3) := by decide +kernel
theorem d_Mo_parts_5 : decode prog_12_method_26_code 5 = .ok (.aload_n 0, 1) := by decide +kernel
theorem d_Mo_parts_6 : decode prog_12_method_26_code 6 = .ok (.iconst 0, 1) := by decide +kernel
theorem d_Mo_parts_7 : decode prog_12_method_26_code 7 = .ok (.putfield 69, 3) := by decide +kernel
theorem d_Mo_parts_10 : decode prog_12_method_26_code 10 = .ok (.aload_n 0, 1) := by decide +kernel
theorem d_Mo_parts_11 : decode prog_12_method_26_code 11 = .ok (.iconst 1, 1) := by decide +kernel
theorem d_Mo_parts_12 : decode prog_12_method_26_code 12 = .ok (.putfield 76, 3) := by decide +kernel
theorem d_Mo_parts_15 : decode prog_12_method_26_code 15 = .ok (.aload_n 0, 1) := by decide +kernel
theorem d_Mo_parts_16 : decode prog_12_method_26_code 16 = .ok (.invokevirtual 110, 3) := by decide +kernel
theorem d_Mo_parts_19 : decode prog_12_method_26_code 19 = .ok (.iconst 0, 1) := by decide +kernel
theorem d_Mo_parts_20 : decode prog_12_method_26_code 20 = .ok (.istore_n 1, 1) := by decide +kernel
theorem d_Mo_parts_21 : decode prog_12_method_26_code 21 = .ok (.iconst 0, 1) := by decide +kernel
theorem d_Mo_parts_22 : decode prog_12_method_26_code 22 = .ok (.istore_n 2, 1) := by decide +kernel
theorem d_Mo_parts_23 : decode prog_12_method_26_code 23 = .ok (.iconst 0, 1) := by decide +kernel
theorem d_Mo_parts_24 : decode prog_12_method_26_code 24 = .ok (.istore_n 3, 1) := by decide +kernel
theorem d_Mo_parts_25 : decode prog_12_method_26_code 25 = .ok (.iload_n 3, 1) := by decide +kernel
theorem d_Mo_parts_26 : decode prog_12_method_26_code 26 = .ok (.aload_n 0, 1) := by decide +kernel
theorem d_Mo_parts_27 : decode prog_12_method_26_code 27 = .ok (.getfield 13, 3) := by decide +kernel
theorem d_Mo_parts_30 : decode prog_12_method_26_code 30 = .ok (.iconst 0, 1) := by decide +kernel
theorem d_Mo_parts_31 : decode prog_12_method_26_code 31 = .ok (.iaload, 1) := by decide +kernel
theorem d_Mo_parts_32 : decode prog_12_method_26_code 32 = .ok (.if_icmp .gt 60, 3) := by decide +kernel
theorem d_Mo_parts_35 : decode prog_12_method_26_code 35 = .ok (.iconst 0, 1) := by decide +kernel
theorem d_Mo_parts_36 : decode prog_12_method_26_code 36 = .ok (.istore 4, 2) := by decide +kernel
theorem d_Mo_parts_38 : decode prog_12_method_26_code 38 = .ok (.iload 4, 2) := by decide +kernel
theorem d_Mo_parts_40 : decode prog_12_method_26_code 40 = .ok (.aload_n 0, 1) := by decide +kernel
theorem d_Mo_parts_41 : decode prog_12_method_26_code 41 = .ok (.getfield 13, 3) := by decide +kernel
theorem d_Mo_parts_44 : decode prog_12_method_26_code 44 = .ok (.iconst 1, 1) := by decide +kernel
theorem d_Mo_parts_45 : decode prog_12_method_26_code 45 = .ok (.iaload, 1) := by decide +kernel
theorem d_Mo_parts_46 : decode prog_12_method_26_code 46 = .ok (.if_icmp .gt 40, 3) := by decide +kernel
theorem d_Mo_parts_49 : decode prog_12_method_26_code 49 = .ok (.aload_n 0, 1) := by decide +kernel
theorem d_Mo_parts_50 : decode prog_12_method_26_code 50 = .ok (.getfield 35, 3) := by decide +kernel
theorem d_Mo_parts_53 : decode prog_12_method_26_code 53 = .ok (.iload_n 3, 1) := by decide +kernel
theorem d_Mo_parts_54 : decode prog_12_method_26_code 54 = .ok (.iload 4, 2) := by decide +kernel
theorem d_Mo_parts_56 : decode prog_12_method_26_code 56 = .ok (.iconst 0, 1) := by decide +kernel
theorem d_Mo_parts_57 : decode prog_12_method_26_code 57 = .ok (.invokestatic 72, 3) := by decide +kernel
theorem d_Mo_parts_60 : decode prog_12_method_26_code 60 = .ok (.iaload, 1) := by decide +kernel
theorem d_Mo_parts_61 : decode prog_12_method_26_code 61 = .ok (.aload_n 0, 1) := by decide +kernel
theorem d_Mo_parts_62 : decode prog_12_method_26_code 62 = .ok (.getfield 35, 3) := by decide +kernel
theorem d_Mo_parts_65 : decode prog_12_method_26_code 65 = .ok (.iload_n 1, 1) := by decide +kernel
theorem d_Mo_parts_66 : decode prog_12_method_26_code 66 = .ok (.iload_n 2, 1) := by decide +kernel
theorem d_Mo_parts_67 : decode prog_12_method_26_code 67 = .ok (.iconst 0, 1) := by decide +kernel
theorem d_Mo_parts_68 : decode prog_12_method_26_code 68 = .ok (.invokestatic 72, 3) := by decide +kernel
theorem d_Mo_parts_71 : decode prog_12_method_26_code 71 = .ok (.iaload, 1) := by decide +kernel
theorem d_Mo_parts_72 : decode prog_12_method_26_code 72 = .ok (.if_icmp .le 8, 3) := by decide +kernel
theorem d_Mo_parts_75 : decode prog_12_method_26_code 75 = .ok (.iload_n 3, 1) := by decide +kernel
theorem d_Mo_parts_76 : decode prog_12_method_26_code 76 = .ok (.istore_n 1, 1) := by decide +kernel
theorem d_Mo_parts_77 : decode prog_12_method_26_code 77 = .ok (.iload 4, 2) := by decide +kernel
theorem d_Mo_parts_79 : decode prog_12_method_26_code 79 = .ok (.istore_n 2, 1) := by decide +kernel
theorem d_Mo_parts_80 : decode prog_12_method_26_code 80 = .ok (.iinc 4 1, 3) := by decide +kernel
theorem d_Mo_parts_83 : decode prog_12_method_26_code 83 = .ok (.goto (-45), 3) := by decide +kernel
theorem d_Mo_parts_86 : decode prog_12_method_26_code 86 = .ok (.iinc 3 1, 3) := by decide +kernel
theorem d_Mo_parts_89 : decode prog_12_method_26_code 89 = .ok (.goto (-64), 3) := by decide +kernel
theorem d_Mo_parts_92 : decode prog_12_method_26_code 92 = .ok (.aload_n 0, 1) := by decide +kernel
theorem d_Mo_parts_93 : decode prog_12_method_26_code 93 = .ok (.getfield 29, 3) := by decide +kernel
theorem d_Mo_parts_96 : decode prog_12_method_26_code 96 = .ok (.iconst 0, 1) := by decide +kernel
theorem d_Mo_parts_97 : decode prog_12_method_26_code 97 = .ok (.iload_n 1, 1) := by decide +kernel
theorem d_Mo_parts_98 : decode prog_12_method_26_code 98 = .ok (.iastore, 1) := by decide +kernel
theorem d_Mo_parts_99 : decode prog_12_method_26_code 99 = .ok (.aload_n 0, 1) := by decide +kernel
theorem d_Mo_parts_100 : decode prog_12_method_26_code 100 = .ok (.getfield 29, 3) := by decide +kernel
theorem d_Mo_parts_103 : decode prog_12_method_26_code 103 = .ok (.iconst 1, 1) := by decide +kernel
theorem d_Mo_parts_104 : decode prog_12_method_26_code 104 = .ok (.iload_n 2, 1) := by decide +kernel
theorem d_Mo_parts_105 : decode prog_12_method_26_code 105 = .ok (.iastore, 1) := by decide +kernel
theorem d_Mo_parts_106 : decode prog_12_method_26_code 106 = .ok (.aload_n 0, 1) := by decide +kernel
theorem d_Mo_parts_107 : decode prog_12_method_26_code 107 = .ok (.iload_n 1, 1) := by decide +kernel
theorem d_Mo_parts_108 : decode prog_12_method_26_code 108 = .ok (.iload_n 2, 1) := by decide +kernel
theorem d_Mo_parts_109 : decode prog_12_method_26_code 109 = .ok (.invokevirtual 113, 3) := by decide +kernel
theorem d_Mo_parts_112 : decode prog_12_method_26_code 112 = .ok (.aload_n 0, 1) := by decide +kernel
theorem d_Mo_parts_113 : decode prog_12_method_26_code 113 = .ok (.iconst 1, 1) := by decide +kernel
theorem d_Mo_parts_114 : decode prog_12_method_26_code 114 = .ok (.putfield 61, 3) := by decide +kernel
theorem d_Mo_parts_117 : decode prog_12_method_26_code 117 = .ok (.aload_n 0, 1) := by decide +kernel
theorem d_Mo_parts_118 : decode prog_12_method_26_code 118 = .ok (.getfield 35, 3) := by decide +kernel
theorem d_Mo_parts_121 : decode prog_12_method_26_code 121 = .ok (.iload_n 1, 1) := by decide +kernel
theorem d_Mo_parts_122 : decode prog_12_method_26_code 122 = .ok (.iload_n 2, 1) := by decide +kernel
theorem d_Mo_parts_123 : decode prog_12_method_26_code 123 = .ok (.iconst 0, 1) := by decide +kernel
theorem d_Mo_parts_124 : decode prog_12_method_26_code 124 = .ok (.invokestatic 72, 3) := by decide +kernel
theorem d_Mo_parts_127 : decode prog_12_method_26_code 127 = .ok (.iaload, 1) := by decide +kernel
theorem d_Mo_parts_128 : decode prog_12_method_26_code 128 = .ok (.ireturn, 1) := by decide +kernel
theorem d_Mo_steps_0 : decode prog_12_method_27_code 0 = .ok (.aload_n 0, 1) := by decide +kernel
theorem d_Mo_steps_1 : decode prog_12_method_27_code 1 = .ok (.aload_n 0, 1) := by decide +kernel
theorem d_Mo_steps_2 : decode prog_12_method_27_code 2 = .ok (.getfield 61, 3) := by decide +kernel
theorem d_Mo_steps_5 : decode prog_12_method_27_code 5 = .ok (.ifCond .eq 7, 3) := by decide +kernel
theorem d_Mo_steps_8 : decode prog_12_method_27_code 8 = .ok (.iconst 0, 1) := by decide +kernel
theorem d_Mo_steps_9 : decode prog_12_method_27_code 9 = .ok (.goto 4, 3) := by decide +kernel
theorem d_Mo_steps_12 : decode prog_12_method_27_code 12 = .ok (.iconst 1, 1) := by decide +kernel
theorem d_Mo_steps_13 : decode prog_12_method_27_code 13 = .ok (.putfield 52, 3) := by decide +kernel
theorem d_Mo_steps_16 : decode prog_12_method_27_code 16 = .ok (.aload_n 0, 1) := by decide +kernel
theorem d_Mo_steps_17 : decode prog_12_method_27_code 17 = .ok (.getfield 52, 3) := by decide +kernel
theorem d_Mo_steps_20 : decode prog_12_method_27_code 20 = .ok (.ifCond .le 7, 3) := by decide +kernel
theorem d_Mo_steps_23 : decode prog_12_method_27_code 23 = .ok (.iconst 0, 1) := by decide +kernel
theorem d_Mo_steps_24 : decode prog_12_method_27_code 24 = .ok (.goto 7, 3) := by decide +kernel
theorem d_Mo_steps_27 : decode prog_12_method_27_code 27 = .ok (.aload_n 0, 1) := by decide +kernel
theorem d_Mo_steps_28 : decode prog_12_method_27_code 28 = .ok (.getfield 98, 3) := by decide +kernel
theorem d_Mo_steps_31 : decode prog_12_method_27_code 31 = .ok (.ireturn, 1) := by decide +kernel
theorem d_Mo_step_0 : decode prog_12_method_28_code 0 = .ok (.aload_n 0, 1) := by decide +kernel
theorem d_Mo_step_1 : decode prog_12_method_28_code 1 = .ok (.aload_n 0, 1) := by decide +kernel
theorem d_Mo_step_2 : decode prog_12_method_28_code 2 = .ok (.getfield 61, 3) := by decide +kernel
theorem d_Mo_step_5 : decode prog_12_method_28_code 5 = .ok (.ifCond .ne 7, 3) := by decide +kernel
theorem d_Mo_step_8 : decode prog_12_method_28_code 8 = .ok (.iconst 1, 1) := by decide +kernel
theorem d_Mo_step_9 : decode prog_12_method_28_code 9 = .ok (.goto 20, 3) := by decide +kernel
theorem d_Mo_step_12 : decode prog_12_method_28_code 12 = .ok (.iload_n 1, 1) := by decide +kernel
theorem d_Mo_step_13 : decode prog_12_method_28_code 13 = .ok (.ifCond .lt 11, 3) := by decide +kernel
theorem d_Mo_step_16 : decode prog_12_method_28_code 16 = .ok (.iload_n 1, 1) := by decide +kernel
theorem d_Mo_step_17 : decode prog_12_method_28_code 17 = .ok (.aload_n 0, 1) := by decide +kernel
theorem d_Mo_step_18 : decode prog_12_method_28_code 18 = .ok (.getfield 98, 3) := by decide +kernel
theorem d_Mo_step_21 : decode prog_12_method_28_code 21 = .ok (.if_icmp .lt 7, 3) := by decide +kernel
theorem d_Mo_step_24 : decode prog_12_method_28_code 24 = .ok (.iconst 2, 1) := by decide +kernel
theorem d_Mo_step_25 : decode prog_12_method_28_code 25 = .ok (.goto 4, 3) := by decide +kernel
theorem d_Mo_step_28 : decode prog_12_method_28_code 28 = .ok (.iconst 0, 1) := by decide +kernel
theorem d_Mo_step_29 : decode prog_12_method_28_code 29 = .ok (.putfield 52, 3) := by decide +kernel
theorem d_Mo_step_32 : decode prog_12_method_28_code 32 = .ok (.aload_n 0, 1) := by decide +kernel
theorem d_Mo_step_33 : decode prog_12_method_28_code 33 = .ok (.getfield 52, 3) := by decide +kernel
theorem d_Mo_step_36 : decode prog_12_method_28_code 36 = .ok (.ifCond .le 7, 3) := by decide +kernel
theorem d_Mo_step_39 : decode prog_12_method_28_code 39 = .ok (.iconst 0, 1) := by decide +kernel
theorem d_Mo_step_40 : decode prog_12_method_28_code 40 = .ok (.goto 9, 3) := by decide +kernel
theorem d_Mo_step_43 : decode prog_12_method_28_code 43 = .ok (.aload_n 0, 1) := by decide +kernel
theorem d_Mo_step_44 : decode prog_12_method_28_code 44 = .ok (.getfield 26, 3) := by decide +kernel
theorem d_Mo_step_47 : decode prog_12_method_28_code 47 = .ok (.iload_n 1, 1) := by decide +kernel
theorem d_Mo_step_48 : decode prog_12_method_28_code 48 = .ok (.iaload, 1) := by decide +kernel
theorem d_Mo_step_49 : decode prog_12_method_28_code 49 = .ok (.ireturn, 1) := by decide +kernel
theorem d_Mo_place_0 : decode prog_12_method_29_code 0 = .ok (.aload_n 0, 1) := by decide +kernel
theorem d_Mo_place_1 : decode prog_12_method_29_code 1 = .ok (.iload_n 1, 1) := by decide +kernel
theorem d_Mo_place_2 : decode prog_12_method_29_code 2 = .ok (.ifCond .lt 8, 3) := by decide +kernel
theorem d_Mo_place_5 : decode prog_12_method_29_code 5 = .ok (.iload_n 1, 1) := by decide +kernel
theorem d_Mo_place_6 : decode prog_12_method_29_code 6 = .ok (.iconst 1, 1) := by decide +kernel
theorem d_Mo_place_7 : decode prog_12_method_29_code 7 = .ok (.if_icmp .le 7, 3) := by decide +kernel
theorem d_Mo_place_10 : decode prog_12_method_29_code 10 = .ok (.iconst 1, 1) := by decide +kernel
theorem d_Mo_place_11 : decode prog_12_method_29_code 11 = .ok (.goto 15, 3) := by decide +kernel
theorem d_Mo_place_14 : decode prog_12_method_29_code 14 = .ok (.aload_n 0, 1) := by decide +kernel
theorem d_Mo_place_15 : decode prog_12_method_29_code 15 = .ok (.getfield 61, 3) := by decide +kernel
theorem d_Mo_place_18 : decode prog_12_method_29_code 18 = .ok (.ifCond .ne 7, 3) := by decide +kernel
theorem d_Mo_place_21 : decode prog_12_method_29_code 21 = .ok (.iconst 2, 1) := by decide +kernel
theorem d_Mo_place_22 : decode prog_12_method_29_code 22 = .ok (.goto 4, 3) := by decide +kernel
theorem d_Mo_place_25 : decode prog_12_method_29_code 25 = .ok (.iconst 0, 1) := by decide +kernel
theorem d_Mo_place_26 : decode prog_12_method_29_code 26 = .ok (.putfield 52, 3) := by decide +kernel
theorem d_Mo_place_29 : decode prog_12_method_29_code 29 = .ok (.aload_n 0, 1) := by decide +kernel
theorem d_Mo_place_30 : decode prog_12_method_29_code 30 = .ok (.getfield 52, 3) := by decide +kernel
theorem d_Mo_place_33 : decode prog_12_method_29_code 33 = .ok (.ifCond .le 7, 3) := by decide +kernel
theorem d_Mo_place_36 : decode prog_12_method_29_code 36 = .ok (.iconst 0, 1) := by decide +kernel
theorem d_Mo_place_37 : decode prog_12_method_29_code 37 = .ok (.goto 22, 3) := by decide +kernel
theorem d_Mo_place_40 : decode prog_12_method_29_code 40 = .ok (.iload_n 2, 1) := by decide +kernel
theorem d_Mo_place_41 : decode prog_12_method_29_code 41 = .ok (.ifCond .eq 12, 3) := by decide +kernel
theorem d_Mo_place_44 : decode prog_12_method_29_code 44 = .ok (.aload_n 0, 1) := by decide +kernel
theorem d_Mo_place_45 : decode prog_12_method_29_code 45 = .ok (.getfield 32, 3) := by decide +kernel
theorem d_Mo_place_48 : decode prog_12_method_29_code 48 = .ok (.iload_n 1, 1) := by decide +kernel
theorem d_Mo_place_49 : decode prog_12_method_29_code 49 = .ok (.iaload, 1) := by decide +kernel
theorem d_Mo_place_50 : decode prog_12_method_29_code 50 = .ok (.goto 9, 3) := by decide +kernel
theorem d_Mo_place_53 : decode prog_12_method_29_code 53 = .ok (.aload_n 0, 1) := by decide +kernel
theorem d_Mo_place_54 : decode prog_12_method_29_code 54 = .ok (.getfield 29, 3) := by decide +kernel
theorem d_Mo_place_57 : decode prog_12_method_29_code 57 = .ok (.iload_n 1, 1) := by decide +kernel
theorem d_Mo_place_58 : decode prog_12_method_29_code 58 = .ok (.iaload, 1) := by decide +kernel
theorem d_Mo_place_59 : decode prog_12_method_29_code 59 = .ok (.ireturn, 1) := by decide +kernel
theorem d_Mo_count_0 : decode prog_12_method_34_code 0 = .ok (.aload_n 0, 1) := by decide +kernel
theorem d_Mo_count_1 : decode prog_12_method_34_code 1 = .ok (.iload_n 1, 1) := by decide +kernel
theorem d_Mo_count_2 : decode prog_12_method_34_code 2 = .ok (.iconst 0, 1) := by decide +kernel
theorem d_Mo_count_3 : decode prog_12_method_34_code 3 = .ok (.iconst 3, 1) := by decide +kernel
theorem d_Mo_count_4 : decode prog_12_method_34_code 4 = .ok (.invokestatic 65, 3) := by decide +kernel
theorem d_Mo_count_7 : decode prog_12_method_34_code 7 = .ok (.ifCond .ne 7, 3) := by decide +kernel
theorem d_Mo_count_10 : decode prog_12_method_34_code 10 = .ok (.iconst 1, 1) := by decide +kernel
theorem d_Mo_count_11 : decode prog_12_method_34_code 11 = .ok (.goto 15, 3) := by decide +kernel
theorem d_Mo_count_14 : decode prog_12_method_34_code 14 = .ok (.aload_n 0, 1) := by decide +kernel
theorem d_Mo_count_15 : decode prog_12_method_34_code 15 = .ok (.getfield 61, 3) := by decide +kernel
theorem d_Mo_count_18 : decode prog_12_method_34_code 18 = .ok (.ifCond .eq 7, 3) := by decide +kernel
theorem d_Mo_count_21 : decode prog_12_method_34_code 21 = .ok (.iconst 0, 1) := by decide +kernel
theorem d_Mo_count_22 : decode prog_12_method_34_code 22 = .ok (.goto 4, 3) := by decide +kernel
theorem d_Mo_count_25 : decode prog_12_method_34_code 25 = .ok (.iconst 2, 1) := by decide +kernel
theorem d_Mo_count_26 : decode prog_12_method_34_code 26 = .ok (.putfield 52, 3) := by decide +kernel
theorem d_Mo_count_29 : decode prog_12_method_34_code 29 = .ok (.aload_n 0, 1) := by decide +kernel
theorem d_Mo_count_30 : decode prog_12_method_34_code 30 = .ok (.getfield 52, 3) := by decide +kernel
theorem d_Mo_count_33 : decode prog_12_method_34_code 33 = .ok (.ifCond .le 7, 3) := by decide +kernel
theorem d_Mo_count_36 : decode prog_12_method_34_code 36 = .ok (.iconst 0, 1) := by decide +kernel
theorem d_Mo_count_37 : decode prog_12_method_34_code 37 = .ok (.goto 42, 3) := by decide +kernel
theorem d_Mo_count_40 : decode prog_12_method_34_code 40 = .ok (.iload_n 1, 1) := by decide +kernel
theorem d_Mo_count_41 : decode prog_12_method_34_code 41 = .ok (.ifCond .ne 10, 3) := by decide +kernel
theorem d_Mo_count_44 : decode prog_12_method_34_code 44 = .ok (.aload_n 0, 1) := by decide +kernel
theorem d_Mo_count_45 : decode prog_12_method_34_code 45 = .ok (.invokevirtual 116, 3) := by decide +kernel
theorem d_Mo_count_48 : decode prog_12_method_34_code 48 = .ok (.goto 31, 3) := by decide +kernel
theorem d_Mo_count_51 : decode prog_12_method_34_code 51 = .ok (.iload_n 1, 1) := by decide +kernel
theorem d_Mo_count_52 : decode prog_12_method_34_code 52 = .ok (.iconst 1, 1) := by decide +kernel
theorem d_Mo_count_53 : decode prog_12_method_34_code 53 = .ok (.if_icmp .ne 10, 3) := by decide +kernel
theorem d_Mo_count_56 : decode prog_12_method_34_code 56 = .ok (.aload_n 0, 1) := by decide +kernel
theorem d_Mo_count_57 : decode prog_12_method_34_code 57 = .ok (.invokevirtual 120, 3) := by decide +kernel
theorem d_Mo_count_60 : decode prog_12_method_34_code 60 = .ok (.goto 19, 3) := by decide +kernel
theorem d_Mo_count_63 : decode prog_12_method_34_code 63 = .ok (.iload_n 1, 1) := by decide +kernel
theorem d_Mo_count_64 : decode prog_12_method_34_code 64 = .ok (.iconst 2, 1) := by decide +kernel
theorem d_Mo_count_65 : decode prog_12_method_34_code 65 = .ok (.if_icmp .ne 10, 3) := by decide +kernel
theorem d_Mo_count_68 : decode prog_12_method_34_code 68 = .ok (.aload_n 0, 1) := by decide +kernel
theorem d_Mo_count_69 : decode prog_12_method_34_code 69 = .ok (.invokevirtual 123, 3) := by decide +kernel
theorem d_Mo_count_72 : decode prog_12_method_34_code 72 = .ok (.goto 7, 3) := by decide +kernel
theorem d_Mo_count_75 : decode prog_12_method_34_code 75 = .ok (.aload_n 0, 1) := by decide +kernel
theorem d_Mo_count_76 : decode prog_12_method_34_code 76 = .ok (.invokevirtual 126, 3) := by decide +kernel
theorem d_Mo_count_79 : decode prog_12_method_34_code 79 = .ok (.ireturn, 1) := by decide +kernel
theorem d_Mo_runsNow_0 : decode prog_12_method_30_code 0 = .ok (.iconst 0, 1) := by decide +kernel
theorem d_Mo_runsNow_1 : decode prog_12_method_30_code 1 = .ok (.istore_n 1, 1) := by decide +kernel
theorem d_Mo_runsNow_2 : decode prog_12_method_30_code 2 = .ok (.iconst 0, 1) := by decide +kernel
theorem d_Mo_runsNow_3 : decode prog_12_method_30_code 3 = .ok (.istore_n 2, 1) := by decide +kernel
theorem d_Mo_runsNow_4 : decode prog_12_method_30_code 4 = .ok (.iload_n 2, 1) := by decide +kernel
theorem d_Mo_runsNow_5 : decode prog_12_method_30_code 5 = .ok (.aload_n 0, 1) := by decide +kernel
theorem d_Mo_runsNow_6 : decode prog_12_method_30_code 6 = .ok (.getfield 98, 3) := by decide +kernel
theorem d_Mo_runsNow_9 : decode prog_12_method_30_code 9 = .ok (.if_icmp .ge 38, 3) := by decide +kernel
theorem d_Mo_runsNow_12 : decode prog_12_method_30_code 12 = .ok (.iload_n 2, 1) := by decide +kernel
theorem d_Mo_runsNow_13 : decode prog_12_method_30_code 13 = .ok (.ifCond .eq 20, 3) := by decide +kernel
theorem d_Mo_runsNow_16 : decode prog_12_method_30_code 16 = .ok (.aload_n 0, 1) := by decide +kernel
theorem d_Mo_runsNow_17 : decode prog_12_method_30_code 17 = .ok (.getfield 26, 3) := by decide +kernel
theorem d_Mo_runsNow_20 : decode prog_12_method_30_code 20 = .ok (.iload_n 2, 1) := by decide +kernel
theorem d_Mo_runsNow_21 : decode prog_12_method_30_code 21 = .ok (.iaload, 1) := by decide +kernel
theorem d_Mo_runsNow_22 : decode prog_12_method_30_code 22 = .ok (.aload_n 0, 1) := by decide +kernel
theorem d_Mo_runsNow_23 : decode prog_12_method_30_code 23 = .ok (.getfield 26, 3) := by decide +kernel
theorem d_Mo_runsNow_26 : decode prog_12_method_30_code 26 = .ok (.iload_n 2, 1) := by decide +kernel
theorem d_Mo_runsNow_27 : decode prog_12_method_30_code 27 = .ok (.iconst 1, 1) := by decide +kernel
theorem d_Mo_runsNow_28 : decode prog_12_method_30_code 28 = .ok (.isub, 1) := by decide +kernel
theorem d_Mo_runsNow_29 : decode prog_12_method_30_code 29 = .ok (.iaload, 1) := by decide +kernel
theorem d_Mo_runsNow_30 : decode prog_12_method_30_code 30 = .ok (.if_icmp .eq 9, 3) := by decide +kernel
theorem d_Mo_runsNow_33 : decode prog_12_method_30_code 33 = .ok (.iload_n 1, 1) := by decide +kernel
theorem d_Mo_runsNow_34 : decode prog_12_method_30_code 34 = .ok (.iconst 1, 1) := by decide +kernel
theorem d_Mo_runsNow_35 : decode prog_12_method_30_code 35 = .ok (.iadd, 1) := by decide +kernel
theorem d_Mo_runsNow_36 : decode prog_12_method_30_code 36 = .ok (.goto 4, 3) := by decide +kernel
theorem d_Mo_runsNow_39 : decode prog_12_method_30_code 39 = .ok (.iload_n 1, 1) := by decide +kernel
theorem d_Mo_runsNow_40 : decode prog_12_method_30_code 40 = .ok (.istore_n 1, 1) := by decide +kernel
theorem d_Mo_runsNow_41 : decode prog_12_method_30_code 41 = .ok (.iinc 2 1, 3) := by decide +kernel
theorem d_Mo_runsNow_44 : decode prog_12_method_30_code 44 = .ok (.goto (-40), 3) := by decide +kernel
theorem d_Mo_runsNow_47 : decode prog_12_method_30_code 47 = .ok (.iload_n 1, 1) := by decide +kernel
theorem d_Mo_runsNow_48 : decode prog_12_method_30_code 48 = .ok (.ireturn, 1) := by decide +kernel
theorem d_Mo_samePairs_0 : decode prog_12_method_31_code 0 = .ok (.aload_n 0, 1) := by decide +kernel
theorem d_Mo_samePairs_1 : decode prog_12_method_31_code 1 = .ok (.getfield 29, 3) := by decide +kernel
theorem d_Mo_samePairs_4 : decode prog_12_method_31_code 4 = .ok (.iconst 0, 1) := by decide +kernel
theorem d_Mo_samePairs_5 : decode prog_12_method_31_code 5 = .ok (.iaload, 1) := by decide +kernel
theorem d_Mo_samePairs_6 : decode prog_12_method_31_code 6 = .ok (.istore_n 1, 1) := by decide +kernel
theorem d_Mo_samePairs_7 : decode prog_12_method_31_code 7 = .ok (.aload_n 0, 1) := by decide +kernel
theorem d_Mo_samePairs_8 : decode prog_12_method_31_code 8 = .ok (.getfield 29, 3) := by decide +kernel
theorem d_Mo_samePairs_11 : decode prog_12_method_31_code 11 = .ok (.iconst 1, 1) := by decide +kernel
theorem d_Mo_samePairs_12 : decode prog_12_method_31_code 12 = .ok (.iaload, 1) := by decide +kernel
theorem d_Mo_samePairs_13 : decode prog_12_method_31_code 13 = .ok (.istore_n 2, 1) := by decide +kernel
theorem d_Mo_samePairs_14 : decode prog_12_method_31_code 14 = .ok (.iconst 0, 1) := by decide +kernel
theorem d_Mo_samePairs_15 : decode prog_12_method_31_code 15 = .ok (.istore_n 3, 1) := by decide +kernel
theorem d_Mo_samePairs_16 : decode prog_12_method_31_code 16 = .ok (.iconst 0, 1) := by decide +kernel
theorem d_Mo_samePairs_17 : decode prog_12_method_31_code 17 = .ok (.istore 4, 2) := by decide +kernel
theorem d_Mo_samePairs_19 : decode prog_12_method_31_code 19 = .ok (.iload 4, 2) := by decide +kernel
theorem d_Mo_samePairs_21 : decode prog_12_method_31_code 21 = .ok (.aload_n 0, 1) := by decide +kernel
theorem d_Mo_samePairs_22 : decode prog_12_method_31_code 22 = .ok (.getfield 98, 3) := by decide +kernel
theorem d_Mo_samePairs_25 : decode prog_12_method_31_code 25 = .ok (.if_icmp .ge 95, 3) := by decide +kernel
theorem d_Mo_samePairs_28 : decode prog_12_method_31_code 28 = .ok (.aload_n 0, 1) := by decide +kernel
theorem d_Mo_samePairs_29 : decode prog_12_method_31_code 29 = .ok (.getfield 26, 3) := by decide +kernel
theorem d_Mo_samePairs_32 : decode prog_12_method_31_code 32 = .ok (.iload 4, 2) := by decide +kernel
theorem d_Mo_samePairs_34 : decode prog_12_method_31_code 34 = .ok (.iaload, 1) := by decide +kernel
theorem d_Mo_samePairs_35 : decode prog_12_method_31_code 35 = .ok (.ifCond .ne 7, 3) := by decide +kernel
theorem d_Mo_samePairs_38 : decode prog_12_method_31_code 38 = .ok (.iconst 1, 1) := by decide +kernel
theorem d_Mo_samePairs_39 : decode prog_12_method_31_code 39 = .ok (.goto 4, 3) := by decide +kernel
theorem d_Mo_samePairs_42 : decode prog_12_method_31_code 42 = .ok (.iconst 0, 1) := by decide +kernel
theorem d_Mo_samePairs_43 : decode prog_12_method_31_code 43 = .ok (.istore 5, 2) := by decide +kernel
theorem d_Mo_samePairs_45 : decode prog_12_method_31_code 45 = .ok (.iload 5, 2) := by decide +kernel
theorem d_Mo_samePairs_47 : decode prog_12_method_31_code 47 = .ok (.ifCond .eq 27, 3) := by decide +kernel
theorem d_Mo_samePairs_50 : decode prog_12_method_31_code 50 = .ok (.aload_n 0, 1) := by decide +kernel
theorem d_Mo_samePairs_51 : decode prog_12_method_31_code 51 = .ok (.getfield 7, 3) := by decide +kernel
theorem d_Mo_samePairs_54 : decode prog_12_method_31_code 54 = .ok (.iload_n 1, 1) := by decide +kernel
theorem d_Mo_samePairs_55 : decode prog_12_method_31_code 55 = .ok (.iaload, 1) := by decide +kernel
theorem d_Mo_samePairs_56 : decode prog_12_method_31_code 56 = .ok (.aload_n 0, 1) := by decide +kernel
theorem d_Mo_samePairs_57 : decode prog_12_method_31_code 57 = .ok (.getfield 7, 3) := by decide +kernel
theorem d_Mo_samePairs_60 : decode prog_12_method_31_code 60 = .ok (.bipush 96, 2) := by decide +kernel
theorem d_Mo_samePairs_62 : decode prog_12_method_31_code 62 = .ok (.iload_n 2, 1) := by decide +kernel
theorem d_Mo_samePairs_63 : decode prog_12_method_31_code 63 = .ok (.iadd, 1) := by decide +kernel
theorem d_Mo_samePairs_64 : decode prog_12_method_31_code 64 = .ok (.iaload, 1) := by decide +kernel
theorem d_Mo_samePairs_65 : decode prog_12_method_31_code 65 = .ok (.if_icmp .ne 9, 3) := by decide +kernel
theorem d_Mo_samePairs_68 : decode prog_12_method_31_code 68 = .ok (.iload_n 3, 1) := by decide +kernel
theorem d_Mo_samePairs_69 : decode prog_12_method_31_code 69 = .ok (.iconst 1, 1) := by decide +kernel
theorem d_Mo_samePairs_70 : decode prog_12_method_31_code 70 = .ok (.iadd, 1) := by decide +kernel
theorem d_Mo_samePairs_71 : decode prog_12_method_31_code 71 = .ok (.goto 4, 3) := by decide +kernel
theorem d_Mo_samePairs_74 : decode prog_12_method_31_code 74 = .ok (.iload_n 3, 1) := by decide +kernel
theorem d_Mo_samePairs_75 : decode prog_12_method_31_code 75 = .ok (.istore_n 3, 1) := by decide +kernel
theorem d_Mo_samePairs_76 : decode prog_12_method_31_code 76 = .ok (.aload_n 0, 1) := by decide +kernel
theorem d_Mo_samePairs_77 : decode prog_12_method_31_code 77 = .ok (.getfield 26, 3) := by decide +kernel
theorem d_Mo_samePairs_80 : decode prog_12_method_31_code 80 = .ok (.iload 4, 2) := by decide +kernel
theorem d_Mo_samePairs_82 : decode prog_12_method_31_code 82 = .ok (.iaload, 1) := by decide +kernel
theorem d_Mo_samePairs_83 : decode prog_12_method_31_code 83 = .ok (.iconst 2, 1) := by decide +kernel
theorem d_Mo_samePairs_84 : decode prog_12_method_31_code 84 = .ok (.if_icmp .ne 7, 3) := by decide +kernel
theorem d_Mo_samePairs_87 : decode prog_12_method_31_code 87 = .ok (.iload_n 1, 1) := by decide +kernel
theorem d_Mo_samePairs_88 : decode prog_12_method_31_code 88 = .ok (.goto 6, 3) := by decide +kernel
theorem d_Mo_samePairs_91 : decode prog_12_method_31_code 91 = .ok (.iload_n 1, 1) := by decide +kernel
theorem d_Mo_samePairs_92 : decode prog_12_method_31_code 92 = .ok (.iconst 1, 1) := by decide +kernel
theorem d_Mo_samePairs_93 : decode prog_12_method_31_code 93 = .ok (.iadd, 1) := by decide +kernel
theorem d_Mo_samePairs_94 : decode prog_12_method_31_code 94 = .ok (.istore_n 1, 1) := by decide +kernel
theorem d_Mo_samePairs_95 : decode prog_12_method_31_code 95 = .ok (.aload_n 0, 1) := by decide +kernel
theorem d_Mo_samePairs_96 : decode prog_12_method_31_code 96 = .ok (.getfield 26, 3) := by decide +kernel
theorem d_Mo_samePairs_99 : decode prog_12_method_31_code 99 = .ok (.iload 4, 2) := by decide +kernel
theorem d_Mo_samePairs_101 : decode prog_12_method_31_code 101 = .ok (.iaload, 1) := by decide +kernel
theorem d_Mo_samePairs_102 : decode prog_12_method_31_code 102 = .ok (.iconst 1, 1) := by decide +kernel
theorem d_Mo_samePairs_103 : decode prog_12_method_31_code 103 = .ok (.if_icmp .ne 7, 3) := by decide +kernel
theorem d_Mo_samePairs_106 : decode prog_12_method_31_code 106 = .ok (.iload_n 2, 1) := by decide +kernel
theorem d_Mo_samePairs_107 : decode prog_12_method_31_code 107 = .ok (.goto 6, 3) := by decide +kernel
theorem d_Mo_samePairs_110 : decode prog_12_method_31_code 110 = .ok (.iload_n 2, 1) := by decide +kernel
theorem d_Mo_samePairs_111 : decode prog_12_method_31_code 111 = .ok (.iconst 1, 1) := by decide +kernel
theorem d_Mo_samePairs_112 : decode prog_12_method_31_code 112 = .ok (.iadd, 1) := by decide +kernel
theorem d_Mo_samePairs_113 : decode prog_12_method_31_code 113 = .ok (.istore_n 2, 1) := by decide +kernel
theorem d_Mo_samePairs_114 : decode prog_12_method_31_code 114 = .ok (.iinc 4 1, 3) := by decide +kernel
theorem d_Mo_samePairs_117 : decode prog_12_method_31_code 117 = .ok (.goto (-98), 3) := by decide +kernel
theorem d_Mo_samePairs_120 : decode prog_12_method_31_code 120 = .ok (.iload_n 3, 1) := by decide +kernel
theorem d_Mo_samePairs_121 : decode prog_12_method_31_code 121 = .ok (.ireturn, 1) := by decide +kernel
theorem d_Mo_gapsNow_0 : decode prog_12_method_32_code 0 = .ok (.iconst 0, 1) := by decide +kernel
theorem d_Mo_gapsNow_1 : decode prog_12_method_32_code 1 = .ok (.istore_n 1, 1) := by decide +kernel
theorem d_Mo_gapsNow_2 : decode prog_12_method_32_code 2 = .ok (.iconst 0, 1) := by decide +kernel
theorem d_Mo_gapsNow_3 : decode prog_12_method_32_code 3 = .ok (.istore_n 2, 1) := by decide +kernel
theorem d_Mo_gapsNow_4 : decode prog_12_method_32_code 4 = .ok (.iload_n 2, 1) := by decide +kernel
theorem d_Mo_gapsNow_5 : decode prog_12_method_32_code 5 = .ok (.aload_n 0, 1) := by decide +kernel
theorem d_Mo_gapsNow_6 : decode prog_12_method_32_code 6 = .ok (.getfield 98, 3) := by decide +kernel
theorem d_Mo_gapsNow_9 : decode prog_12_method_32_code 9 = .ok (.if_icmp .ge 47, 3) := by decide +kernel
theorem d_Mo_gapsNow_12 : decode prog_12_method_32_code 12 = .ok (.aload_n 0, 1) := by decide +kernel
theorem d_Mo_gapsNow_13 : decode prog_12_method_32_code 13 = .ok (.getfield 26, 3) := by decide +kernel
theorem d_Mo_gapsNow_16 : decode prog_12_method_32_code 16 = .ok (.iload_n 2, 1) := by decide +kernel
theorem d_Mo_gapsNow_17 : decode prog_12_method_32_code 17 = .ok (.iaload, 1) := by decide +kernel
theorem d_Mo_gapsNow_18 : decode prog_12_method_32_code 18 = .ok (.ifCond .eq 30, 3) := by decide +kernel
theorem d_Mo_gapsNow_21 : decode prog_12_method_32_code 21 = .ok (.iload_n 2, 1) := by decide +kernel
theorem d_Mo_gapsNow_22 : decode prog_12_method_32_code 22 = .ok (.ifCond .eq 20, 3) := by decide +kernel
theorem d_Mo_gapsNow_25 : decode prog_12_method_32_code 25 = .ok (.aload_n 0, 1) := by decide +kernel
theorem d_Mo_gapsNow_26 : decode prog_12_method_32_code 26 = .ok (.getfield 26, 3) := by decide +kernel
theorem d_Mo_gapsNow_29 : decode prog_12_method_32_code 29 = .ok (.iload_n 2, 1) := by decide +kernel
theorem d_Mo_gapsNow_30 : decode prog_12_method_32_code 30 = .ok (.iaload, 1) := by decide +kernel
theorem d_Mo_gapsNow_31 : decode prog_12_method_32_code 31 = .ok (.aload_n 0, 1) := by decide +kernel
theorem d_Mo_gapsNow_32 : decode prog_12_method_32_code 32 = .ok (.getfield 26, 3) := by decide +kernel
theorem d_Mo_gapsNow_35 : decode prog_12_method_32_code 35 = .ok (.iload_n 2, 1) := by decide +kernel
theorem d_Mo_gapsNow_36 : decode prog_12_method_32_code 36 = .ok (.iconst 1, 1) := by decide +kernel
theorem d_Mo_gapsNow_37 : decode prog_12_method_32_code 37 = .ok (.isub, 1) := by decide +kernel
theorem d_Mo_gapsNow_38 : decode prog_12_method_32_code 38 = .ok (.iaload, 1) := by decide +kernel
theorem d_Mo_gapsNow_39 : decode prog_12_method_32_code 39 = .ok (.if_icmp .eq 9, 3) := by decide +kernel
theorem d_Mo_gapsNow_42 : decode prog_12_method_32_code 42 = .ok (.iload_n 1, 1) := by decide +kernel
theorem d_Mo_gapsNow_43 : decode prog_12_method_32_code 43 = .ok (.iconst 1, 1) := by decide +kernel
theorem d_Mo_gapsNow_44 : decode prog_12_method_32_code 44 = .ok (.iadd, 1) := by decide +kernel
theorem d_Mo_gapsNow_45 : decode prog_12_method_32_code 45 = .ok (.goto 4, 3) := by decide +kernel
theorem d_Mo_gapsNow_48 : decode prog_12_method_32_code 48 = .ok (.iload_n 1, 1) := by decide +kernel
theorem d_Mo_gapsNow_49 : decode prog_12_method_32_code 49 = .ok (.istore_n 1, 1) := by decide +kernel
theorem d_Mo_gapsNow_50 : decode prog_12_method_32_code 50 = .ok (.iinc 2 1, 3) := by decide +kernel
theorem d_Mo_gapsNow_53 : decode prog_12_method_32_code 53 = .ok (.goto (-49), 3) := by decide +kernel
theorem d_Mo_gapsNow_56 : decode prog_12_method_32_code 56 = .ok (.iload_n 1, 1) := by decide +kernel
theorem d_Mo_gapsNow_57 : decode prog_12_method_32_code 57 = .ok (.ireturn, 1) := by decide +kernel
theorem d_Mo_lettersInGaps_0 : decode prog_12_method_33_code 0 = .ok (.iconst 0, 1) := by decide +kernel
theorem d_Mo_lettersInGaps_1 : decode prog_12_method_33_code 1 = .ok (.istore_n 1, 1) := by decide +kernel
theorem d_Mo_lettersInGaps_2 : decode prog_12_method_33_code 2 = .ok (.iconst 0, 1) := by decide +kernel
theorem d_Mo_lettersInGaps_3 : decode prog_12_method_33_code 3 = .ok (.istore_n 2, 1) := by decide +kernel
theorem d_Mo_lettersInGaps_4 : decode prog_12_method_33_code 4 = .ok (.iload_n 2, 1) := by decide +kernel
theorem d_Mo_lettersInGaps_5 : decode prog_12_method_33_code 5 = .ok (.aload_n 0, 1) := by decide +kernel
theorem d_Mo_lettersInGaps_6 : decode prog_12_method_33_code 6 = .ok (.getfield 98, 3) := by decide +kernel
theorem d_Mo_lettersInGaps_9 : decode prog_12_method_33_code 9 = .ok (.if_icmp .ge 26, 3) := by decide +kernel
theorem d_Mo_lettersInGaps_12 : decode prog_12_method_33_code 12 = .ok (.aload_n 0, 1) := by decide +kernel
theorem d_Mo_lettersInGaps_13 : decode prog_12_method_33_code 13 = .ok (.getfield 26, 3) := by decide +kernel
theorem d_Mo_lettersInGaps_16 : decode prog_12_method_33_code 16 = .ok (.iload_n 2, 1) := by decide +kernel
theorem d_Mo_lettersInGaps_17 : decode prog_12_method_33_code 17 = .ok (.iaload, 1) := by decide +kernel
theorem d_Mo_lettersInGaps_18 : decode prog_12_method_33_code 18 = .ok (.ifCond .eq 9, 3) := by decide +kernel
theorem d_Mo_lettersInGaps_21 : decode prog_12_method_33_code 21 = .ok (.iload_n 1, 1) := by decide +kernel
theorem d_Mo_lettersInGaps_22 : decode prog_12_method_33_code 22 = .ok (.iconst 1, 1) := by decide +kernel
theorem d_Mo_lettersInGaps_23 : decode prog_12_method_33_code 23 = .ok (.iadd, 1) := by decide +kernel
theorem d_Mo_lettersInGaps_24 : decode prog_12_method_33_code 24 = .ok (.goto 4, 3) := by decide +kernel
theorem d_Mo_lettersInGaps_27 : decode prog_12_method_33_code 27 = .ok (.iload_n 1, 1) := by decide +kernel
theorem d_Mo_lettersInGaps_28 : decode prog_12_method_33_code 28 = .ok (.istore_n 1, 1) := by decide +kernel
theorem d_Mo_lettersInGaps_29 : decode prog_12_method_33_code 29 = .ok (.iinc 2 1, 3) := by decide +kernel
theorem d_Mo_lettersInGaps_32 : decode prog_12_method_33_code 32 = .ok (.goto (-28), 3) := by decide +kernel
theorem d_Mo_lettersInGaps_35 : decode prog_12_method_33_code 35 = .ok (.iload_n 1, 1) := by decide +kernel
theorem d_Mo_lettersInGaps_36 : decode prog_12_method_33_code 36 = .ok (.ireturn, 1) := by decide +kernel
theorem d_Mo_run_0 : decode prog_12_method_35_code 0 = .ok (.aload_n 0, 1) := by decide +kernel
theorem d_Mo_run_1 : decode prog_12_method_35_code 1 = .ok (.iload_n 2, 1) := by decide +kernel
theorem d_Mo_run_2 : decode prog_12_method_35_code 2 = .ok (.iconst 0, 1) := by decide +kernel
theorem d_Mo_run_3 : decode prog_12_method_35_code 3 = .ok (.iconst 1, 1) := by decide +kernel
theorem d_Mo_run_4 : decode prog_12_method_35_code 4 = .ok (.invokestatic 65, 3) := by decide +kernel
theorem d_Mo_run_7 : decode prog_12_method_35_code 7 = .ok (.ifCond .ne 7, 3) := by decide +kernel
theorem d_Mo_run_10 : decode prog_12_method_35_code 10 = .ok (.iconst 1, 1) := by decide +kernel
theorem d_Mo_run_11 : decode prog_12_method_35_code 11 = .ok (.goto 31, 3) := by decide +kernel
theorem d_Mo_run_14 : decode prog_12_method_35_code 14 = .ok (.aload_n 0, 1) := by decide +kernel
theorem d_Mo_run_15 : decode prog_12_method_35_code 15 = .ok (.getfield 61, 3) := by decide +kernel
theorem d_Mo_run_18 : decode prog_12_method_35_code 18 = .ok (.ifCond .ne 7, 3) := by decide +kernel
theorem d_Mo_run_21 : decode prog_12_method_35_code 21 = .ok (.iconst 2, 1) := by decide +kernel
theorem d_Mo_run_22 : decode prog_12_method_35_code 22 = .ok (.goto 20, 3) := by decide +kernel
theorem d_Mo_run_25 : decode prog_12_method_35_code 25 = .ok (.iload_n 1, 1) := by decide +kernel
theorem d_Mo_run_26 : decode prog_12_method_35_code 26 = .ok (.ifCond .lt 11, 3) := by decide +kernel
theorem d_Mo_run_29 : decode prog_12_method_35_code 29 = .ok (.iload_n 1, 1) := by decide +kernel
theorem d_Mo_run_30 : decode prog_12_method_35_code 30 = .ok (.aload_n 0, 1) := by decide +kernel
theorem d_Mo_run_31 : decode prog_12_method_35_code 31 = .ok (.invokevirtual 116, 3) := by decide +kernel
theorem d_Mo_run_34 : decode prog_12_method_35_code 34 = .ok (.if_icmp .lt 7, 3) := by decide +kernel
theorem d_Mo_run_37 : decode prog_12_method_35_code 37 = .ok (.iconst 3, 1) := by decide +kernel
theorem d_Mo_run_38 : decode prog_12_method_35_code 38 = .ok (.goto 4, 3) := by decide +kernel
theorem d_Mo_run_41 : decode prog_12_method_35_code 41 = .ok (.iconst 0, 1) := by decide +kernel
theorem d_Mo_run_42 : decode prog_12_method_35_code 42 = .ok (.putfield 52, 3) := by decide +kernel
theorem d_Mo_run_45 : decode prog_12_method_35_code 45 = .ok (.aload_n 0, 1) := by decide +kernel
theorem d_Mo_run_46 : decode prog_12_method_35_code 46 = .ok (.getfield 52, 3) := by decide +kernel
theorem d_Mo_run_49 : decode prog_12_method_35_code 49 = .ok (.ifCond .le 5, 3) := by decide +kernel
theorem d_Mo_run_52 : decode prog_12_method_35_code 52 = .ok (.iconst 0, 1) := by decide +kernel
theorem d_Mo_run_53 : decode prog_12_method_35_code 53 = .ok (.ireturn, 1) := by decide +kernel
theorem d_Mo_run_54 : decode prog_12_method_35_code 54 = .ok (.iconst (-1), 1) := by decide +kernel
theorem d_Mo_run_55 : decode prog_12_method_35_code 55 = .ok (.istore_n 3, 1) := by decide +kernel
theorem d_Mo_run_56 : decode prog_12_method_35_code 56 = .ok (.iconst 0, 1) := by decide +kernel
theorem d_Mo_run_57 : decode prog_12_method_35_code 57 = .ok (.istore 4, 2) := by decide +kernel
theorem d_Mo_run_59 : decode prog_12_method_35_code 59 = .ok (.iconst 0, 1) := by decide +kernel
theorem d_Mo_run_60 : decode prog_12_method_35_code 60 = .ok (.istore 5, 2) := by decide +kernel
theorem d_Mo_run_62 : decode prog_12_method_35_code 62 = .ok (.iconst 0, 1) := by decide +kernel
theorem d_Mo_run_63 : decode prog_12_method_35_code 63 = .ok (.istore 6, 2) := by decide +kernel
theorem d_Mo_run_65 : decode prog_12_method_35_code 65 = .ok (.iload 6, 2) := by decide +kernel
theorem d_Mo_run_67 : decode prog_12_method_35_code 67 = .ok (.aload_n 0, 1) := by decide +kernel
theorem d_Mo_run_68 : decode prog_12_method_35_code 68 = .ok (.getfield 98, 3) := by decide +kernel
theorem d_Mo_run_71 : decode prog_12_method_35_code 71 = .ok (.if_icmp .ge 76, 3) := by decide +kernel
theorem d_Mo_run_74 : decode prog_12_method_35_code 74 = .ok (.iload 6, 2) := by decide +kernel
theorem d_Mo_run_76 : decode prog_12_method_35_code 76 = .ok (.ifCond .eq 22, 3) := by decide +kernel
theorem d_Mo_run_79 : decode prog_12_method_35_code 79 = .ok (.aload_n 0, 1) := by decide +kernel
theorem d_Mo_run_80 : decode prog_12_method_35_code 80 = .ok (.getfield 26, 3) := by decide +kernel
theorem d_Mo_run_83 : decode prog_12_method_35_code 83 = .ok (.iload 6, 2) := by decide +kernel
theorem d_Mo_run_85 : decode prog_12_method_35_code 85 = .ok (.iaload, 1) := by decide +kernel
theorem d_Mo_run_86 : decode prog_12_method_35_code 86 = .ok (.aload_n 0, 1) := by decide +kernel
theorem d_Mo_run_87 : decode prog_12_method_35_code 87 = .ok (.getfield 26, 3) := by decide +kernel
theorem d_Mo_run_90 : decode prog_12_method_35_code 90 = .ok (.iload 6, 2) := by decide +kernel
theorem d_Mo_run_92 : decode prog_12_method_35_code 92 = .ok (.iconst 1, 1) := by decide +kernel
theorem d_Mo_run_93 : decode prog_12_method_35_code 93 = .ok (.isub, 1) := by decide +kernel
theorem d_Mo_run_94 : decode prog_12_method_35_code 94 = .ok (.iaload, 1) := by decide +kernel
theorem d_Mo_run_95 : decode prog_12_method_35_code 95 = .ok (.if_icmp .eq 9, 3) := by decide +kernel
theorem d_Mo_run_98 : decode prog_12_method_35_code 98 = .ok (.iload_n 3, 1) := by decide +kernel
theorem d_Mo_run_99 : decode prog_12_method_35_code 99 = .ok (.iconst 1, 1) := by decide +kernel
theorem d_Mo_run_100 : decode prog_12_method_35_code 100 = .ok (.iadd, 1) := by decide +kernel
theorem d_Mo_run_101 : decode prog_12_method_35_code 101 = .ok (.goto 4, 3) := by decide +kernel
theorem d_Mo_run_104 : decode prog_12_method_35_code 104 = .ok (.iload_n 3, 1) := by decide +kernel
theorem d_Mo_run_105 : decode prog_12_method_35_code 105 = .ok (.istore_n 3, 1) := by decide +kernel
theorem d_Mo_run_106 : decode prog_12_method_35_code 106 = .ok (.iload_n 3, 1) := by decide +kernel
theorem d_Mo_run_107 : decode prog_12_method_35_code 107 = .ok (.iload_n 1, 1) := by decide +kernel
theorem d_Mo_run_108 : decode prog_12_method_35_code 108 = .ok (.if_icmp .ne 13, 3) := by decide +kernel
theorem d_Mo_run_111 : decode prog_12_method_35_code 111 = .ok (.aload_n 0, 1) := by decide +kernel
theorem d_Mo_run_112 : decode prog_12_method_35_code 112 = .ok (.getfield 26, 3) := by decide +kernel
theorem d_Mo_run_115 : decode prog_12_method_35_code 115 = .ok (.iload 6, 2) := by decide +kernel
theorem d_Mo_run_117 : decode prog_12_method_35_code 117 = .ok (.iaload, 1) := by decide +kernel
theorem d_Mo_run_118 : decode prog_12_method_35_code 118 = .ok (.goto 5, 3) := by decide +kernel
theorem d_Mo_run_121 : decode prog_12_method_35_code 121 = .ok (.iload 4, 2) := by decide +kernel
theorem d_Mo_run_123 : decode prog_12_method_35_code 123 = .ok (.istore 4, 2) := by decide +kernel
theorem d_Mo_run_125 : decode prog_12_method_35_code 125 = .ok (.iload_n 3, 1) := by decide +kernel
theorem d_Mo_run_126 : decode prog_12_method_35_code 126 = .ok (.iload_n 1, 1) := by decide +kernel
theorem d_Mo_run_127 : decode prog_12_method_35_code 127 = .ok (.if_icmp .ne 10, 3) := by decide +kernel
theorem d_Mo_run_130 : decode prog_12_method_35_code 130 = .ok (.iload 5, 2) := by decide +kernel
theorem d_Mo_run_132 : decode prog_12_method_35_code 132 = .ok (.iconst 1, 1) := by decide +kernel
theorem d_Mo_run_133 : decode prog_12_method_35_code 133 = .ok (.iadd, 1) := by decide +kernel
theorem d_Mo_run_134 : decode prog_12_method_35_code 134 = .ok (.goto 5, 3) := by decide +kernel
theorem d_Mo_run_137 : decode prog_12_method_35_code 137 = .ok (.iload 5, 2) := by decide +kernel
theorem d_Mo_run_139 : decode prog_12_method_35_code 139 = .ok (.istore 5, 2) := by decide +kernel
theorem d_Mo_run_141 : decode prog_12_method_35_code 141 = .ok (.iinc 6 1, 3) := by decide +kernel
theorem d_Mo_run_144 : decode prog_12_method_35_code 144 = .ok (.goto (-79), 3) := by decide +kernel
theorem d_Mo_run_147 : decode prog_12_method_35_code 147 = .ok (.iload_n 2, 1) := by decide +kernel
theorem d_Mo_run_148 : decode prog_12_method_35_code 148 = .ok (.ifCond .ne 8, 3) := by decide +kernel
theorem d_Mo_run_151 : decode prog_12_method_35_code 151 = .ok (.iload 4, 2) := by decide +kernel
theorem d_Mo_run_153 : decode prog_12_method_35_code 153 = .ok (.goto 5, 3) := by decide +kernel
theorem d_Mo_run_156 : decode prog_12_method_35_code 156 = .ok (.iload 5, 2) := by decide +kernel
theorem d_Mo_run_158 : decode prog_12_method_35_code 158 = .ok (.ireturn, 1) := by decide +kernel
theorem d_Mo_ways_0 : decode prog_12_method_36_code 0 = .ok (.aload_n 0, 1) := by decide +kernel
theorem d_Mo_ways_1 : decode prog_12_method_36_code 1 = .ok (.aload_n 0, 1) := by decide +kernel
theorem d_Mo_ways_2 : decode prog_12_method_36_code 2 = .ok (.getfield 61, 3) := by decide +kernel
theorem d_Mo_ways_5 : decode prog_12_method_36_code 5 = .ok (.ifCond .eq 7, 3) := by decide +kernel
theorem d_Mo_ways_8 : decode prog_12_method_36_code 8 = .ok (.iconst 0, 1) := by decide +kernel
theorem d_Mo_ways_9 : decode prog_12_method_36_code 9 = .ok (.goto 4, 3) := by decide +kernel
theorem d_Mo_ways_12 : decode prog_12_method_36_code 12 = .ok (.iconst 1, 1) := by decide +kernel
theorem d_Mo_ways_13 : decode prog_12_method_36_code 13 = .ok (.putfield 52, 3) := by decide +kernel
theorem d_Mo_ways_16 : decode prog_12_method_36_code 16 = .ok (.aload_n 0, 1) := by decide +kernel
theorem d_Mo_ways_17 : decode prog_12_method_36_code 17 = .ok (.getfield 52, 3) := by decide +kernel
theorem d_Mo_ways_20 : decode prog_12_method_36_code 20 = .ok (.ifCond .le 5, 3) := by decide +kernel
theorem d_Mo_ways_23 : decode prog_12_method_36_code 23 = .ok (.lconst 0, 1) := by decide +kernel
theorem d_Mo_ways_24 : decode prog_12_method_36_code 24 = .ok (.lreturn, 1) := by decide +kernel
theorem d_Mo_ways_25 : decode prog_12_method_36_code 25 = .ok (.aload_n 0, 1) := by decide +kernel
theorem d_Mo_ways_26 : decode prog_12_method_36_code 26 = .ok (.getfield 76, 3) := by decide +kernel
theorem d_Mo_ways_29 : decode prog_12_method_36_code 29 = .ok (.ifCond .ne 14, 3) := by decide +kernel
theorem d_Mo_ways_32 : decode prog_12_method_36_code 32 = .ok (.aload_n 0, 1) := by decide +kernel
theorem d_Mo_ways_33 : decode prog_12_method_36_code 33 = .ok (.getfield 38, 3) := by decide +kernel
theorem d_Mo_ways_36 : decode prog_12_method_36_code 36 = .ok (.iconst 0, 1) := by decide +kernel
theorem d_Mo_ways_37 : decode prog_12_method_36_code 37 = .ok (.laload, 1) := by decide +kernel
theorem d_Mo_ways_38 : decode prog_12_method_36_code 38 = .ok (.ldc2_w 129, 3) := by decide +kernel
theorem d_Mo_ways_41 : decode prog_12_method_36_code 41 = .ok (.land, 1) := by decide +kernel
theorem d_Mo_ways_42 : decode prog_12_method_36_code 42 = .ok (.lreturn, 1) := by decide +kernel
theorem d_Mo_ways_43 : decode prog_12_method_36_code 43 = .ok (.aload_n 0, 1) := by decide +kernel
theorem d_Mo_ways_44 : decode prog_12_method_36_code 44 = .ok (.getfield 35, 3) := by decide +kernel
theorem d_Mo_ways_47 : decode prog_12_method_36_code 47 = .ok (.aload_n 0, 1) := by decide +kernel
theorem d_Mo_ways_48 : decode prog_12_method_36_code 48 = .ok (.getfield 29, 3) := by decide +kernel
theorem d_Mo_ways_51 : decode prog_12_method_36_code 51 = .ok (.iconst 0, 1) := by decide +kernel
theorem d_Mo_ways_52 : decode prog_12_method_36_code 52 = .ok (.iaload, 1) := by decide +kernel
theorem d_Mo_ways_53 : decode prog_12_method_36_code 53 = .ok (.aload_n 0, 1) := by decide +kernel
theorem d_Mo_ways_54 : decode prog_12_method_36_code 54 = .ok (.getfield 29, 3) := by decide +kernel
theorem d_Mo_ways_57 : decode prog_12_method_36_code 57 = .ok (.iconst 1, 1) := by decide +kernel
theorem d_Mo_ways_58 : decode prog_12_method_36_code 58 = .ok (.iaload, 1) := by decide +kernel
theorem d_Mo_ways_59 : decode prog_12_method_36_code 59 = .ok (.iconst 0, 1) := by decide +kernel
theorem d_Mo_ways_60 : decode prog_12_method_36_code 60 = .ok (.invokestatic 72, 3) := by decide +kernel
theorem d_Mo_ways_63 : decode prog_12_method_36_code 63 = .ok (.iaload, 1) := by decide +kernel
theorem d_Mo_ways_64 : decode prog_12_method_36_code 64 = .ok (.istore_n 1, 1) := by decide +kernel
theorem d_Mo_ways_65 : decode prog_12_method_36_code 65 = .ok (.lconst 0, 1) := by decide +kernel
theorem d_Mo_ways_66 : decode prog_12_method_36_code 66 = .ok (.lstore_n 2, 1) := by decide +kernel
theorem d_Mo_ways_67 : decode prog_12_method_36_code 67 = .ok (.iconst 0, 1) := by decide +kernel
theorem d_Mo_ways_68 : decode prog_12_method_36_code 68 = .ok (.istore 4, 2) := by decide +kernel
theorem d_Mo_ways_70 : decode prog_12_method_36_code 70 = .ok (.iload 4, 2) := by decide +kernel
theorem d_Mo_ways_72 : decode prog_12_method_36_code 72 = .ok (.aload_n 0, 1) := by decide +kernel
theorem d_Mo_ways_73 : decode prog_12_method_36_code 73 = .ok (.getfield 13, 3) := by decide +kernel
theorem d_Mo_ways_76 : decode prog_12_method_36_code 76 = .ok (.iconst 0, 1) := by decide +kernel
theorem d_Mo_ways_77 : decode prog_12_method_36_code 77 = .ok (.iaload, 1) := by decide +kernel
theorem d_Mo_ways_78 : decode prog_12_method_36_code 78 = .ok (.if_icmp .gt 66, 3) := by decide +kernel
theorem d_Mo_ways_81 : decode prog_12_method_36_code 81 = .ok (.iconst 0, 1) := by decide +kernel
theorem d_Mo_ways_82 : decode prog_12_method_36_code 82 = .ok (.istore 5, 2) := by decide +kernel
theorem d_Mo_ways_84 : decode prog_12_method_36_code 84 = .ok (.iload 5, 2) := by decide +kernel
theorem d_Mo_ways_86 : decode prog_12_method_36_code 86 = .ok (.aload_n 0, 1) := by decide +kernel
theorem d_Mo_ways_87 : decode prog_12_method_36_code 87 = .ok (.getfield 13, 3) := by decide +kernel
theorem d_Mo_ways_90 : decode prog_12_method_36_code 90 = .ok (.iconst 1, 1) := by decide +kernel
theorem d_Mo_ways_91 : decode prog_12_method_36_code 91 = .ok (.iaload, 1) := by decide +kernel
theorem d_Mo_ways_92 : decode prog_12_method_36_code 92 = .ok (.if_icmp .gt 46, 3) := by decide +kernel
theorem d_Mo_ways_95 : decode prog_12_method_36_code 95 = .ok (.aload_n 0, 1) := by decide +kernel
theorem d_Mo_ways_96 : decode prog_12_method_36_code 96 = .ok (.getfield 35, 3) := by decide +kernel
theorem d_Mo_ways_99 : decode prog_12_method_36_code 99 = .ok (.iload 4, 2) := by decide +kernel
theorem d_Mo_ways_101 : decode prog_12_method_36_code 101 = .ok (.iload 5, 2) := by decide +kernel
theorem d_Mo_ways_103 : decode prog_12_method_36_code 103 = .ok (.iconst 0, 1) := by decide +kernel
theorem d_Mo_ways_104 : decode prog_12_method_36_code 104 = .ok (.invokestatic 72, 3) := by decide +kernel
theorem d_Mo_ways_107 : decode prog_12_method_36_code 107 = .ok (.iaload, 1) := by decide +kernel
theorem d_Mo_ways_108 : decode prog_12_method_36_code 108 = .ok (.iload_n 1, 1) := by decide +kernel
theorem d_Mo_ways_109 : decode prog_12_method_36_code 109 = .ok (.if_icmp .ne 21, 3) := by decide +kernel
theorem d_Mo_ways_112 : decode prog_12_method_36_code 112 = .ok (.lload_n 2, 1) := by decide +kernel
theorem d_Mo_ways_113 : decode prog_12_method_36_code 113 = .ok (.aload_n 0, 1) := by decide +kernel
theorem d_Mo_ways_114 : decode prog_12_method_36_code 114 = .ok (.getfield 38, 3) := by decide +kernel
theorem d_Mo_ways_117 : decode prog_12_method_36_code 117 = .ok (.iload 4, 2) := by decide +kernel
theorem d_Mo_ways_119 : decode prog_12_method_36_code 119 = .ok (.iload 5, 2) := by decide +kernel
theorem d_Mo_ways_121 : decode prog_12_method_36_code 121 = .ok (.iconst 0, 1) := by decide +kernel
theorem d_Mo_ways_122 : decode prog_12_method_36_code 122 = .ok (.invokestatic 72, 3) := by decide +kernel
theorem d_Mo_ways_125 : decode prog_12_method_36_code 125 = .ok (.laload, 1) := by decide +kernel
theorem d_Mo_ways_126 : decode prog_12_method_36_code 126 = .ok (.ladd, 1) := by decide +kernel
theorem d_Mo_ways_127 : decode prog_12_method_36_code 127 = .ok (.goto 4, 3) := by decide +kernel
theorem d_Mo_ways_130 : decode prog_12_method_36_code 130 = .ok (.lload_n 2, 1) := by decide +kernel
theorem d_Mo_ways_131 : decode prog_12_method_36_code 131 = .ok (.lstore_n 2, 1) := by decide +kernel
theorem d_Mo_ways_132 : decode prog_12_method_36_code 132 = .ok (.iinc 5 1, 3) := by decide +kernel
theorem d_Mo_ways_135 : decode prog_12_method_36_code 135 = .ok (.goto (-51), 3) := by decide +kernel
theorem d_Mo_ways_138 : decode prog_12_method_36_code 138 = .ok (.iinc 4 1, 3) := by decide +kernel
theorem d_Mo_ways_141 : decode prog_12_method_36_code 141 = .ok (.goto (-71), 3) := by decide +kernel
theorem d_Mo_ways_144 : decode prog_12_method_36_code 144 = .ok (.lload_n 2, 1) := by decide +kernel
theorem d_Mo_ways_145 : decode prog_12_method_36_code 145 = .ok (.ldc2_w 129, 3) := by decide +kernel
theorem d_Mo_ways_148 : decode prog_12_method_36_code 148 = .ok (.land, 1) := by decide +kernel
theorem d_Mo_ways_149 : decode prog_12_method_36_code 149 = .ok (.lreturn, 1) := by decide +kernel
theorem d_Mo_crossing_0 : decode prog_12_method_41_code 0 = .ok (.aload_n 0, 1) := by decide +kernel
theorem d_Mo_crossing_1 : decode prog_12_method_41_code 1 = .ok (.aload_n 0, 1) := by decide +kernel
theorem d_Mo_crossing_2 : decode prog_12_method_41_code 2 = .ok (.getfield 61, 3) := by decide +kernel
theorem d_Mo_crossing_5 : decode prog_12_method_41_code 5 = .ok (.ifCond .ne 7, 3) := by decide +kernel
theorem d_Mo_crossing_8 : decode prog_12_method_41_code 8 = .ok (.iconst 1, 1) := by decide +kernel
theorem d_Mo_crossing_9 : decode prog_12_method_41_code 9 = .ok (.goto 22, 3) := by decide +kernel
theorem d_Mo_crossing_12 : decode prog_12_method_41_code 12 = .ok (.iload_n 1, 1) := by decide +kernel
theorem d_Mo_crossing_13 : decode prog_12_method_41_code 13 = .ok (.ifCond .lt 13, 3) := by decide +kernel
theorem d_Mo_crossing_16 : decode prog_12_method_41_code 16 = .ok (.iload_n 1, 1) := by decide +kernel
theorem d_Mo_crossing_17 : decode prog_12_method_41_code 17 = .ok (.aload_n 0, 1) := by decide +kernel
theorem d_Mo_crossing_18 : decode prog_12_method_41_code 18 = .ok (.getfield 13, 3) := by decide +kernel
theorem d_Mo_crossing_21 : decode prog_12_method_41_code 21 = .ok (.iconst 0, 1) := by decide +kernel
theorem d_Mo_crossing_22 : decode prog_12_method_41_code 22 = .ok (.iaload, 1) := by decide +kernel
theorem d_Mo_crossing_23 : decode prog_12_method_41_code 23 = .ok (.if_icmp .le 7, 3) := by decide +kernel
theorem d_Mo_crossing_26 : decode prog_12_method_41_code 26 = .ok (.iconst 2, 1) := by decide +kernel
theorem d_Mo_crossing_27 : decode prog_12_method_41_code 27 = .ok (.goto 4, 3) := by decide +kernel
theorem d_Mo_crossing_30 : decode prog_12_method_41_code 30 = .ok (.iconst 0, 1) := by decide +kernel
theorem d_Mo_crossing_31 : decode prog_12_method_41_code 31 = .ok (.putfield 52, 3) := by decide +kernel
theorem d_Mo_crossing_34 : decode prog_12_method_41_code 34 = .ok (.aload_n 0, 1) := by decide +kernel
theorem d_Mo_crossing_35 : decode prog_12_method_41_code 35 = .ok (.getfield 52, 3) := by decide +kernel
theorem d_Mo_crossing_38 : decode prog_12_method_41_code 38 = .ok (.ifCond .gt 10, 3) := by decide +kernel
theorem d_Mo_crossing_41 : decode prog_12_method_41_code 41 = .ok (.aload_n 0, 1) := by decide +kernel
theorem d_Mo_crossing_42 : decode prog_12_method_41_code 42 = .ok (.getfield 76, 3) := by decide +kernel
theorem d_Mo_crossing_45 : decode prog_12_method_41_code 45 = .ok (.ifCond .eq 16, 3) := by decide +kernel
theorem d_Mo_crossing_48 : decode prog_12_method_41_code 48 = .ok (.aload_n 0, 1) := by decide +kernel
theorem d_Mo_crossing_49 : decode prog_12_method_41_code 49 = .ok (.getfield 52, 3) := by decide +kernel
theorem d_Mo_crossing_52 : decode prog_12_method_41_code 52 = .ok (.ifCond .le 7, 3) := by decide +kernel
theorem d_Mo_crossing_55 : decode prog_12_method_41_code 55 = .ok (.iconst 0, 1) := by decide +kernel
theorem d_Mo_crossing_56 : decode prog_12_method_41_code 56 = .ok (.goto 4, 3) := by decide +kernel
theorem d_Mo_crossing_59 : decode prog_12_method_41_code 59 = .ok (.iconst (-1), 1) := by decide +kernel
theorem d_Mo_crossing_60 : decode prog_12_method_41_code 60 = .ok (.ireturn, 1) := by decide +kernel
theorem d_Mo_crossing_61 : decode prog_12_method_41_code 61 = .ok (.iconst 0, 1) := by decide +kernel
theorem d_Mo_crossing_62 : decode prog_12_method_41_code 62 = .ok (.istore_n 2, 1) := by decide +kernel
theorem d_Mo_crossing_63 : decode prog_12_method_41_code 63 = .ok (.iload_n 2, 1) := by decide +kernel
theorem d_Mo_crossing_64 : decode prog_12_method_41_code 64 = .ok (.aload_n 0, 1) := by decide +kernel
theorem d_Mo_crossing_65 : decode prog_12_method_41_code 65 = .ok (.getfield 42, 3) := by decide +kernel
theorem d_Mo_crossing_68 : decode prog_12_method_41_code 68 = .ok (.arraylength, 1) := by decide +kernel
theorem d_Mo_crossing_69 : decode prog_12_method_41_code 69 = .ok (.if_icmp .ge 17, 3) := by decide +kernel
theorem d_Mo_crossing_72 : decode prog_12_method_41_code 72 = .ok (.aload_n 0, 1) := by decide +kernel
theorem d_Mo_crossing_73 : decode prog_12_method_41_code 73 = .ok (.getfield 42, 3) := by decide +kernel
theorem d_Mo_crossing_76 : decode prog_12_method_41_code 76 = .ok (.iload_n 2, 1) := by decide +kernel
theorem d_Mo_crossing_77 : decode prog_12_method_41_code 77 = .ok (.ldc 79, 2) := by decide +kernel
theorem d_Mo_crossing_79 : decode prog_12_method_41_code 79 = .ok (.iastore, 1) := by decide +kernel
theorem d_Mo_crossing_80 : decode prog_12_method_41_code 80 = .ok (.iinc 2 1, 3) := by decide +kernel
theorem d_Mo_crossing_83 : decode prog_12_method_41_code 83 = .ok (.goto (-20), 3) := by decide +kernel
theorem d_Mo_crossing_86 : decode prog_12_method_41_code 86 = .ok (.aload_n 0, 1) := by decide +kernel
theorem d_Mo_crossing_87 : decode prog_12_method_41_code 87 = .ok (.getfield 42, 3) := by decide +kernel
theorem d_Mo_crossing_90 : decode prog_12_method_41_code 90 = .ok (.iconst 0, 1) := by decide +kernel
theorem d_Mo_crossing_91 : decode prog_12_method_41_code 91 = .ok (.iconst 0, 1) := by decide +kernel
theorem d_Mo_crossing_92 : decode prog_12_method_41_code 92 = .ok (.iastore, 1) := by decide +kernel
theorem d_Mo_crossing_93 : decode prog_12_method_41_code 93 = .ok (.iconst 0, 1) := by decide +kernel
theorem d_Mo_crossing_94 : decode prog_12_method_41_code 94 = .ok (.istore_n 2, 1) := by decide +kernel
theorem d_Mo_crossing_95 : decode prog_12_method_41_code 95 = .ok (.iload_n 2, 1) := by decide +kernel
theorem d_Mo_crossing_96 : decode prog_12_method_41_code 96 = .ok (.aload_n 0, 1) := by decide +kernel
theorem d_Mo_crossing_97 : decode prog_12_method_41_code 97 = .ok (.getfield 13, 3) := by decide +kernel
theorem d_Mo_crossing_100 : decode prog_12_method_41_code 100 = .ok (.iconst 0, 1) := by decide +kernel
theorem d_Mo_crossing_101 : decode prog_12_method_41_code 101 = .ok (.iaload, 1) := by decide +kernel
theorem d_Mo_crossing_102 : decode prog_12_method_41_code 102 = .ok (.if_icmp .gt 57, 3) := by decide +kernel
theorem d_Mo_crossing_105 : decode prog_12_method_41_code 105 = .ok (.iconst 0, 1) := by decide +kernel
theorem d_Mo_crossing_106 : decode prog_12_method_41_code 106 = .ok (.istore_n 3, 1) := by decide +kernel
theorem d_Mo_crossing_107 : decode prog_12_method_41_code 107 = .ok (.iload_n 3, 1) := by decide +kernel
theorem d_Mo_crossing_108 : decode prog_12_method_41_code 108 = .ok (.aload_n 0, 1) := by decide +kernel
theorem d_Mo_crossing_109 : decode prog_12_method_41_code 109 = .ok (.getfield 13, 3) := by decide +kernel
theorem d_Mo_crossing_112 : decode prog_12_method_41_code 112 = .ok (.iconst 1, 1) := by decide +kernel
theorem d_Mo_crossing_113 : decode prog_12_method_41_code 113 = .ok (.iaload, 1) := by decide +kernel
theorem d_Mo_crossing_114 : decode prog_12_method_41_code 114 = .ok (.if_icmp .gt 39, 3) := by decide +kernel
theorem d_Mo_crossing_117 : decode prog_12_method_41_code 117 = .ok (.iconst 0, 1) := by decide +kernel
theorem d_Mo_crossing_118 : decode prog_12_method_41_code 118 = .ok (.istore 4, 2) := by decide +kernel
theorem d_Mo_crossing_120 : decode prog_12_method_41_code 120 = .ok (.iload 4, 2) := by decide +kernel
theorem d_Mo_crossing_122 : decode prog_12_method_41_code 122 = .ok (.iconst 3, 1) := by decide +kernel
theorem d_Mo_crossing_123 : decode prog_12_method_41_code 123 = .ok (.if_icmp .ge 17, 3) := by decide +kernel
theorem d_Mo_crossing_126 : decode prog_12_method_41_code 126 = .ok (.aload_n 0, 1) := by decide +kernel
theorem d_Mo_crossing_127 : decode prog_12_method_41_code 127 = .ok (.iload_n 2, 1) := by decide +kernel
theorem d_Mo_crossing_128 : decode prog_12_method_41_code 128 = .ok (.iload_n 3, 1) := by decide +kernel
theorem d_Mo_crossing_129 : decode prog_12_method_41_code 129 = .ok (.iload 4, 2) := by decide +kernel
theorem d_Mo_crossing_131 : decode prog_12_method_41_code 131 = .ok (.invokevirtual 139, 3) := by decide +kernel
theorem d_Mo_crossing_134 : decode prog_12_method_41_code 134 = .ok (.iinc 4 1, 3) := by decide +kernel
theorem d_Mo_crossing_137 : decode prog_12_method_41_code 137 = .ok (.goto (-17), 3) := by decide +kernel
theorem d_Mo_crossing_140 : decode prog_12_method_41_code 140 = .ok (.aload_n 0, 1) := by decide +kernel
theorem d_Mo_crossing_141 : decode prog_12_method_41_code 141 = .ok (.iload_n 2, 1) := by decide +kernel
theorem d_Mo_crossing_142 : decode prog_12_method_41_code 142 = .ok (.iload_n 3, 1) := by decide +kernel
theorem d_Mo_crossing_143 : decode prog_12_method_41_code 143 = .ok (.iconst 1, 1) := by decide +kernel
theorem d_Mo_crossing_144 : decode prog_12_method_41_code 144 = .ok (.invokevirtual 139, 3) := by decide +kernel
theorem d_Mo_crossing_147 : decode prog_12_method_41_code 147 = .ok (.iinc 3 1, 3) := by decide +kernel
theorem d_Mo_crossing_150 : decode prog_12_method_41_code 150 = .ok (.goto (-43), 3) := by decide +kernel
theorem d_Mo_crossing_153 : decode prog_12_method_41_code 153 = .ok (.iinc 2 1, 3) := by decide +kernel
theorem d_Mo_crossing_156 : decode prog_12_method_41_code 156 = .ok (.goto (-61), 3) := by decide +kernel
theorem d_Mo_crossing_159 : decode prog_12_method_41_code 159 = .ok (.iconst 0, 1) := by decide +kernel
theorem d_Mo_crossing_160 : decode prog_12_method_41_code 160 = .ok (.istore_n 2, 1) := by decide +kernel
theorem d_Mo_crossing_161 : decode prog_12_method_41_code 161 = .ok (.aload_n 0, 1) := by decide +kernel
theorem d_Mo_crossing_162 : decode prog_12_method_41_code 162 = .ok (.iload_n 1, 1) := by decide +kernel
theorem d_Mo_crossing_163 : decode prog_12_method_41_code 163 = .ok (.iload_n 2, 1) := by decide +kernel
theorem d_Mo_crossing_164 : decode prog_12_method_41_code 164 = .ok (.aload_n 0, 1) := by decide +kernel
theorem d_Mo_crossing_165 : decode prog_12_method_41_code 165 = .ok (.getfield 35, 3) := by decide +kernel
theorem d_Mo_crossing_168 : decode prog_12_method_41_code 168 = .ok (.iconst 0, 1) := by decide +kernel
theorem d_Mo_crossing_169 : decode prog_12_method_41_code 169 = .ok (.iaload, 1) := by decide +kernel
theorem d_Mo_crossing_170 : decode prog_12_method_41_code 170 = .ok (.invokevirtual 142, 3) := by decide +kernel
theorem d_Mo_crossing_173 : decode prog_12_method_41_code 173 = .ok (.ifCond .ne 9, 3) := by decide +kernel
theorem d_Mo_crossing_176 : decode prog_12_method_41_code 176 = .ok (.iinc 2 1, 3) := by decide +kernel
theorem d_Mo_crossing_179 : decode prog_12_method_41_code 179 = .ok (.goto (-18), 3) := by decide +kernel
theorem d_Mo_crossing_182 : decode prog_12_method_41_code 182 = .ok (.iload_n 2, 1) := by decide +kernel
theorem d_Mo_crossing_183 : decode prog_12_method_41_code 183 = .ok (.ireturn, 1) := by decide +kernel
theorem d_Mo_leadFrom_0 : decode prog_12_method_38_code 0 = .ok (.aload_n 0, 1) := by decide +kernel
theorem d_Mo_leadFrom_1 : decode prog_12_method_38_code 1 = .ok (.getfield 42, 3) := by decide +kernel
theorem d_Mo_leadFrom_4 : decode prog_12_method_38_code 4 = .ok (.iload_n 1, 1) := by decide +kernel
theorem d_Mo_leadFrom_5 : decode prog_12_method_38_code 5 = .ok (.iload_n 2, 1) := by decide +kernel
theorem d_Mo_leadFrom_6 : decode prog_12_method_38_code 6 = .ok (.iload_n 3, 1) := by decide +kernel
theorem d_Mo_leadFrom_7 : decode prog_12_method_38_code 7 = .ok (.invokestatic 72, 3) := by decide +kernel
theorem d_Mo_leadFrom_10 : decode prog_12_method_38_code 10 = .ok (.iaload, 1) := by decide +kernel
theorem d_Mo_leadFrom_11 : decode prog_12_method_38_code 11 = .ok (.istore 4, 2) := by decide +kernel
theorem d_Mo_leadFrom_13 : decode prog_12_method_38_code 13 = .ok (.iload 4, 2) := by decide +kernel
theorem d_Mo_leadFrom_15 : decode prog_12_method_38_code 15 = .ok (.ldc 79, 2) := by decide +kernel
theorem d_Mo_leadFrom_17 : decode prog_12_method_38_code 17 = .ok (.if_icmp .ne 4, 3) := by decide +kernel
theorem d_Mo_leadFrom_20 : decode prog_12_method_38_code 20 = .ok (.return_, 1) := by decide +kernel
theorem d_Mo_leadFrom_21 : decode prog_12_method_38_code 21 = .ok (.iload_n 1, 1) := by decide +kernel
theorem d_Mo_leadFrom_22 : decode prog_12_method_38_code 22 = .ok (.aload_n 0, 1) := by decide +kernel
theorem d_Mo_leadFrom_23 : decode prog_12_method_38_code 23 = .ok (.getfield 13, 3) := by decide +kernel
theorem d_Mo_leadFrom_26 : decode prog_12_method_38_code 26 = .ok (.iconst 0, 1) := by decide +kernel
theorem d_Mo_leadFrom_27 : decode prog_12_method_38_code 27 = .ok (.iaload, 1) := by decide +kernel
theorem d_Mo_leadFrom_28 : decode prog_12_method_38_code 28 = .ok (.if_icmp .ge 33, 3) := by decide +kernel
theorem d_Mo_leadFrom_31 : decode prog_12_method_38_code 31 = .ok (.iload_n 2, 1) := by decide +kernel
theorem d_Mo_leadFrom_32 : decode prog_12_method_38_code 32 = .ok (.aload_n 0, 1) := by decide +kernel
theorem d_Mo_leadFrom_33 : decode prog_12_method_38_code 33 = .ok (.getfield 13, 3) := by decide +kernel
theorem d_Mo_leadFrom_36 : decode prog_12_method_38_code 36 = .ok (.iconst 1, 1) := by decide +kernel
theorem d_Mo_leadFrom_37 : decode prog_12_method_38_code 37 = .ok (.iaload, 1) := by decide +kernel
theorem d_Mo_leadFrom_38 : decode prog_12_method_38_code 38 = .ok (.if_icmp .ge 23, 3) := by decide +kernel
theorem d_Mo_leadFrom_41 : decode prog_12_method_38_code 41 = .ok (.aload_n 0, 1) := by decide +kernel
theorem d_Mo_leadFrom_42 : decode prog_12_method_38_code 42 = .ok (.iload_n 1, 1) := by decide +kernel
theorem d_Mo_leadFrom_43 : decode prog_12_method_38_code 43 = .ok (.iconst 1, 1) := by decide +kernel
theorem d_Mo_leadFrom_44 : decode prog_12_method_38_code 44 = .ok (.iadd, 1) := by decide +kernel
theorem d_Mo_leadFrom_45 : decode prog_12_method_38_code 45 = .ok (.iload_n 2, 1) := by decide +kernel
theorem d_Mo_leadFrom_46 : decode prog_12_method_38_code 46 = .ok (.iconst 1, 1) := by decide +kernel
theorem d_Mo_leadFrom_47 : decode prog_12_method_38_code 47 = .ok (.iadd, 1) := by decide +kernel
theorem d_Mo_leadFrom_48 : decode prog_12_method_38_code 48 = .ok (.iconst 0, 1) := by decide +kernel
theorem d_Mo_leadFrom_49 : decode prog_12_method_38_code 49 = .ok (.iload 4, 2) := by decide +kernel
theorem d_Mo_leadFrom_51 : decode prog_12_method_38_code 51 = .ok (.aload_n 0, 1) := by decide +kernel
theorem d_Mo_leadFrom_52 : decode prog_12_method_38_code 52 = .ok (.iload_n 1, 1) := by decide +kernel
theorem d_Mo_leadFrom_53 : decode prog_12_method_38_code 53 = .ok (.iload_n 2, 1) := by decide +kernel
theorem d_Mo_leadFrom_54 : decode prog_12_method_38_code 54 = .ok (.invokevirtual 80, 3) := by decide +kernel
theorem d_Mo_leadFrom_57 : decode prog_12_method_38_code 57 = .ok (.iadd, 1) := by decide +kernel
theorem d_Mo_leadFrom_58 : decode prog_12_method_38_code 58 = .ok (.invokevirtual 131, 3) := by decide +kernel
theorem d_Mo_leadFrom_61 : decode prog_12_method_38_code 61 = .ok (.iconst 1, 1) := by decide +kernel
theorem d_Mo_leadFrom_62 : decode prog_12_method_38_code 62 = .ok (.istore 5, 2) := by decide +kernel
theorem d_Mo_leadFrom_64 : decode prog_12_method_38_code 64 = .ok (.iload_n 3, 1) := by decide +kernel
theorem d_Mo_leadFrom_65 : decode prog_12_method_38_code 65 = .ok (.iconst 1, 1) := by decide +kernel
theorem d_Mo_leadFrom_66 : decode prog_12_method_38_code 66 = .ok (.if_icmp .eq 44, 3) := by decide +kernel
theorem d_Mo_leadFrom_69 : decode prog_12_method_38_code 69 = .ok (.iload_n 1, 1) := by decide +kernel
theorem d_Mo_leadFrom_70 : decode prog_12_method_38_code 70 = .ok (.iload 5, 2) := by decide +kernel
theorem d_Mo_leadFrom_72 : decode prog_12_method_38_code 72 = .ok (.iadd, 1) := by decide +kernel
theorem d_Mo_leadFrom_73 : decode prog_12_method_38_code 73 = .ok (.aload_n 0, 1) := by decide +kernel
theorem d_Mo_leadFrom_74 : decode prog_12_method_38_code 74 = .ok (.getfield 13, 3) := by decide +kernel
theorem d_Mo_leadFrom_77 : decode prog_12_method_38_code 77 = .ok (.iconst 0, 1) := by decide +kernel
theorem d_Mo_leadFrom_78 : decode prog_12_method_38_code 78 = .ok (.iaload, 1) := by decide +kernel
theorem d_Mo_leadFrom_79 : decode prog_12_method_38_code 79 = .ok (.if_icmp .gt 31, 3) := by decide +kernel
theorem d_Mo_leadFrom_82 : decode prog_12_method_38_code 82 = .ok (.aload_n 0, 1) := by decide +kernel
theorem d_Mo_leadFrom_83 : decode prog_12_method_38_code 83 = .ok (.iload_n 1, 1) := by decide +kernel
theorem d_Mo_leadFrom_84 : decode prog_12_method_38_code 84 = .ok (.iload 5, 2) := by decide +kernel
theorem d_Mo_leadFrom_86 : decode prog_12_method_38_code 86 = .ok (.iadd, 1) := by decide +kernel
theorem d_Mo_leadFrom_87 : decode prog_12_method_38_code 87 = .ok (.iload_n 2, 1) := by decide +kernel
theorem d_Mo_leadFrom_88 : decode prog_12_method_38_code 88 = .ok (.iconst 1, 1) := by decide +kernel
theorem d_Mo_leadFrom_89 : decode prog_12_method_38_code 89 = .ok (.iload 4, 2) := by decide +kernel
theorem d_Mo_leadFrom_91 : decode prog_12_method_38_code 91 = .ok (.aload_n 0, 1) := by decide +kernel
theorem d_Mo_leadFrom_92 : decode prog_12_method_38_code 92 = .ok (.iconst 1, 1) := by decide +kernel
theorem d_Mo_leadFrom_93 : decode prog_12_method_38_code 93 = .ok (.iload_n 1, 1) := by decide +kernel
theorem d_Mo_leadFrom_94 : decode prog_12_method_38_code 94 = .ok (.iload_n 2, 1) := by decide +kernel
theorem d_Mo_leadFrom_95 : decode prog_12_method_38_code 95 = .ok (.iload 5, 2) := by decide +kernel
theorem d_Mo_leadFrom_97 : decode prog_12_method_38_code 97 = .ok (.invokevirtual 88, 3) := by decide +kernel
theorem d_Mo_leadFrom_100 : decode prog_12_method_38_code 100 = .ok (.isub, 1) := by decide +kernel
theorem d_Mo_leadFrom_101 : decode prog_12_method_38_code 101 = .ok (.invokevirtual 131, 3) := by decide +kernel
theorem d_Mo_leadFrom_104 : decode prog_12_method_38_code 104 = .ok (.iinc 5 1, 3) := by decide +kernel
theorem d_Mo_leadFrom_107 : decode prog_12_method_38_code 107 = .ok (.goto (-43), 3) := by decide +kernel
theorem d_Mo_leadFrom_110 : decode prog_12_method_38_code 110 = .ok (.iconst 1, 1) := by decide +kernel
theorem d_Mo_leadFrom_111 : decode prog_12_method_38_code 111 = .ok (.istore 5, 2) := by decide +kernel
theorem d_Mo_leadFrom_113 : decode prog_12_method_38_code 113 = .ok (.iload_n 3, 1) := by decide +kernel
theorem d_Mo_leadFrom_114 : decode prog_12_method_38_code 114 = .ok (.iconst 2, 1) := by decide +kernel
theorem d_Mo_leadFrom_115 : decode prog_12_method_38_code 115 = .ok (.if_icmp .eq 44, 3) := by decide +kernel
theorem d_Mo_leadFrom_118 : decode prog_12_method_38_code 118 = .ok (.iload_n 2, 1) := by decide +kernel
theorem d_Mo_leadFrom_119 : decode prog_12_method_38_code 119 = .ok (.iload 5, 2) := by decide +kernel
theorem d_Mo_leadFrom_121 : decode prog_12_method_38_code 121 = .ok (.iadd, 1) := by decide +kernel
theorem d_Mo_leadFrom_122 : decode prog_12_method_38_code 122 = .ok (.aload_n 0, 1) := by decide +kernel
theorem d_Mo_leadFrom_123 : decode prog_12_method_38_code 123 = .ok (.getfield 13, 3) := by decide +kernel
theorem d_Mo_leadFrom_126 : decode prog_12_method_38_code 126 = .ok (.iconst 1, 1) := by decide +kernel
theorem d_Mo_leadFrom_127 : decode prog_12_method_38_code 127 = .ok (.iaload, 1) := by decide +kernel
theorem d_Mo_leadFrom_128 : decode prog_12_method_38_code 128 = .ok (.if_icmp .gt 31, 3) := by decide +kernel
theorem d_Mo_leadFrom_131 : decode prog_12_method_38_code 131 = .ok (.aload_n 0, 1) := by decide +kernel
theorem d_Mo_leadFrom_132 : decode prog_12_method_38_code 132 = .ok (.iload_n 1, 1) := by decide +kernel
theorem d_Mo_leadFrom_133 : decode prog_12_method_38_code 133 = .ok (.iload_n 2, 1) := by decide +kernel
theorem d_Mo_leadFrom_134 : decode prog_12_method_38_code 134 = .ok (.iload 5, 2) := by decide +kernel
theorem d_Mo_leadFrom_136 : decode prog_12_method_38_code 136 = .ok (.iadd, 1) := by decide +kernel
theorem d_Mo_leadFrom_137 : decode prog_12_method_38_code 137 = .ok (.iconst 2, 1) := by decide +kernel
theorem d_Mo_leadFrom_138 : decode prog_12_method_38_code 138 = .ok (.iload 4, 2) := by decide +kernel
theorem d_Mo_leadFrom_140 : decode prog_12_method_38_code 140 = .ok (.aload_n 0, 1) := by decide +kernel
theorem d_Mo_leadFrom_141 : decode prog_12_method_38_code 141 = .ok (.iconst 0, 1) := by decide +kernel
theorem d_Mo_leadFrom_142 : decode prog_12_method_38_code 142 = .ok (.iload_n 1, 1) := by decide +kernel
theorem d_Mo_leadFrom_143 : decode prog_12_method_38_code 143 = .ok (.iload_n 2, 1) := by decide +kernel
theorem d_Mo_leadFrom_144 : decode prog_12_method_38_code 144 = .ok (.iload 5, 2) := by decide +kernel
theorem d_Mo_leadFrom_146 : decode prog_12_method_38_code 146 = .ok (.invokevirtual 88, 3) := by decide +kernel
theorem d_Mo_leadFrom_149 : decode prog_12_method_38_code 149 = .ok (.isub, 1) := by decide +kernel
theorem d_Mo_leadFrom_150 : decode prog_12_method_38_code 150 = .ok (.invokevirtual 131, 3) := by decide +kernel
theorem d_Mo_leadFrom_153 : decode prog_12_method_38_code 153 = .ok (.iinc 5 1, 3) := by decide +kernel
theorem d_Mo_leadFrom_156 : decode prog_12_method_38_code 156 = .ok (.goto (-43), 3) := by decide +kernel
theorem d_Mo_leadFrom_159 : decode prog_12_method_38_code 159 = .ok (.return_, 1) := by decide +kernel
theorem d_Mo_lead_0 : decode prog_12_method_37_code 0 = .ok (.iload_n 1, 1) := by decide +kernel
theorem d_Mo_lead_1 : decode prog_12_method_37_code 1 = .ok (.iload_n 2, 1) := by decide +kernel
theorem d_Mo_lead_2 : decode prog_12_method_37_code 2 = .ok (.iload_n 3, 1) := by decide +kernel
theorem d_Mo_lead_3 : decode prog_12_method_37_code 3 = .ok (.invokestatic 72, 3) := by decide +kernel
theorem d_Mo_lead_6 : decode prog_12_method_37_code 6 = .ok (.istore 5, 2) := by decide +kernel
theorem d_Mo_lead_8 : decode prog_12_method_37_code 8 = .ok (.aload_n 0, 1) := by decide +kernel
theorem d_Mo_lead_9 : decode prog_12_method_37_code 9 = .ok (.getfield 42, 3) := by decide +kernel
theorem d_Mo_lead_12 : decode prog_12_method_37_code 12 = .ok (.iload 5, 2) := by decide +kernel
theorem d_Mo_lead_14 : decode prog_12_method_37_code 14 = .ok (.iload 4, 2) := by decide +kernel
theorem d_Mo_lead_16 : decode prog_12_method_37_code 16 = .ok (.aload_n 0, 1) := by decide +kernel
theorem d_Mo_lead_17 : decode prog_12_method_37_code 17 = .ok (.getfield 42, 3) := by decide +kernel
theorem d_Mo_lead_20 : decode prog_12_method_37_code 20 = .ok (.iload 5, 2) := by decide +kernel
theorem d_Mo_lead_22 : decode prog_12_method_37_code 22 = .ok (.iaload, 1) := by decide +kernel
theorem d_Mo_lead_23 : decode prog_12_method_37_code 23 = .ok (.if_icmp .le 8, 3) := by decide +kernel
theorem d_Mo_lead_26 : decode prog_12_method_37_code 26 = .ok (.iload 4, 2) := by decide +kernel
theorem d_Mo_lead_28 : decode prog_12_method_37_code 28 = .ok (.goto 10, 3) := by decide +kernel
theorem d_Mo_lead_31 : decode prog_12_method_37_code 31 = .ok (.aload_n 0, 1) := by decide +kernel
theorem d_Mo_lead_32 : decode prog_12_method_37_code 32 = .ok (.getfield 42, 3) := by decide +kernel
theorem d_Mo_lead_35 : decode prog_12_method_37_code 35 = .ok (.iload 5, 2) := by decide +kernel
theorem d_Mo_lead_37 : decode prog_12_method_37_code 37 = .ok (.iaload, 1) := by decide +kernel
theorem d_Mo_lead_38 : decode prog_12_method_37_code 38 = .ok (.iastore, 1) := by decide +kernel
theorem d_Mo_lead_39 : decode prog_12_method_37_code 39 = .ok (.return_, 1) := by decide +kernel
theorem d_Mo_crosses_0 : decode prog_12_method_39_code 0 = .ok (.iconst 0, 1) := by decide +kernel
theorem d_Mo_crosses_1 : decode prog_12_method_39_code 1 = .ok (.istore 4, 2) := by decide +kernel
theorem d_Mo_crosses_3 : decode prog_12_method_39_code 3 = .ok (.iload 4, 2) := by decide +kernel
theorem d_Mo_crosses_5 : decode prog_12_method_39_code 5 = .ok (.iconst 3, 1) := by decide +kernel
theorem d_Mo_crosses_6 : decode prog_12_method_39_code 6 = .ok (.if_icmp .ge 63, 3) := by decide +kernel
theorem d_Mo_crosses_9 : decode prog_12_method_39_code 9 = .ok (.iload_n 1, 1) := by decide +kernel
theorem d_Mo_crosses_10 : decode prog_12_method_39_code 10 = .ok (.iload_n 2, 1) := by decide +kernel
theorem d_Mo_crosses_11 : decode prog_12_method_39_code 11 = .ok (.iload 4, 2) := by decide +kernel
theorem d_Mo_crosses_13 : decode prog_12_method_39_code 13 = .ok (.invokestatic 72, 3) := by decide +kernel
theorem d_Mo_crosses_16 : decode prog_12_method_39_code 16 = .ok (.istore 5, 2) := by decide +kernel
theorem d_Mo_crosses_18 : decode prog_12_method_39_code 18 = .ok (.aload_n 0, 1) := by decide +kernel
theorem d_Mo_crosses_19 : decode prog_12_method_39_code 19 = .ok (.getfield 42, 3) := by decide +kernel
theorem d_Mo_crosses_22 : decode prog_12_method_39_code 22 = .ok (.iload 5, 2) := by decide +kernel
theorem d_Mo_crosses_24 : decode prog_12_method_39_code 24 = .ok (.iaload, 1) := by decide +kernel
theorem d_Mo_crosses_25 : decode prog_12_method_39_code 25 = .ok (.ldc 79, 2) := by decide +kernel
theorem d_Mo_crosses_27 : decode prog_12_method_39_code 27 = .ok (.if_icmp .eq 36, 3) := by decide +kernel
theorem d_Mo_crosses_30 : decode prog_12_method_39_code 30 = .ok (.aload_n 0, 1) := by decide +kernel
theorem d_Mo_crosses_31 : decode prog_12_method_39_code 31 = .ok (.getfield 35, 3) := by decide +kernel
theorem d_Mo_crosses_34 : decode prog_12_method_39_code 34 = .ok (.iload 5, 2) := by decide +kernel
theorem d_Mo_crosses_36 : decode prog_12_method_39_code 36 = .ok (.iaload, 1) := by decide +kernel
theorem d_Mo_crosses_37 : decode prog_12_method_39_code 37 = .ok (.ldc 79, 2) := by decide +kernel
theorem d_Mo_crosses_39 : decode prog_12_method_39_code 39 = .ok (.if_icmp .eq 24, 3) := by decide +kernel
theorem d_Mo_crosses_42 : decode prog_12_method_39_code 42 = .ok (.aload_n 0, 1) := by decide +kernel
theorem d_Mo_crosses_43 : decode prog_12_method_39_code 43 = .ok (.getfield 42, 3) := by decide +kernel
theorem d_Mo_crosses_46 : decode prog_12_method_39_code 46 = .ok (.iload 5, 2) := by decide +kernel
theorem d_Mo_crosses_48 : decode prog_12_method_39_code 48 = .ok (.iaload, 1) := by decide +kernel
theorem d_Mo_crosses_49 : decode prog_12_method_39_code 49 = .ok (.aload_n 0, 1) := by decide +kernel
theorem d_Mo_crosses_50 : decode prog_12_method_39_code 50 = .ok (.getfield 35, 3) := by decide +kernel
theorem d_Mo_crosses_53 : decode prog_12_method_39_code 53 = .ok (.iload 5, 2) := by decide +kernel
theorem d_Mo_crosses_55 : decode prog_12_method_39_code 55 = .ok (.iaload, 1) := by decide +kernel
theorem d_Mo_crosses_56 : decode prog_12_method_39_code 56 = .ok (.iadd, 1) := by decide +kernel
theorem d_Mo_crosses_57 : decode prog_12_method_39_code 57 = .ok (.iload_n 3, 1) := by decide +kernel
theorem d_Mo_crosses_58 : decode prog_12_method_39_code 58 = .ok (.if_icmp .ne 5, 3) := by decide +kernel
theorem d_Mo_crosses_61 : decode prog_12_method_39_code 61 = .ok (.iconst 1, 1) := by decide +kernel
theorem d_Mo_crosses_62 : decode prog_12_method_39_code 62 = .ok (.ireturn, 1) := by decide +kernel
theorem d_Mo_crosses_63 : decode prog_12_method_39_code 63 = .ok (.iinc 4 1, 3) := by decide +kernel
theorem d_Mo_crosses_66 : decode prog_12_method_39_code 66 = .ok (.goto (-63), 3) := by decide +kernel
theorem d_Mo_crosses_69 : decode prog_12_method_39_code 69 = .ok (.aload_n 0, 1) := by decide +kernel
theorem d_Mo_crosses_70 : decode prog_12_method_39_code 70 = .ok (.iload_n 1, 1) := by decide +kernel
theorem d_Mo_crosses_71 : decode prog_12_method_39_code 71 = .ok (.iload_n 2, 1) := by decide +kernel
theorem d_Mo_crosses_72 : decode prog_12_method_39_code 72 = .ok (.iload_n 3, 1) := by decide +kernel
theorem d_Mo_crosses_73 : decode prog_12_method_39_code 73 = .ok (.iconst 1, 1) := by decide +kernel
theorem d_Mo_crosses_74 : decode prog_12_method_39_code 74 = .ok (.invokevirtual 135, 3) := by decide +kernel
theorem d_Mo_crosses_77 : decode prog_12_method_39_code 77 = .ok (.ifCond .ne 14, 3) := by decide +kernel
theorem d_Mo_crosses_80 : decode prog_12_method_39_code 80 = .ok (.aload_n 0, 1) := by decide +kernel
theorem d_Mo_crosses_81 : decode prog_12_method_39_code 81 = .ok (.iload_n 1, 1) := by decide +kernel
theorem d_Mo_crosses_82 : decode prog_12_method_39_code 82 = .ok (.iload_n 2, 1) := by decide +kernel
theorem d_Mo_crosses_83 : decode prog_12_method_39_code 83 = .ok (.iload_n 3, 1) := by decide +kernel
theorem d_Mo_crosses_84 : decode prog_12_method_39_code 84 = .ok (.iconst 0, 1) := by decide +kernel
theorem d_Mo_crosses_85 : decode prog_12_method_39_code 85 = .ok (.invokevirtual 135, 3) := by decide +kernel
theorem d_Mo_crosses_88 : decode prog_12_method_39_code 88 = .ok (.ifCond .eq 7, 3) := by decide +kernel
theorem d_Mo_crosses_91 : decode prog_12_method_39_code 91 = .ok (.iconst 1, 1) := by decide +kernel
theorem d_Mo_crosses_92 : decode prog_12_method_39_code 92 = .ok (.goto 4, 3) := by decide +kernel
theorem d_Mo_crosses_95 : decode prog_12_method_39_code 95 = .ok (.iconst 0, 1) := by decide +kernel
theorem d_Mo_crosses_96 : decode prog_12_method_39_code 96 = .ok (.ireturn, 1) := by decide +kernel
theorem d_Mo_crossesGap_0 : decode prog_12_method_40_code 0 = .ok (.iload 4, 2) := by decide +kernel
theorem d_Mo_crossesGap_2 : decode prog_12_method_40_code 2 = .ok (.ifCond .eq 7, 3) := by decide +kernel
theorem d_Mo_crossesGap_5 : decode prog_12_method_40_code 5 = .ok (.iload_n 1, 1) := by decide +kernel
theorem d_Mo_crossesGap_6 : decode prog_12_method_40_code 6 = .ok (.goto 4, 3) := by decide +kernel
theorem d_Mo_crossesGap_9 : decode prog_12_method_40_code 9 = .ok (.iload_n 2, 1) := by decide +kernel
theorem d_Mo_crossesGap_10 : decode prog_12_method_40_code 10 = .ok (.istore 5, 2) := by decide +kernel
theorem d_Mo_crossesGap_12 : decode prog_12_method_40_code 12 = .ok (.iload 4, 2) := by decide +kernel
theorem d_Mo_crossesGap_14 : decode prog_12_method_40_code 14 = .ok (.ifCond .eq 14, 3) := by decide +kernel
theorem d_Mo_crossesGap_17 : decode prog_12_method_40_code 17 = .ok (.aload_n 0, 1) := by decide +kernel
theorem d_Mo_crossesGap_18 : decode prog_12_method_40_code 18 = .ok (.getfield 13, 3) := by decide +kernel
theorem d_Mo_crossesGap_21 : decode prog_12_method_40_code 21 = .ok (.iconst 0, 1) := by decide +kernel
theorem d_Mo_crossesGap_22 : decode prog_12_method_40_code 22 = .ok (.iaload, 1) := by decide +kernel
theorem d_Mo_crossesGap_23 : decode prog_12_method_40_code 23 = .ok (.iload_n 1, 1) := by decide +kernel
theorem d_Mo_crossesGap_24 : decode prog_12_method_40_code 24 = .ok (.isub, 1) := by decide +kernel
theorem d_Mo_crossesGap_25 : decode prog_12_method_40_code 25 = .ok (.goto 11, 3) := by decide +kernel
theorem d_Mo_crossesGap_28 : decode prog_12_method_40_code 28 = .ok (.aload_n 0, 1) := by decide +kernel
theorem d_Mo_crossesGap_29 : decode prog_12_method_40_code 29 = .ok (.getfield 13, 3) := by decide +kernel
theorem d_Mo_crossesGap_32 : decode prog_12_method_40_code 32 = .ok (.iconst 1, 1) := by decide +kernel
theorem d_Mo_crossesGap_33 : decode prog_12_method_40_code 33 = .ok (.iaload, 1) := by decide +kernel
theorem d_Mo_crossesGap_34 : decode prog_12_method_40_code 34 = .ok (.iload_n 2, 1) := by decide +kernel
theorem d_Mo_crossesGap_35 : decode prog_12_method_40_code 35 = .ok (.isub, 1) := by decide +kernel
theorem d_Mo_crossesGap_36 : decode prog_12_method_40_code 36 = .ok (.istore 6, 2) := by decide +kernel
theorem d_Mo_crossesGap_38 : decode prog_12_method_40_code 38 = .ok (.iconst 1, 1) := by decide +kernel
theorem d_Mo_crossesGap_39 : decode prog_12_method_40_code 39 = .ok (.istore 7, 2) := by decide +kernel
theorem d_Mo_crossesGap_41 : decode prog_12_method_40_code 41 = .ok (.iload 7, 2) := by decide +kernel
theorem d_Mo_crossesGap_43 : decode prog_12_method_40_code 43 = .ok (.iload 5, 2) := by decide +kernel
theorem d_Mo_crossesGap_45 : decode prog_12_method_40_code 45 = .ok (.if_icmp .gt 201, 3) := by decide +kernel
theorem d_Mo_crossesGap_48 : decode prog_12_method_40_code 48 = .ok (.iconst 1, 1) := by decide +kernel
theorem d_Mo_crossesGap_49 : decode prog_12_method_40_code 49 = .ok (.istore 8, 2) := by decide +kernel
theorem d_Mo_crossesGap_51 : decode prog_12_method_40_code 51 = .ok (.iload 8, 2) := by decide +kernel
theorem d_Mo_crossesGap_53 : decode prog_12_method_40_code 53 = .ok (.iload 6, 2) := by decide +kernel
theorem d_Mo_crossesGap_55 : decode prog_12_method_40_code 55 = .ok (.if_icmp .gt 185, 3) := by decide +kernel
theorem d_Mo_crossesGap_58 : decode prog_12_method_40_code 58 = .ok (.iload 4, 2) := by decide +kernel
theorem d_Mo_crossesGap_60 : decode prog_12_method_40_code 60 = .ok (.ifCond .eq 10, 3) := by decide +kernel
theorem d_Mo_crossesGap_63 : decode prog_12_method_40_code 63 = .ok (.iload_n 1, 1) := by decide +kernel
theorem d_Mo_crossesGap_64 : decode prog_12_method_40_code 64 = .ok (.iload 7, 2) := by decide +kernel
theorem d_Mo_crossesGap_66 : decode prog_12_method_40_code 66 = .ok (.isub, 1) := by decide +kernel
theorem d_Mo_crossesGap_67 : decode prog_12_method_40_code 67 = .ok (.goto 4, 3) := by decide +kernel
theorem d_Mo_crossesGap_70 : decode prog_12_method_40_code 70 = .ok (.iload_n 1, 1) := by decide +kernel
theorem d_Mo_crossesGap_71 : decode prog_12_method_40_code 71 = .ok (.istore 9, 2) := by decide +kernel
theorem d_Mo_crossesGap_73 : decode prog_12_method_40_code 73 = .ok (.iload 4, 2) := by decide +kernel
theorem d_Mo_crossesGap_75 : decode prog_12_method_40_code 75 = .ok (.ifCond .eq 7, 3) := by decide +kernel
theorem d_Mo_crossesGap_78 : decode prog_12_method_40_code 78 = .ok (.iload_n 2, 1) := by decide +kernel
theorem d_Mo_crossesGap_79 : decode prog_12_method_40_code 79 = .ok (.goto 7, 3) := by decide +kernel
theorem d_Mo_crossesGap_82 : decode prog_12_method_40_code 82 = .ok (.iload_n 2, 1) := by decide +kernel
theorem d_Mo_crossesGap_83 : decode prog_12_method_40_code 83 = .ok (.iload 7, 2) := by decide +kernel
theorem d_Mo_crossesGap_85 : decode prog_12_method_40_code 85 = .ok (.isub, 1) := by decide +kernel
theorem d_Mo_crossesGap_86 : decode prog_12_method_40_code 86 = .ok (.istore 10, 2) := by decide +kernel
theorem d_Mo_crossesGap_88 : decode prog_12_method_40_code 88 = .ok (.iload 4, 2) := by decide +kernel
theorem d_Mo_crossesGap_90 : decode prog_12_method_40_code 90 = .ok (.ifCond .eq 15, 3) := by decide +kernel
theorem d_Mo_crossesGap_93 : decode prog_12_method_40_code 93 = .ok (.iload_n 1, 1) := by decide +kernel
theorem d_Mo_crossesGap_94 : decode prog_12_method_40_code 94 = .ok (.iload 8, 2) := by decide +kernel
theorem d_Mo_crossesGap_96 : decode prog_12_method_40_code 96 = .ok (.iadd, 1) := by decide +kernel
theorem d_Mo_crossesGap_97 : decode prog_12_method_40_code 97 = .ok (.iload_n 2, 1) := by decide +kernel
theorem d_Mo_crossesGap_98 : decode prog_12_method_40_code 98 = .ok (.iconst 1, 1) := by decide +kernel
theorem d_Mo_crossesGap_99 : decode prog_12_method_40_code 99 = .ok (.invokestatic 72, 3) := by decide +kernel
theorem d_Mo_crossesGap_102 : decode prog_12_method_40_code 102 = .ok (.goto 12, 3) := by decide +kernel
theorem d_Mo_crossesGap_105 : decode prog_12_method_40_code 105 = .ok (.iload_n 1, 1) := by decide +kernel
theorem d_Mo_crossesGap_106 : decode prog_12_method_40_code 106 = .ok (.iload_n 2, 1) := by decide +kernel
theorem d_Mo_crossesGap_107 : decode prog_12_method_40_code 107 = .ok (.iload 8, 2) := by decide +kernel
theorem d_Mo_crossesGap_109 : decode prog_12_method_40_code 109 = .ok (.iadd, 1) := by decide +kernel
theorem d_Mo_crossesGap_110 : decode prog_12_method_40_code 110 = .ok (.iconst 2, 1) := by decide +kernel
theorem d_Mo_crossesGap_111 : decode prog_12_method_40_code 111 = .ok (.invokestatic 72, 3) := by decide +kernel
theorem d_Mo_crossesGap_114 : decode prog_12_method_40_code 114 = .ok (.istore 11, 2) := by decide +kernel
theorem d_Mo_crossesGap_116 : decode prog_12_method_40_code 116 = .ok (.aload_n 0, 1) := by decide +kernel
theorem d_Mo_crossesGap_117 : decode prog_12_method_40_code 117 = .ok (.iload 4, 2) := by decide +kernel
theorem d_Mo_crossesGap_119 : decode prog_12_method_40_code 119 = .ok (.iload 9, 2) := by decide +kernel
theorem d_Mo_crossesGap_121 : decode prog_12_method_40_code 121 = .ok (.iload 10, 2) := by decide +kernel
theorem d_Mo_crossesGap_123 : decode prog_12_method_40_code 123 = .ok (.iload 7, 2) := by decide +kernel
theorem d_Mo_crossesGap_125 : decode prog_12_method_40_code 125 = .ok (.iload 8, 2) := by decide +kernel
theorem d_Mo_crossesGap_127 : decode prog_12_method_40_code 127 = .ok (.iadd, 1) := by decide +kernel
theorem d_Mo_crossesGap_128 : decode prog_12_method_40_code 128 = .ok (.invokevirtual 88, 3) := by decide +kernel
theorem d_Mo_crossesGap_131 : decode prog_12_method_40_code 131 = .ok (.istore 12, 2) := by decide +kernel
theorem d_Mo_crossesGap_133 : decode prog_12_method_40_code 133 = .ok (.iconst 0, 1) := by decide +kernel
theorem d_Mo_crossesGap_134 : decode prog_12_method_40_code 134 = .ok (.istore 13, 2) := by decide +kernel
theorem d_Mo_crossesGap_136 : decode prog_12_method_40_code 136 = .ok (.iload 13, 2) := by decide +kernel
theorem d_Mo_crossesGap_138 : decode prog_12_method_40_code 138 = .ok (.iconst 3, 1) := by decide +kernel
theorem d_Mo_crossesGap_139 : decode prog_12_method_40_code 139 = .ok (.if_icmp .ge 95, 3) := by decide +kernel
theorem d_Mo_crossesGap_142 : decode prog_12_method_40_code 142 = .ok (.iload 9, 2) := by decide +kernel
theorem d_Mo_crossesGap_144 : decode prog_12_method_40_code 144 = .ok (.iload 10, 2) := by decide +kernel
theorem d_Mo_crossesGap_146 : decode prog_12_method_40_code 146 = .ok (.iload 13, 2) := by decide +kernel
theorem d_Mo_crossesGap_148 : decode prog_12_method_40_code 148 = .ok (.invokestatic 72, 3) := by decide +kernel
theorem d_Mo_crossesGap_151 : decode prog_12_method_40_code 151 = .ok (.istore 14, 2) := by decide +kernel
theorem d_Mo_crossesGap_153 : decode prog_12_method_40_code 153 = .ok (.iload 13, 2) := by decide +kernel
theorem d_Mo_crossesGap_155 : decode prog_12_method_40_code 155 = .ok (.iload 4, 2) := by decide +kernel
theorem d_Mo_crossesGap_157 : decode prog_12_method_40_code 157 = .ok (.ifCond .eq 7, 3) := by decide +kernel
theorem d_Mo_crossesGap_160 : decode prog_12_method_40_code 160 = .ok (.iconst 1, 1) := by decide +kernel
theorem d_Mo_crossesGap_161 : decode prog_12_method_40_code 161 = .ok (.goto 4, 3) := by decide +kernel
theorem d_Mo_crossesGap_164 : decode prog_12_method_40_code 164 = .ok (.iconst 2, 1) := by decide +kernel
theorem d_Mo_crossesGap_165 : decode prog_12_method_40_code 165 = .ok (.if_icmp .eq 31, 3) := by decide +kernel
theorem d_Mo_crossesGap_168 : decode prog_12_method_40_code 168 = .ok (.aload_n 0, 1) := by decide +kernel
theorem d_Mo_crossesGap_169 : decode prog_12_method_40_code 169 = .ok (.getfield 42, 3) := by decide +kernel
theorem d_Mo_crossesGap_172 : decode prog_12_method_40_code 172 = .ok (.iload 14, 2) := by decide +kernel
theorem d_Mo_crossesGap_174 : decode prog_12_method_40_code 174 = .ok (.iaload, 1) := by decide +kernel
theorem d_Mo_crossesGap_175 : decode prog_12_method_40_code 175 = .ok (.ldc 79, 2) := by decide +kernel
theorem d_Mo_crossesGap_177 : decode prog_12_method_40_code 177 = .ok (.if_icmp .eq 19, 3) := by decide +kernel
theorem d_Mo_crossesGap_180 : decode prog_12_method_40_code 180 = .ok (.aload_n 0, 1) := by decide +kernel
theorem d_Mo_crossesGap_181 : decode prog_12_method_40_code 181 = .ok (.getfield 35, 3) := by decide +kernel
theorem d_Mo_crossesGap_184 : decode prog_12_method_40_code 184 = .ok (.iload 11, 2) := by decide +kernel
theorem d_Mo_crossesGap_186 : decode prog_12_method_40_code 186 = .ok (.iaload, 1) := by decide +kernel
theorem d_Mo_crossesGap_187 : decode prog_12_method_40_code 187 = .ok (.ldc 79, 2) := by decide +kernel
theorem d_Mo_crossesGap_189 : decode prog_12_method_40_code 189 = .ok (.if_icmp .eq 7, 3) := by decide +kernel
theorem d_Mo_crossesGap_192 : decode prog_12_method_40_code 192 = .ok (.iconst 1, 1) := by decide +kernel
theorem d_Mo_crossesGap_193 : decode prog_12_method_40_code 193 = .ok (.goto 4, 3) := by decide +kernel
theorem d_Mo_crossesGap_196 : decode prog_12_method_40_code 196 = .ok (.iconst 0, 1) := by decide +kernel
theorem d_Mo_crossesGap_197 : decode prog_12_method_40_code 197 = .ok (.istore 15, 2) := by decide +kernel
theorem d_Mo_crossesGap_199 : decode prog_12_method_40_code 199 = .ok (.iload 15, 2) := by decide +kernel
theorem d_Mo_crossesGap_201 : decode prog_12_method_40_code 201 = .ok (.ifCond .eq 27, 3) := by decide +kernel
theorem d_Mo_crossesGap_204 : decode prog_12_method_40_code 204 = .ok (.aload_n 0, 1) := by decide +kernel
theorem d_Mo_crossesGap_205 : decode prog_12_method_40_code 205 = .ok (.getfield 42, 3) := by decide +kernel
theorem d_Mo_crossesGap_208 : decode prog_12_method_40_code 208 = .ok (.iload 14, 2) := by decide +kernel
theorem d_Mo_crossesGap_210 : decode prog_12_method_40_code 210 = .ok (.iaload, 1) := by decide +kernel
theorem d_Mo_crossesGap_211 : decode prog_12_method_40_code 211 = .ok (.iload 12, 2) := by decide +kernel
theorem d_Mo_crossesGap_213 : decode prog_12_method_40_code 213 = .ok (.isub, 1) := by decide +kernel
theorem d_Mo_crossesGap_214 : decode prog_12_method_40_code 214 = .ok (.aload_n 0, 1) := by decide +kernel
theorem d_Mo_crossesGap_215 : decode prog_12_method_40_code 215 = .ok (.getfield 35, 3) := by decide +kernel
theorem d_Mo_crossesGap_218 : decode prog_12_method_40_code 218 = .ok (.iload 11, 2) := by decide +kernel
theorem d_Mo_crossesGap_220 : decode prog_12_method_40_code 220 = .ok (.iaload, 1) := by decide +kernel
theorem d_Mo_crossesGap_221 : decode prog_12_method_40_code 221 = .ok (.iadd, 1) := by decide +kernel
theorem d_Mo_crossesGap_222 : decode prog_12_method_40_code 222 = .ok (.iload_n 3, 1) := by decide +kernel
theorem d_Mo_crossesGap_223 : decode prog_12_method_40_code 223 = .ok (.if_icmp .ne 5, 3) := by decide +kernel
theorem d_Mo_crossesGap_226 : decode prog_12_method_40_code 226 = .ok (.iconst 1, 1) := by decide +kernel
theorem d_Mo_crossesGap_227 : decode prog_12_method_40_code 227 = .ok (.ireturn, 1) := by decide +kernel
theorem d_Mo_crossesGap_228 : decode prog_12_method_40_code 228 = .ok (.iinc 13 1, 3) := by decide +kernel
theorem d_Mo_crossesGap_231 : decode prog_12_method_40_code 231 = .ok (.goto (-95), 3) := by decide +kernel
theorem d_Mo_crossesGap_234 : decode prog_12_method_40_code 234 = .ok (.iinc 8 1, 3) := by decide +kernel
theorem d_Mo_crossesGap_237 : decode prog_12_method_40_code 237 = .ok (.goto (-186), 3) := by decide +kernel
theorem d_Mo_crossesGap_240 : decode prog_12_method_40_code 240 = .ok (.iinc 7 1, 3) := by decide +kernel
theorem d_Mo_crossesGap_243 : decode prog_12_method_40_code 243 = .ok (.goto (-202), 3) := by decide +kernel
theorem d_Mo_crossesGap_246 : decode prog_12_method_40_code 246 = .ok (.iconst 0, 1) := by decide +kernel
theorem d_Mo_crossesGap_247 : decode prog_12_method_40_code 247 = .ok (.ireturn, 1) := by decide +kernel
theorem d_Mo_draw_0 : decode prog_12_method_42_code 0 = .ok (.aload_n 0, 1) := by decide +kernel
theorem d_Mo_draw_1 : decode prog_12_method_42_code 1 = .ok (.iload_n 1, 1) := by decide +kernel
theorem d_Mo_draw_2 : decode prog_12_method_42_code 2 = .ok (.iconst 0, 1) := by decide +kernel
theorem d_Mo_draw_3 : decode prog_12_method_42_code 3 = .ok (.iconst 2, 1) := by decide +kernel
theorem d_Mo_draw_4 : decode prog_12_method_42_code 4 = .ok (.invokestatic 65, 3) := by decide +kernel
theorem d_Mo_draw_7 : decode prog_12_method_42_code 7 = .ok (.ifCond .ne 7, 3) := by decide +kernel
theorem d_Mo_draw_10 : decode prog_12_method_42_code 10 = .ok (.iconst 1, 1) := by decide +kernel
theorem d_Mo_draw_11 : decode prog_12_method_42_code 11 = .ok (.goto 18, 3) := by decide +kernel
theorem d_Mo_draw_14 : decode prog_12_method_42_code 14 = .ok (.aload_n 0, 1) := by decide +kernel
theorem d_Mo_draw_15 : decode prog_12_method_42_code 15 = .ok (.getfield 145, 3) := by decide +kernel
theorem d_Mo_draw_18 : decode prog_12_method_42_code 18 = .ok (.sipush 200, 3) := by decide +kernel
theorem d_Mo_draw_21 : decode prog_12_method_42_code 21 = .ok (.if_icmp .ne 7, 3) := by decide +kernel
theorem d_Mo_draw_24 : decode prog_12_method_42_code 24 = .ok (.iconst 2, 1) := by decide +kernel
theorem d_Mo_draw_25 : decode prog_12_method_42_code 25 = .ok (.goto 4, 3) := by decide +kernel
theorem d_Mo_draw_28 : decode prog_12_method_42_code 28 = .ok (.iconst 0, 1) := by decide +kernel
theorem d_Mo_draw_29 : decode prog_12_method_42_code 29 = .ok (.putfield 52, 3) := by decide +kernel
theorem d_Mo_draw_32 : decode prog_12_method_42_code 32 = .ok (.aload_n 0, 1) := by decide +kernel
theorem d_Mo_draw_33 : decode prog_12_method_42_code 33 = .ok (.getfield 52, 3) := by decide +kernel
theorem d_Mo_draw_36 : decode prog_12_method_42_code 36 = .ok (.ifCond .le 5, 3) := by decide +kernel
theorem d_Mo_draw_39 : decode prog_12_method_42_code 39 = .ok (.iconst 0, 1) := by decide +kernel
theorem d_Mo_draw_40 : decode prog_12_method_42_code 40 = .ok (.ireturn, 1) := by decide +kernel
theorem d_Mo_draw_41 : decode prog_12_method_42_code 41 = .ok (.aload_n 0, 1) := by decide +kernel
theorem d_Mo_draw_42 : decode prog_12_method_42_code 42 = .ok (.getfield 45, 3) := by decide +kernel
theorem d_Mo_draw_45 : decode prog_12_method_42_code 45 = .ok (.aload_n 0, 1) := by decide +kernel
theorem d_Mo_draw_46 : decode prog_12_method_42_code 46 = .ok (.getfield 145, 3) := by decide +kernel
theorem d_Mo_draw_49 : decode prog_12_method_42_code 49 = .ok (.iload_n 1, 1) := by decide +kernel
theorem d_Mo_draw_50 : decode prog_12_method_42_code 50 = .ok (.iastore, 1) := by decide +kernel
theorem d_Mo_draw_51 : decode prog_12_method_42_code 51 = .ok (.aload_n 0, 1) := by decide +kernel
theorem d_Mo_draw_52 : decode prog_12_method_42_code 52 = .ok (.dup, 1) := by decide +kernel
theorem d_Mo_draw_53 : decode prog_12_method_42_code 53 = .ok (.getfield 145, 3) := by decide +kernel
theorem d_Mo_draw_56 : decode prog_12_method_42_code 56 = .ok (.iconst 1, 1) := by decide +kernel
theorem d_Mo_draw_57 : decode prog_12_method_42_code 57 = .ok (.iadd, 1) := by decide +kernel
theorem d_Mo_draw_58 : decode prog_12_method_42_code 58 = .ok (.putfield 145, 3) := by decide +kernel
theorem d_Mo_draw_61 : decode prog_12_method_42_code 61 = .ok (.aload_n 0, 1) := by decide +kernel
theorem d_Mo_draw_62 : decode prog_12_method_42_code 62 = .ok (.getfield 145, 3) := by decide +kernel
theorem d_Mo_draw_65 : decode prog_12_method_42_code 65 = .ok (.ireturn, 1) := by decide +kernel
theorem d_Mo_wipe_0 : decode prog_12_method_43_code 0 = .ok (.aload_n 0, 1) := by decide +kernel
theorem d_Mo_wipe_1 : decode prog_12_method_43_code 1 = .ok (.iconst 0, 1) := by decide +kernel
theorem d_Mo_wipe_2 : decode prog_12_method_43_code 2 = .ok (.putfield 52, 3) := by decide +kernel
theorem d_Mo_wipe_5 : decode prog_12_method_43_code 5 = .ok (.aload_n 0, 1) := by decide +kernel
theorem d_Mo_wipe_6 : decode prog_12_method_43_code 6 = .ok (.getfield 145, 3) := by decide +kernel
theorem d_Mo_wipe_9 : decode prog_12_method_43_code 9 = .ok (.istore_n 1, 1) := by decide +kernel
theorem d_Mo_wipe_10 : decode prog_12_method_43_code 10 = .ok (.aload_n 0, 1) := by decide +kernel
theorem d_Mo_wipe_11 : decode prog_12_method_43_code 11 = .ok (.iconst 0, 1) := by decide +kernel
theorem d_Mo_wipe_12 : decode prog_12_method_43_code 12 = .ok (.putfield 145, 3) := by decide +kernel
theorem d_Mo_wipe_15 : decode prog_12_method_43_code 15 = .ok (.iload_n 1, 1) := by decide +kernel
theorem d_Mo_wipe_16 : decode prog_12_method_43_code 16 = .ok (.ireturn, 1) := by decide +kernel
theorem d_Mo_worth_0 : decode prog_12_method_44_code 0 = .ok (.aload_n 0, 1) := by decide +kernel
theorem d_Mo_worth_1 : decode prog_12_method_44_code 1 = .ok (.iload_n 1, 1) := by decide +kernel
theorem d_Mo_worth_2 : decode prog_12_method_44_code 2 = .ok (.iconst 0, 1) := by decide +kernel
theorem d_Mo_worth_3 : decode prog_12_method_44_code 3 = .ok (.bipush 15, 2) := by decide +kernel
theorem d_Mo_worth_5 : decode prog_12_method_44_code 5 = .ok (.invokestatic 65, 3) := by decide +kernel
theorem d_Mo_worth_8 : decode prog_12_method_44_code 8 = .ok (.ifCond .eq 7, 3) := by decide +kernel
theorem d_Mo_worth_11 : decode prog_12_method_44_code 11 = .ok (.iconst 0, 1) := by decide +kernel
theorem d_Mo_worth_12 : decode prog_12_method_44_code 12 = .ok (.goto 4, 3) := by decide +kernel
theorem d_Mo_worth_15 : decode prog_12_method_44_code 15 = .ok (.iconst 1, 1) := by decide +kernel
theorem d_Mo_worth_16 : decode prog_12_method_44_code 16 = .ok (.putfield 52, 3) := by decide +kernel
theorem d_Mo_worth_19 : decode prog_12_method_44_code 19 = .ok (.aload_n 0, 1) := by decide +kernel
theorem d_Mo_worth_20 : decode prog_12_method_44_code 20 = .ok (.getfield 52, 3) := by decide +kernel
theorem d_Mo_worth_23 : decode prog_12_method_44_code 23 = .ok (.ifCond .le 5, 3) := by decide +kernel
theorem d_Mo_worth_26 : decode prog_12_method_44_code 26 = .ok (.iconst 0, 1) := by decide +kernel
theorem d_Mo_worth_27 : decode prog_12_method_44_code 27 = .ok (.ireturn, 1) := by decide +kernel
theorem d_Mo_worth_28 : decode prog_12_method_44_code 28 = .ok (.aload_n 0, 1) := by decide +kernel
theorem d_Mo_worth_29 : decode prog_12_method_44_code 29 = .ok (.getfield 69, 3) := by decide +kernel
theorem d_Mo_worth_32 : decode prog_12_method_44_code 32 = .ok (.istore_n 2, 1) := by decide +kernel
theorem d_Mo_worth_33 : decode prog_12_method_44_code 33 = .ok (.aload_n 0, 1) := by decide +kernel
theorem d_Mo_worth_34 : decode prog_12_method_44_code 34 = .ok (.iload_n 1, 1) := by decide +kernel
theorem d_Mo_worth_35 : decode prog_12_method_44_code 35 = .ok (.putfield 69, 3) := by decide +kernel
theorem d_Mo_worth_38 : decode prog_12_method_44_code 38 = .ok (.iconst 0, 1) := by decide +kernel
theorem d_Mo_worth_39 : decode prog_12_method_44_code 39 = .ok (.istore_n 3, 1) := by decide +kernel
theorem d_Mo_worth_40 : decode prog_12_method_44_code 40 = .ok (.iconst 0, 1) := by decide +kernel
theorem d_Mo_worth_41 : decode prog_12_method_44_code 41 = .ok (.istore 4, 2) := by decide +kernel
theorem d_Mo_worth_43 : decode prog_12_method_44_code 43 = .ok (.iconst 0, 1) := by decide +kernel
theorem d_Mo_worth_44 : decode prog_12_method_44_code 44 = .ok (.istore 5, 2) := by decide +kernel
theorem d_Mo_worth_46 : decode prog_12_method_44_code 46 = .ok (.iconst 0, 1) := by decide +kernel
theorem d_Mo_worth_47 : decode prog_12_method_44_code 47 = .ok (.istore 6, 2) := by decide +kernel
theorem d_Mo_worth_49 : decode prog_12_method_44_code 49 = .ok (.iconst 1, 1) := by decide +kernel
theorem d_Mo_worth_50 : decode prog_12_method_44_code 50 = .ok (.istore 7, 2) := by decide +kernel
theorem d_Mo_worth_52 : decode prog_12_method_44_code 52 = .ok (.iload 6, 2) := by decide +kernel
theorem d_Mo_worth_54 : decode prog_12_method_44_code 54 = .ok (.aload_n 0, 1) := by decide +kernel
theorem d_Mo_worth_55 : decode prog_12_method_44_code 55 = .ok (.getfield 145, 3) := by decide +kernel
theorem d_Mo_worth_58 : decode prog_12_method_44_code 58 = .ok (.if_icmp .ge 225, 3) := by decide +kernel
theorem d_Mo_worth_61 : decode prog_12_method_44_code 61 = .ok (.iload 7, 2) := by decide +kernel
theorem d_Mo_worth_63 : decode prog_12_method_44_code 63 = .ok (.ifCond .eq 220, 3) := by decide +kernel
theorem d_Mo_worth_66 : decode prog_12_method_44_code 66 = .ok (.iconst 1, 1) := by decide +kernel
theorem d_Mo_worth_67 : decode prog_12_method_44_code 67 = .ok (.istore 8, 2) := by decide +kernel
theorem d_Mo_worth_69 : decode prog_12_method_44_code 69 = .ok (.aload_n 0, 1) := by decide +kernel
theorem d_Mo_worth_70 : decode prog_12_method_44_code 70 = .ok (.getfield 45, 3) := by decide +kernel
theorem d_Mo_worth_73 : decode prog_12_method_44_code 73 = .ok (.iload 6, 2) := by decide +kernel
theorem d_Mo_worth_75 : decode prog_12_method_44_code 75 = .ok (.iaload, 1) := by decide +kernel
theorem d_Mo_worth_76 : decode prog_12_method_44_code 76 = .ok (.ifCond .eq 41, 3) := by decide +kernel
theorem d_Mo_worth_79 : decode prog_12_method_44_code 79 = .ok (.iload 6, 2) := by decide +kernel
theorem d_Mo_worth_81 : decode prog_12_method_44_code 81 = .ok (.iload 8, 2) := by decide +kernel
theorem d_Mo_worth_83 : decode prog_12_method_44_code 83 = .ok (.iadd, 1) := by decide +kernel
theorem d_Mo_worth_84 : decode prog_12_method_44_code 84 = .ok (.aload_n 0, 1) := by decide +kernel
theorem d_Mo_worth_85 : decode prog_12_method_44_code 85 = .ok (.getfield 145, 3) := by decide +kernel
theorem d_Mo_worth_88 : decode prog_12_method_44_code 88 = .ok (.if_icmp .ge 29, 3) := by decide +kernel
theorem d_Mo_worth_91 : decode prog_12_method_44_code 91 = .ok (.aload_n 0, 1) := by decide +kernel
theorem d_Mo_worth_92 : decode prog_12_method_44_code 92 = .ok (.getfield 45, 3) := by decide +kernel
theorem d_Mo_worth_95 : decode prog_12_method_44_code 95 = .ok (.iload 6, 2) := by decide +kernel
theorem d_Mo_worth_97 : decode prog_12_method_44_code 97 = .ok (.iload 8, 2) := by decide +kernel
theorem d_Mo_worth_99 : decode prog_12_method_44_code 99 = .ok (.iadd, 1) := by decide +kernel
theorem d_Mo_worth_100 : decode prog_12_method_44_code 100 = .ok (.iaload, 1) := by decide +kernel
theorem d_Mo_worth_101 : decode prog_12_method_44_code 101 = .ok (.aload_n 0, 1) := by decide +kernel
theorem d_Mo_worth_102 : decode prog_12_method_44_code 102 = .ok (.getfield 45, 3) := by decide +kernel
theorem d_Mo_worth_105 : decode prog_12_method_44_code 105 = .ok (.iload 6, 2) := by decide +kernel
theorem d_Mo_worth_107 : decode prog_12_method_44_code 107 = .ok (.iaload, 1) := by decide +kernel
theorem d_Mo_worth_108 : decode prog_12_method_44_code 108 = .ok (.if_icmp .ne 9, 3) := by decide +kernel
theorem d_Mo_worth_111 : decode prog_12_method_44_code 111 = .ok (.iinc 8 1, 3) := by decide +kernel
theorem d_Mo_worth_114 : decode prog_12_method_44_code 114 = .ok (.goto (-45), 3) := by decide +kernel
theorem d_Mo_worth_117 : decode prog_12_method_44_code 117 = .ok (.aload_n 0, 1) := by decide +kernel
theorem d_Mo_worth_118 : decode prog_12_method_44_code 118 = .ok (.getfield 45, 3) := by decide +kernel
theorem d_Mo_worth_121 : decode prog_12_method_44_code 121 = .ok (.iload 6, 2) := by decide +kernel
theorem d_Mo_worth_123 : decode prog_12_method_44_code 123 = .ok (.iaload, 1) := by decide +kernel
theorem d_Mo_worth_124 : decode prog_12_method_44_code 124 = .ok (.iconst 1, 1) := by decide +kernel
theorem d_Mo_worth_125 : decode prog_12_method_44_code 125 = .ok (.if_icmp .ne 7, 3) := by decide +kernel
theorem d_Mo_worth_128 : decode prog_12_method_44_code 128 = .ok (.iconst 1, 1) := by decide +kernel
theorem d_Mo_worth_129 : decode prog_12_method_44_code 129 = .ok (.goto 4, 3) := by decide +kernel
theorem d_Mo_worth_132 : decode prog_12_method_44_code 132 = .ok (.iconst 0, 1) := by decide +kernel
theorem d_Mo_worth_133 : decode prog_12_method_44_code 133 = .ok (.istore 9, 2) := by decide +kernel
theorem d_Mo_worth_135 : decode prog_12_method_44_code 135 = .ok (.aload_n 0, 1) := by decide +kernel
theorem d_Mo_worth_136 : decode prog_12_method_44_code 136 = .ok (.getfield 45, 3) := by decide +kernel
theorem d_Mo_worth_139 : decode prog_12_method_44_code 139 = .ok (.iload 6, 2) := by decide +kernel
theorem d_Mo_worth_141 : decode prog_12_method_44_code 141 = .ok (.iaload, 1) := by decide +kernel
theorem d_Mo_worth_142 : decode prog_12_method_44_code 142 = .ok (.iconst 2, 1) := by decide +kernel
theorem d_Mo_worth_143 : decode prog_12_method_44_code 143 = .ok (.if_icmp .ne 7, 3) := by decide +kernel
theorem d_Mo_worth_146 : decode prog_12_method_44_code 146 = .ok (.iload_n 3, 1) := by decide +kernel
theorem d_Mo_worth_147 : decode prog_12_method_44_code 147 = .ok (.goto 7, 3) := by decide +kernel
theorem d_Mo_worth_150 : decode prog_12_method_44_code 150 = .ok (.iload_n 3, 1) := by decide +kernel
theorem d_Mo_worth_151 : decode prog_12_method_44_code 151 = .ok (.iload 8, 2) := by decide +kernel
theorem d_Mo_worth_153 : decode prog_12_method_44_code 153 = .ok (.iadd, 1) := by decide +kernel
theorem d_Mo_worth_154 : decode prog_12_method_44_code 154 = .ok (.aload_n 0, 1) := by decide +kernel
theorem d_Mo_worth_155 : decode prog_12_method_44_code 155 = .ok (.getfield 13, 3) := by decide +kernel
theorem d_Mo_worth_158 : decode prog_12_method_44_code 158 = .ok (.iconst 0, 1) := by decide +kernel
theorem d_Mo_worth_159 : decode prog_12_method_44_code 159 = .ok (.iaload, 1) := by decide +kernel
theorem d_Mo_worth_160 : decode prog_12_method_44_code 160 = .ok (.if_icmp .gt 31, 3) := by decide +kernel
theorem d_Mo_worth_163 : decode prog_12_method_44_code 163 = .ok (.iload 9, 2) := by decide +kernel
theorem d_Mo_worth_165 : decode prog_12_method_44_code 165 = .ok (.ifCond .eq 8, 3) := by decide +kernel
theorem d_Mo_worth_168 : decode prog_12_method_44_code 168 = .ok (.iload 4, 2) := by decide +kernel
theorem d_Mo_worth_170 : decode prog_12_method_44_code 170 = .ok (.goto 8, 3) := by decide +kernel
theorem d_Mo_worth_173 : decode prog_12_method_44_code 173 = .ok (.iload 4, 2) := by decide +kernel
theorem d_Mo_worth_175 : decode prog_12_method_44_code 175 = .ok (.iload 8, 2) := by decide +kernel
theorem d_Mo_worth_177 : decode prog_12_method_44_code 177 = .ok (.iadd, 1) := by decide +kernel
theorem d_Mo_worth_178 : decode prog_12_method_44_code 178 = .ok (.aload_n 0, 1) := by decide +kernel
theorem d_Mo_worth_179 : decode prog_12_method_44_code 179 = .ok (.getfield 13, 3) := by decide +kernel
theorem d_Mo_worth_182 : decode prog_12_method_44_code 182 = .ok (.iconst 1, 1) := by decide +kernel
theorem d_Mo_worth_183 : decode prog_12_method_44_code 183 = .ok (.iaload, 1) := by decide +kernel
theorem d_Mo_worth_184 : decode prog_12_method_44_code 184 = .ok (.if_icmp .gt 7, 3) := by decide +kernel
theorem d_Mo_worth_187 : decode prog_12_method_44_code 187 = .ok (.iconst 1, 1) := by decide +kernel
theorem d_Mo_worth_188 : decode prog_12_method_44_code 188 = .ok (.goto 4, 3) := by decide +kernel
theorem d_Mo_worth_191 : decode prog_12_method_44_code 191 = .ok (.iconst 0, 1) := by decide +kernel
theorem d_Mo_worth_192 : decode prog_12_method_44_code 192 = .ok (.istore 7, 2) := by decide +kernel
theorem d_Mo_worth_194 : decode prog_12_method_44_code 194 = .ok (.iload 7, 2) := by decide +kernel
theorem d_Mo_worth_196 : decode prog_12_method_44_code 196 = .ok (.ifCond .eq 40, 3) := by decide +kernel
theorem d_Mo_worth_199 : decode prog_12_method_44_code 199 = .ok (.iload 5, 2) := by decide +kernel
theorem d_Mo_worth_201 : decode prog_12_method_44_code 201 = .ok (.aload_n 0, 1) := by decide +kernel
theorem d_Mo_worth_202 : decode prog_12_method_44_code 202 = .ok (.getfield 45, 3) := by decide +kernel
theorem d_Mo_worth_205 : decode prog_12_method_44_code 205 = .ok (.iload 6, 2) := by decide +kernel
theorem d_Mo_worth_207 : decode prog_12_method_44_code 207 = .ok (.iaload, 1) := by decide +kernel
theorem d_Mo_worth_208 : decode prog_12_method_44_code 208 = .ok (.ifCond .ne 13, 3) := by decide +kernel
theorem d_Mo_worth_211 : decode prog_12_method_44_code 211 = .ok (.aload_n 0, 1) := by decide +kernel
theorem d_Mo_worth_212 : decode prog_12_method_44_code 212 = .ok (.iload_n 3, 1) := by decide +kernel
theorem d_Mo_worth_213 : decode prog_12_method_44_code 213 = .ok (.iload 4, 2) := by decide +kernel
theorem d_Mo_worth_215 : decode prog_12_method_44_code 215 = .ok (.invokevirtual 80, 3) := by decide +kernel
theorem d_Mo_worth_218 : decode prog_12_method_44_code 218 = .ok (.goto 15, 3) := by decide +kernel
theorem d_Mo_worth_221 : decode prog_12_method_44_code 221 = .ok (.aload_n 0, 1) := by decide +kernel
theorem d_Mo_worth_222 : decode prog_12_method_44_code 222 = .ok (.iload 9, 2) := by decide +kernel
theorem d_Mo_worth_224 : decode prog_12_method_44_code 224 = .ok (.iload_n 3, 1) := by decide +kernel
theorem d_Mo_worth_225 : decode prog_12_method_44_code 225 = .ok (.iload 4, 2) := by decide +kernel
theorem d_Mo_worth_227 : decode prog_12_method_44_code 227 = .ok (.iload 8, 2) := by decide +kernel
theorem d_Mo_worth_229 : decode prog_12_method_44_code 229 = .ok (.invokevirtual 88, 3) := by decide +kernel
theorem d_Mo_worth_232 : decode prog_12_method_44_code 232 = .ok (.ineg, 1) := by decide +kernel
theorem d_Mo_worth_233 : decode prog_12_method_44_code 233 = .ok (.iadd, 1) := by decide +kernel
theorem d_Mo_worth_234 : decode prog_12_method_44_code 234 = .ok (.istore 5, 2) := by decide +kernel
theorem d_Mo_worth_236 : decode prog_12_method_44_code 236 = .ok (.aload_n 0, 1) := by decide +kernel
theorem d_Mo_worth_237 : decode prog_12_method_44_code 237 = .ok (.getfield 45, 3) := by decide +kernel
theorem d_Mo_worth_240 : decode prog_12_method_44_code 240 = .ok (.iload 6, 2) := by decide +kernel
theorem d_Mo_worth_242 : decode prog_12_method_44_code 242 = .ok (.iaload, 1) := by decide +kernel
theorem d_Mo_worth_243 : decode prog_12_method_44_code 243 = .ok (.iconst 2, 1) := by decide +kernel
theorem d_Mo_worth_244 : decode prog_12_method_44_code 244 = .ok (.if_icmp .ne 7, 3) := by decide +kernel
theorem d_Mo_worth_247 : decode prog_12_method_44_code 247 = .ok (.iload_n 3, 1) := by decide +kernel
theorem d_Mo_worth_248 : decode prog_12_method_44_code 248 = .ok (.goto 7, 3) := by decide +kernel
theorem d_Mo_worth_251 : decode prog_12_method_44_code 251 = .ok (.iload_n 3, 1) := by decide +kernel
theorem d_Mo_worth_252 : decode prog_12_method_44_code 252 = .ok (.iload 8, 2) := by decide +kernel
theorem d_Mo_worth_254 : decode prog_12_method_44_code 254 = .ok (.iadd, 1) := by decide +kernel
theorem d_Mo_worth_255 : decode prog_12_method_44_code 255 = .ok (.istore_n 3, 1) := by decide +kernel
theorem d_Mo_worth_256 : decode prog_12_method_44_code 256 = .ok (.iload 9, 2) := by decide +kernel
theorem d_Mo_worth_258 : decode prog_12_method_44_code 258 = .ok (.ifCond .eq 8, 3) := by decide +kernel
theorem d_Mo_worth_261 : decode prog_12_method_44_code 261 = .ok (.iload 4, 2) := by decide +kernel
theorem d_Mo_worth_263 : decode prog_12_method_44_code 263 = .ok (.goto 8, 3) := by decide +kernel
theorem d_Mo_worth_266 : decode prog_12_method_44_code 266 = .ok (.iload 4, 2) := by decide +kernel
theorem d_Mo_worth_268 : decode prog_12_method_44_code 268 = .ok (.iload 8, 2) := by decide +kernel
theorem d_Mo_worth_270 : decode prog_12_method_44_code 270 = .ok (.iadd, 1) := by decide +kernel
theorem d_Mo_worth_271 : decode prog_12_method_44_code 271 = .ok (.istore 4, 2) := by decide +kernel
theorem d_Mo_worth_273 : decode prog_12_method_44_code 273 = .ok (.iload 6, 2) := by decide +kernel
theorem d_Mo_worth_275 : decode prog_12_method_44_code 275 = .ok (.iload 8, 2) := by decide +kernel
theorem d_Mo_worth_277 : decode prog_12_method_44_code 277 = .ok (.iadd, 1) := by decide +kernel
theorem d_Mo_worth_278 : decode prog_12_method_44_code 278 = .ok (.istore 6, 2) := by decide +kernel
theorem d_Mo_worth_280 : decode prog_12_method_44_code 280 = .ok (.goto (-228), 3) := by decide +kernel
theorem d_Mo_worth_283 : decode prog_12_method_44_code 283 = .ok (.aload_n 0, 1) := by decide +kernel
theorem d_Mo_worth_284 : decode prog_12_method_44_code 284 = .ok (.iload_n 2, 1) := by decide +kernel
theorem d_Mo_worth_285 : decode prog_12_method_44_code 285 = .ok (.putfield 69, 3) := by decide +kernel
theorem d_Mo_worth_288 : decode prog_12_method_44_code 288 = .ok (.iload 7, 2) := by decide +kernel
theorem d_Mo_worth_290 : decode prog_12_method_44_code 290 = .ok (.ifCond .eq 29, 3) := by decide +kernel
theorem d_Mo_worth_293 : decode prog_12_method_44_code 293 = .ok (.iload_n 3, 1) := by decide +kernel
theorem d_Mo_worth_294 : decode prog_12_method_44_code 294 = .ok (.aload_n 0, 1) := by decide +kernel
theorem d_Mo_worth_295 : decode prog_12_method_44_code 295 = .ok (.getfield 13, 3) := by decide +kernel
theorem d_Mo_worth_298 : decode prog_12_method_44_code 298 = .ok (.iconst 0, 1) := by decide +kernel
theorem d_Mo_worth_299 : decode prog_12_method_44_code 299 = .ok (.iaload, 1) := by decide +kernel
theorem d_Mo_worth_300 : decode prog_12_method_44_code 300 = .ok (.if_icmp .ne 19, 3) := by decide +kernel
theorem d_Mo_worth_303 : decode prog_12_method_44_code 303 = .ok (.iload 4, 2) := by decide +kernel
theorem d_Mo_worth_305 : decode prog_12_method_44_code 305 = .ok (.aload_n 0, 1) := by decide +kernel
theorem d_Mo_worth_306 : decode prog_12_method_44_code 306 = .ok (.getfield 13, 3) := by decide +kernel
theorem d_Mo_worth_309 : decode prog_12_method_44_code 309 = .ok (.iconst 1, 1) := by decide +kernel
theorem d_Mo_worth_310 : decode prog_12_method_44_code 310 = .ok (.iaload, 1) := by decide +kernel
theorem d_Mo_worth_311 : decode prog_12_method_44_code 311 = .ok (.if_icmp .ne 8, 3) := by decide +kernel
theorem d_Mo_worth_314 : decode prog_12_method_44_code 314 = .ok (.iload 5, 2) := by decide +kernel
theorem d_Mo_worth_316 : decode prog_12_method_44_code 316 = .ok (.goto 5, 3) := by decide +kernel
theorem d_Mo_worth_319 : decode prog_12_method_44_code 319 = .ok (.ldc 148, 2) := by decide +kernel
theorem d_Mo_worth_321 : decode prog_12_method_44_code 321 = .ok (.ireturn, 1) := by decide +kernel
