theorem dL_cell_0 : decode cL_cell 0 = .ok (.iload_n 1, 1) := by decide +kernel
theorem dL_cell_1 : decode cL_cell 1 = .ok (.aload_n 0, 1) := by decide +kernel
theorem dL_cell_2 : decode cL_cell 2 = .ok (.arraylength, 1) := by decide +kernel
theorem dL_cell_3 : decode cL_cell 3 = .ok (.if_icmp .ge 9, 3) := by decide +kernel
theorem dL_cell_6 : decode cL_cell 6 = .ok (.aload_n 0, 1) := by decide +kernel
theorem dL_cell_7 : decode cL_cell 7 = .ok (.iload_n 1, 1) := by decide +kernel
theorem dL_cell_8 : decode cL_cell 8 = .ok (.iaload, 1) := by decide +kernel
theorem dL_cell_9 : decode cL_cell 9 = .ok (.goto 13, 3) := by decide +kernel
theorem dL_cell_12 : decode cL_cell 12 = .ok (.ldc 7, 2) := by decide +kernel
theorem dL_cell_14 : decode cL_cell 14 = .ok (.iload_n 1, 1) := by decide +kernel
theorem dL_cell_15 : decode cL_cell 15 = .ok (.bipush 23, 2) := by decide +kernel
theorem dL_cell_17 : decode cL_cell 17 = .ok (.iadd, 1) := by decide +kernel
theorem dL_cell_18 : decode cL_cell 18 = .ok (.imul, 1) := by decide +kernel
theorem dL_cell_19 : decode cL_cell 19 = .ok (.ldc 8, 2) := by decide +kernel
theorem dL_cell_21 : decode cL_cell 21 = .ok (.iadd, 1) := by decide +kernel
theorem dL_cell_22 : decode cL_cell 22 = .ok (.ireturn, 1) := by decide +kernel
theorem dL_low_0 : decode cL_low 0 = .ok (.iload_n 0, 1) := by decide +kernel
theorem dL_low_1 : decode cL_low 1 = .ok (.ldc 9, 2) := by decide +kernel
theorem dL_low_3 : decode cL_low 3 = .ok (.iand, 1) := by decide +kernel
theorem dL_low_4 : decode cL_low 4 = .ok (.iload_n 1, 1) := by decide +kernel
theorem dL_low_5 : decode cL_low 5 = .ok (.irem, 1) := by decide +kernel
theorem dL_low_6 : decode cL_low 6 = .ok (.ireturn, 1) := by decide +kernel
theorem dL_calls_0 : decode cL_calls 0 = .ok (.iload_n 1, 1) := by decide +kernel
theorem dL_calls_1 : decode cL_calls 1 = .ok (.ifCond .ne 16, 3) := by decide +kernel
theorem dL_calls_4 : decode cL_calls 4 = .ok (.aload_n 0, 1) := by decide +kernel
theorem dL_calls_5 : decode cL_calls 5 = .ok (.iload_n 2, 1) := by decide +kernel
theorem dL_calls_6 : decode cL_calls 6 = .ok (.iload_n 3, 1) := by decide +kernel
theorem dL_calls_7 : decode cL_calls 7 = .ok (.iload 4, 2) := by decide +kernel
theorem dL_calls_9 : decode cL_calls 9 = .ok (.iload 5, 2) := by decide +kernel
theorem dL_calls_11 : decode cL_calls 11 = .ok (.invokevirtual 10, 3) := by decide +kernel
theorem dL_calls_14 : decode cL_calls 14 = .ok (.goto 192, 3) := by decide +kernel
theorem dL_calls_17 : decode cL_calls 17 = .ok (.iload_n 1, 1) := by decide +kernel
theorem dL_calls_18 : decode cL_calls 18 = .ok (.iconst 1, 1) := by decide +kernel
theorem dL_calls_19 : decode cL_calls 19 = .ok (.if_icmp .ne 16, 3) := by decide +kernel
theorem dL_calls_22 : decode cL_calls 22 = .ok (.aload_n 0, 1) := by decide +kernel
theorem dL_calls_23 : decode cL_calls 23 = .ok (.iload_n 2, 1) := by decide +kernel
theorem dL_calls_24 : decode cL_calls 24 = .ok (.iload_n 3, 1) := by decide +kernel
theorem dL_calls_25 : decode cL_calls 25 = .ok (.iload 4, 2) := by decide +kernel
theorem dL_calls_27 : decode cL_calls 27 = .ok (.iload 5, 2) := by decide +kernel
theorem dL_calls_29 : decode cL_calls 29 = .ok (.invokevirtual 16, 3) := by decide +kernel
theorem dL_calls_32 : decode cL_calls 32 = .ok (.goto 174, 3) := by decide +kernel
theorem dL_calls_35 : decode cL_calls 35 = .ok (.iload_n 1, 1) := by decide +kernel
theorem dL_calls_36 : decode cL_calls 36 = .ok (.iconst 2, 1) := by decide +kernel
theorem dL_calls_37 : decode cL_calls 37 = .ok (.if_icmp .ne 16, 3) := by decide +kernel
theorem dL_calls_40 : decode cL_calls 40 = .ok (.aload_n 0, 1) := by decide +kernel
theorem dL_calls_41 : decode cL_calls 41 = .ok (.iload_n 2, 1) := by decide +kernel
theorem dL_calls_42 : decode cL_calls 42 = .ok (.iload_n 3, 1) := by decide +kernel
theorem dL_calls_43 : decode cL_calls 43 = .ok (.iload 4, 2) := by decide +kernel
theorem dL_calls_45 : decode cL_calls 45 = .ok (.iload 5, 2) := by decide +kernel
theorem dL_calls_47 : decode cL_calls 47 = .ok (.invokevirtual 19, 3) := by decide +kernel
theorem dL_calls_50 : decode cL_calls 50 = .ok (.goto 156, 3) := by decide +kernel
theorem dL_calls_53 : decode cL_calls 53 = .ok (.iload_n 1, 1) := by decide +kernel
theorem dL_calls_54 : decode cL_calls 54 = .ok (.iconst 3, 1) := by decide +kernel
theorem dL_calls_55 : decode cL_calls 55 = .ok (.if_icmp .ne 16, 3) := by decide +kernel
theorem dL_calls_58 : decode cL_calls 58 = .ok (.aload_n 0, 1) := by decide +kernel
theorem dL_calls_59 : decode cL_calls 59 = .ok (.iload_n 2, 1) := by decide +kernel
theorem dL_calls_60 : decode cL_calls 60 = .ok (.iload_n 3, 1) := by decide +kernel
theorem dL_calls_61 : decode cL_calls 61 = .ok (.iload 4, 2) := by decide +kernel
theorem dL_calls_63 : decode cL_calls 63 = .ok (.iload 5, 2) := by decide +kernel
theorem dL_calls_65 : decode cL_calls 65 = .ok (.invokevirtual 22, 3) := by decide +kernel
theorem dL_calls_68 : decode cL_calls 68 = .ok (.goto 138, 3) := by decide +kernel
theorem dL_calls_71 : decode cL_calls 71 = .ok (.iload_n 1, 1) := by decide +kernel
theorem dL_calls_72 : decode cL_calls 72 = .ok (.iconst 4, 1) := by decide +kernel
theorem dL_calls_73 : decode cL_calls 73 = .ok (.if_icmp .ne 14, 3) := by decide +kernel
theorem dL_calls_76 : decode cL_calls 76 = .ok (.aload_n 0, 1) := by decide +kernel
theorem dL_calls_77 : decode cL_calls 77 = .ok (.iload_n 2, 1) := by decide +kernel
theorem dL_calls_78 : decode cL_calls 78 = .ok (.iload_n 3, 1) := by decide +kernel
theorem dL_calls_79 : decode cL_calls 79 = .ok (.iload 4, 2) := by decide +kernel
theorem dL_calls_81 : decode cL_calls 81 = .ok (.invokevirtual 25, 3) := by decide +kernel
theorem dL_calls_84 : decode cL_calls 84 = .ok (.goto 122, 3) := by decide +kernel
theorem dL_calls_87 : decode cL_calls 87 = .ok (.iload_n 1, 1) := by decide +kernel
theorem dL_calls_88 : decode cL_calls 88 = .ok (.iconst 5, 1) := by decide +kernel
theorem dL_calls_89 : decode cL_calls 89 = .ok (.if_icmp .ne 14, 3) := by decide +kernel
theorem dL_calls_92 : decode cL_calls 92 = .ok (.aload_n 0, 1) := by decide +kernel
theorem dL_calls_93 : decode cL_calls 93 = .ok (.iload_n 2, 1) := by decide +kernel
theorem dL_calls_94 : decode cL_calls 94 = .ok (.iload_n 3, 1) := by decide +kernel
theorem dL_calls_95 : decode cL_calls 95 = .ok (.iload 4, 2) := by decide +kernel
theorem dL_calls_97 : decode cL_calls 97 = .ok (.invokevirtual 29, 3) := by decide +kernel
theorem dL_calls_100 : decode cL_calls 100 = .ok (.goto 106, 3) := by decide +kernel
theorem dL_calls_103 : decode cL_calls 103 = .ok (.iload_n 1, 1) := by decide +kernel
theorem dL_calls_104 : decode cL_calls 104 = .ok (.bipush 7, 2) := by decide +kernel
theorem dL_calls_106 : decode cL_calls 106 = .ok (.if_icmp .ne 14, 3) := by decide +kernel
theorem dL_calls_109 : decode cL_calls 109 = .ok (.aload_n 0, 1) := by decide +kernel
theorem dL_calls_110 : decode cL_calls 110 = .ok (.iload_n 2, 1) := by decide +kernel
theorem dL_calls_111 : decode cL_calls 111 = .ok (.iload_n 3, 1) := by decide +kernel
theorem dL_calls_112 : decode cL_calls 112 = .ok (.iload 4, 2) := by decide +kernel
theorem dL_calls_114 : decode cL_calls 114 = .ok (.invokevirtual 32, 3) := by decide +kernel
theorem dL_calls_117 : decode cL_calls 117 = .ok (.goto 89, 3) := by decide +kernel
theorem dL_calls_120 : decode cL_calls 120 = .ok (.iload_n 1, 1) := by decide +kernel
theorem dL_calls_121 : decode cL_calls 121 = .ok (.bipush 8, 2) := by decide +kernel
theorem dL_calls_123 : decode cL_calls 123 = .ok (.if_icmp .ne 12, 3) := by decide +kernel
theorem dL_calls_126 : decode cL_calls 126 = .ok (.aload_n 0, 1) := by decide +kernel
theorem dL_calls_127 : decode cL_calls 127 = .ok (.iload_n 2, 1) := by decide +kernel
theorem dL_calls_128 : decode cL_calls 128 = .ok (.iload_n 3, 1) := by decide +kernel
theorem dL_calls_129 : decode cL_calls 129 = .ok (.invokevirtual 35, 3) := by decide +kernel
theorem dL_calls_132 : decode cL_calls 132 = .ok (.goto 74, 3) := by decide +kernel
theorem dL_calls_135 : decode cL_calls 135 = .ok (.iload_n 1, 1) := by decide +kernel
theorem dL_calls_136 : decode cL_calls 136 = .ok (.bipush 9, 2) := by decide +kernel
theorem dL_calls_138 : decode cL_calls 138 = .ok (.if_icmp .ne 12, 3) := by decide +kernel
theorem dL_calls_141 : decode cL_calls 141 = .ok (.aload_n 0, 1) := by decide +kernel
theorem dL_calls_142 : decode cL_calls 142 = .ok (.iload_n 2, 1) := by decide +kernel
theorem dL_calls_143 : decode cL_calls 143 = .ok (.iload_n 3, 1) := by decide +kernel
theorem dL_calls_144 : decode cL_calls 144 = .ok (.invokevirtual 39, 3) := by decide +kernel
theorem dL_calls_147 : decode cL_calls 147 = .ok (.goto 59, 3) := by decide +kernel
theorem dL_calls_150 : decode cL_calls 150 = .ok (.iload_n 1, 1) := by decide +kernel
theorem dL_calls_151 : decode cL_calls 151 = .ok (.bipush 10, 2) := by decide +kernel
theorem dL_calls_153 : decode cL_calls 153 = .ok (.if_icmp .ne 14, 3) := by decide +kernel
theorem dL_calls_156 : decode cL_calls 156 = .ok (.aload_n 0, 1) := by decide +kernel
theorem dL_calls_157 : decode cL_calls 157 = .ok (.iload_n 2, 1) := by decide +kernel
theorem dL_calls_158 : decode cL_calls 158 = .ok (.iload_n 3, 1) := by decide +kernel
theorem dL_calls_159 : decode cL_calls 159 = .ok (.iload 4, 2) := by decide +kernel
theorem dL_calls_161 : decode cL_calls 161 = .ok (.invokevirtual 42, 3) := by decide +kernel
theorem dL_calls_164 : decode cL_calls 164 = .ok (.goto 42, 3) := by decide +kernel
theorem dL_calls_167 : decode cL_calls 167 = .ok (.iload_n 1, 1) := by decide +kernel
theorem dL_calls_168 : decode cL_calls 168 = .ok (.bipush 11, 2) := by decide +kernel
theorem dL_calls_170 : decode cL_calls 170 = .ok (.if_icmp .ne 14, 3) := by decide +kernel
theorem dL_calls_173 : decode cL_calls 173 = .ok (.aload_n 0, 1) := by decide +kernel
theorem dL_calls_174 : decode cL_calls 174 = .ok (.iload_n 2, 1) := by decide +kernel
theorem dL_calls_175 : decode cL_calls 175 = .ok (.iload_n 3, 1) := by decide +kernel
theorem dL_calls_176 : decode cL_calls 176 = .ok (.iload 4, 2) := by decide +kernel
theorem dL_calls_178 : decode cL_calls 178 = .ok (.invokevirtual 45, 3) := by decide +kernel
theorem dL_calls_181 : decode cL_calls 181 = .ok (.goto 25, 3) := by decide +kernel
theorem dL_calls_184 : decode cL_calls 184 = .ok (.iload_n 1, 1) := by decide +kernel
theorem dL_calls_185 : decode cL_calls 185 = .ok (.bipush 12, 2) := by decide +kernel
theorem dL_calls_187 : decode cL_calls 187 = .ok (.if_icmp .ne 14, 3) := by decide +kernel
theorem dL_calls_190 : decode cL_calls 190 = .ok (.aload_n 0, 1) := by decide +kernel
theorem dL_calls_191 : decode cL_calls 191 = .ok (.iload_n 2, 1) := by decide +kernel
theorem dL_calls_192 : decode cL_calls 192 = .ok (.iload_n 3, 1) := by decide +kernel
theorem dL_calls_193 : decode cL_calls 193 = .ok (.iload 4, 2) := by decide +kernel
theorem dL_calls_195 : decode cL_calls 195 = .ok (.invokevirtual 48, 3) := by decide +kernel
theorem dL_calls_198 : decode cL_calls 198 = .ok (.goto 8, 3) := by decide +kernel
theorem dL_calls_201 : decode cL_calls 201 = .ok (.aload_n 0, 1) := by decide +kernel
theorem dL_calls_202 : decode cL_calls 202 = .ok (.iload_n 2, 1) := by decide +kernel
theorem dL_calls_203 : decode cL_calls 203 = .ok (.invokevirtual 51, 3) := by decide +kernel
theorem dL_calls_206 : decode cL_calls 206 = .ok (.ireturn, 1) := by decide +kernel
theorem dL_calls_207 : decode cL_calls 207 = .ok (.astore 6, 2) := by decide +kernel
theorem dL_calls_209 : decode cL_calls 209 = .ok (.bipush (-9), 2) := by decide +kernel
theorem dL_calls_211 : decode cL_calls 211 = .ok (.ireturn, 1) := by decide +kernel
theorem dL_calls_212 : decode cL_calls 212 = .ok (.astore 6, 2) := by decide +kernel
theorem dL_calls_214 : decode cL_calls 214 = .ok (.bipush (-7), 2) := by decide +kernel
theorem dL_calls_216 : decode cL_calls 216 = .ok (.ireturn, 1) := by decide +kernel
theorem dL_rules_0 : decode cL_rules 0 = .ok (.aload_n 0, 1) := by decide +kernel
theorem dL_rules_1 : decode cL_rules 1 = .ok (.iload_n 1, 1) := by decide +kernel
theorem dL_rules_2 : decode cL_rules 2 = .ok (.iload_n 2, 1) := by decide +kernel
theorem dL_rules_3 : decode cL_rules 3 = .ok (.iload_n 3, 1) := by decide +kernel
theorem dL_rules_4 : decode cL_rules 4 = .ok (.iload 4, 2) := by decide +kernel
theorem dL_rules_6 : decode cL_rules 6 = .ok (.iload 5, 2) := by decide +kernel
theorem dL_rules_8 : decode cL_rules 8 = .ok (.iload 6, 2) := by decide +kernel
theorem dL_rules_10 : decode cL_rules 10 = .ok (.invokevirtual 59, 3) := by decide +kernel
theorem dL_rules_13 : decode cL_rules 13 = .ok (.ireturn, 1) := by decide +kernel
theorem dL_rules_14 : decode cL_rules 14 = .ok (.astore 7, 2) := by decide +kernel
theorem dL_rules_16 : decode cL_rules 16 = .ok (.bipush (-9), 2) := by decide +kernel
theorem dL_rules_18 : decode cL_rules 18 = .ok (.ireturn, 1) := by decide +kernel
theorem dL_rules_19 : decode cL_rules 19 = .ok (.astore 7, 2) := by decide +kernel
theorem dL_rules_21 : decode cL_rules 21 = .ok (.bipush (-7), 2) := by decide +kernel
theorem dL_rules_23 : decode cL_rules 23 = .ok (.ireturn, 1) := by decide +kernel
theorem dL_known_0 : decode cL_known 0 = .ok (.aload_n 3, 1) := by decide +kernel
theorem dL_known_1 : decode cL_known 1 = .ok (.iload_n 1, 1) := by decide +kernel
theorem dL_known_2 : decode cL_known 2 = .ok (.iaload, 1) := by decide +kernel
theorem dL_known_3 : decode cL_known 3 = .ok (.aload 4, 2) := by decide +kernel
theorem dL_known_5 : decode cL_known 5 = .ok (.bipush 20, 2) := by decide +kernel
theorem dL_known_7 : decode cL_known 7 = .ok (.iload_n 0, 1) := by decide +kernel
theorem dL_known_8 : decode cL_known 8 = .ok (.imul, 1) := by decide +kernel
theorem dL_known_9 : decode cL_known 9 = .ok (.aload_n 2, 1) := by decide +kernel
theorem dL_known_10 : decode cL_known 10 = .ok (.iload_n 1, 1) := by decide +kernel
theorem dL_known_11 : decode cL_known 11 = .ok (.iaload, 1) := by decide +kernel
theorem dL_known_12 : decode cL_known 12 = .ok (.iconst 4, 1) := by decide +kernel
theorem dL_known_13 : decode cL_known 13 = .ok (.irem, 1) := by decide +kernel
theorem dL_known_14 : decode cL_known 14 = .ok (.iadd, 1) := by decide +kernel
theorem dL_known_15 : decode cL_known 15 = .ok (.iaload, 1) := by decide +kernel
theorem dL_known_16 : decode cL_known 16 = .ok (.if_icmp .ge 7, 3) := by decide +kernel
theorem dL_known_19 : decode cL_known 19 = .ok (.iconst 1, 1) := by decide +kernel
theorem dL_known_20 : decode cL_known 20 = .ok (.goto 4, 3) := by decide +kernel
theorem dL_known_23 : decode cL_known 23 = .ok (.iconst 0, 1) := by decide +kernel
theorem dL_known_24 : decode cL_known 24 = .ok (.ireturn, 1) := by decide +kernel
theorem dL_match_0 : decode cL_match 0 = .ok (.aload_n 2, 1) := by decide +kernel
theorem dL_match_1 : decode cL_match 1 = .ok (.bipush 13, 2) := by decide +kernel
theorem dL_match_3 : decode cL_match 3 = .ok (.iload_n 0, 1) := by decide +kernel
theorem dL_match_4 : decode cL_match 4 = .ok (.iadd, 1) := by decide +kernel
theorem dL_match_5 : decode cL_match 5 = .ok (.iaload, 1) := by decide +kernel
theorem dL_match_6 : decode cL_match 6 = .ok (.iconst 1, 1) := by decide +kernel
theorem dL_match_7 : decode cL_match 7 = .ok (.if_icmp .le 17, 3) := by decide +kernel
theorem dL_match_10 : decode cL_match 10 = .ok (.ldc2_w 63, 3) := by decide +kernel
theorem dL_match_13 : decode cL_match 13 = .ok (.iload_n 1, 1) := by decide +kernel
theorem dL_match_14 : decode cL_match 14 = .ok (.bipush 10, 2) := by decide +kernel
theorem dL_match_16 : decode cL_match 16 = .ok (.idiv, 1) := by decide +kernel
theorem dL_match_17 : decode cL_match 17 = .ok (.bipush 10, 2) := by decide +kernel
theorem dL_match_19 : decode cL_match 19 = .ok (.imul, 1) := by decide +kernel
theorem dL_match_20 : decode cL_match 20 = .ok (.lshl, 1) := by decide +kernel
theorem dL_match_21 : decode cL_match 21 = .ok (.goto 6, 3) := by decide +kernel
theorem dL_match_24 : decode cL_match 24 = .ok (.lconst 1, 1) := by decide +kernel
theorem dL_match_25 : decode cL_match 25 = .ok (.iload_n 1, 1) := by decide +kernel
theorem dL_match_26 : decode cL_match 26 = .ok (.lshl, 1) := by decide +kernel
theorem dL_match_27 : decode cL_match 27 = .ok (.lreturn, 1) := by decide +kernel
theorem dL_put_0 : decode cL_put 0 = .ok (.iconst 3, 1) := by decide +kernel
theorem dL_put_1 : decode cL_put 1 = .ok (.iload_n 0, 1) := by decide +kernel
theorem dL_put_2 : decode cL_put 2 = .ok (.imul, 1) := by decide +kernel
theorem dL_put_3 : decode cL_put 3 = .ok (.iload_n 1, 1) := by decide +kernel
theorem dL_put_4 : decode cL_put 4 = .ok (.iadd, 1) := by decide +kernel
theorem dL_put_5 : decode cL_put 5 = .ok (.istore 5, 2) := by decide +kernel
theorem dL_put_7 : decode cL_put 7 = .ok (.aload 4, 2) := by decide +kernel
theorem dL_put_9 : decode cL_put 9 = .ok (.iload 5, 2) := by decide +kernel
theorem dL_put_11 : decode cL_put 11 = .ok (.aload_n 3, 1) := by decide +kernel
theorem dL_put_12 : decode cL_put 12 = .ok (.bipush 13, 2) := by decide +kernel
theorem dL_put_14 : decode cL_put 14 = .ok (.iload_n 1, 1) := by decide +kernel
theorem dL_put_15 : decode cL_put 15 = .ok (.iadd, 1) := by decide +kernel
theorem dL_put_16 : decode cL_put 16 = .ok (.iaload, 1) := by decide +kernel
theorem dL_put_17 : decode cL_put 17 = .ok (.iconst 2, 1) := by decide +kernel
theorem dL_put_18 : decode cL_put 18 = .ok (.irem, 1) := by decide +kernel
theorem dL_put_19 : decode cL_put 19 = .ok (.iconst 1, 1) := by decide +kernel
theorem dL_put_20 : decode cL_put 20 = .ok (.if_icmp .ne 7, 3) := by decide +kernel
theorem dL_put_23 : decode cL_put 23 = .ok (.lconst 0, 1) := by decide +kernel
theorem dL_put_24 : decode cL_put 24 = .ok (.goto 19, 3) := by decide +kernel
theorem dL_put_27 : decode cL_put 27 = .ok (.aload 4, 2) := by decide +kernel
theorem dL_put_29 : decode cL_put 29 = .ok (.iload 5, 2) := by decide +kernel
theorem dL_put_31 : decode cL_put 31 = .ok (.laload, 1) := by decide +kernel
theorem dL_put_32 : decode cL_put 32 = .ok (.iload_n 1, 1) := by decide +kernel
theorem dL_put_33 : decode cL_put 33 = .ok (.iload_n 2, 1) := by decide +kernel
theorem dL_put_34 : decode cL_put 34 = .ok (.aload_n 3, 1) := by decide +kernel
theorem dL_put_35 : decode cL_put 35 = .ok (.invokestatic 65, 3) := by decide +kernel
theorem dL_put_38 : decode cL_put 38 = .ok (.ldc2_w 71, 3) := by decide +kernel
theorem dL_put_41 : decode cL_put 41 = .ok (.lxor, 1) := by decide +kernel
theorem dL_put_42 : decode cL_put 42 = .ok (.land, 1) := by decide +kernel
theorem dL_put_43 : decode cL_put 43 = .ok (.lastore, 1) := by decide +kernel
theorem dL_put_44 : decode cL_put 44 = .ok (.aload 4, 2) := by decide +kernel
theorem dL_put_46 : decode cL_put 46 = .ok (.iload 5, 2) := by decide +kernel
theorem dL_put_48 : decode cL_put 48 = .ok (.dup2, 1) := by decide +kernel
theorem dL_put_49 : decode cL_put 49 = .ok (.laload, 1) := by decide +kernel
theorem dL_put_50 : decode cL_put 50 = .ok (.lconst 1, 1) := by decide +kernel
theorem dL_put_51 : decode cL_put 51 = .ok (.iload_n 2, 1) := by decide +kernel
theorem dL_put_52 : decode cL_put 52 = .ok (.lshl, 1) := by decide +kernel
theorem dL_put_53 : decode cL_put 53 = .ok (.lor, 1) := by decide +kernel
theorem dL_put_54 : decode cL_put 54 = .ok (.lastore, 1) := by decide +kernel
theorem dL_put_55 : decode cL_put 55 = .ok (.return_, 1) := by decide +kernel
theorem dL_lays_0 : decode cL_lays 0 = .ok (.iconst 0, 1) := by decide +kernel
theorem dL_lays_1 : decode cL_lays 1 = .ok (.istore 11, 2) := by decide +kernel
theorem dL_lays_3 : decode cL_lays 3 = .ok (.iload 11, 2) := by decide +kernel
theorem dL_lays_5 : decode cL_lays 5 = .ok (.bipush 12, 2) := by decide +kernel
theorem dL_lays_7 : decode cL_lays 7 = .ok (.if_icmp .ge 74, 3) := by decide +kernel
theorem dL_lays_10 : decode cL_lays 10 = .ok (.aload 9, 2) := by decide +kernel
theorem dL_lays_12 : decode cL_lays 12 = .ok (.iconst 3, 1) := by decide +kernel
theorem dL_lays_13 : decode cL_lays 13 = .ok (.iload 11, 2) := by decide +kernel
theorem dL_lays_15 : decode cL_lays 15 = .ok (.imul, 1) := by decide +kernel
theorem dL_lays_16 : decode cL_lays 16 = .ok (.iload 11, 2) := by decide +kernel
theorem dL_lays_18 : decode cL_lays 18 = .ok (.ifCond .ne 7, 3) := by decide +kernel
theorem dL_lays_21 : decode cL_lays 21 = .ok (.iconst 1, 1) := by decide +kernel
theorem dL_lays_22 : decode cL_lays 22 = .ok (.goto 4, 3) := by decide +kernel
theorem dL_lays_25 : decode cL_lays 25 = .ok (.iconst 0, 1) := by decide +kernel
theorem dL_lays_26 : decode cL_lays 26 = .ok (.iastore, 1) := by decide +kernel
theorem dL_lays_27 : decode cL_lays 27 = .ok (.aload 9, 2) := by decide +kernel
theorem dL_lays_29 : decode cL_lays 29 = .ok (.iconst 3, 1) := by decide +kernel
theorem dL_lays_30 : decode cL_lays 30 = .ok (.iload 11, 2) := by decide +kernel
theorem dL_lays_32 : decode cL_lays 32 = .ok (.imul, 1) := by decide +kernel
theorem dL_lays_33 : decode cL_lays 33 = .ok (.iconst 1, 1) := by decide +kernel
theorem dL_lays_34 : decode cL_lays 34 = .ok (.iadd, 1) := by decide +kernel
theorem dL_lays_35 : decode cL_lays 35 = .ok (.iconst (-1), 1) := by decide +kernel
theorem dL_lays_36 : decode cL_lays 36 = .ok (.iastore, 1) := by decide +kernel
theorem dL_lays_37 : decode cL_lays 37 = .ok (.aload 9, 2) := by decide +kernel
theorem dL_lays_39 : decode cL_lays 39 = .ok (.iconst 3, 1) := by decide +kernel
theorem dL_lays_40 : decode cL_lays 40 = .ok (.iload 11, 2) := by decide +kernel
theorem dL_lays_42 : decode cL_lays 42 = .ok (.imul, 1) := by decide +kernel
theorem dL_lays_43 : decode cL_lays 43 = .ok (.iconst 2, 1) := by decide +kernel
theorem dL_lays_44 : decode cL_lays 44 = .ok (.iadd, 1) := by decide +kernel
theorem dL_lays_45 : decode cL_lays 45 = .ok (.iconst (-1), 1) := by decide +kernel
theorem dL_lays_46 : decode cL_lays 46 = .ok (.iastore, 1) := by decide +kernel
theorem dL_lays_47 : decode cL_lays 47 = .ok (.aload 10, 2) := by decide +kernel
theorem dL_lays_49 : decode cL_lays 49 = .ok (.iconst 3, 1) := by decide +kernel
theorem dL_lays_50 : decode cL_lays 50 = .ok (.iload 11, 2) := by decide +kernel
theorem dL_lays_52 : decode cL_lays 52 = .ok (.imul, 1) := by decide +kernel
theorem dL_lays_53 : decode cL_lays 53 = .ok (.lconst 0, 1) := by decide +kernel
theorem dL_lays_54 : decode cL_lays 54 = .ok (.lastore, 1) := by decide +kernel
theorem dL_lays_55 : decode cL_lays 55 = .ok (.aload 10, 2) := by decide +kernel
theorem dL_lays_57 : decode cL_lays 57 = .ok (.iconst 3, 1) := by decide +kernel
theorem dL_lays_58 : decode cL_lays 58 = .ok (.iload 11, 2) := by decide +kernel
theorem dL_lays_60 : decode cL_lays 60 = .ok (.imul, 1) := by decide +kernel
theorem dL_lays_61 : decode cL_lays 61 = .ok (.iconst 1, 1) := by decide +kernel
theorem dL_lays_62 : decode cL_lays 62 = .ok (.iadd, 1) := by decide +kernel
theorem dL_lays_63 : decode cL_lays 63 = .ok (.lconst 0, 1) := by decide +kernel
theorem dL_lays_64 : decode cL_lays 64 = .ok (.lastore, 1) := by decide +kernel
theorem dL_lays_65 : decode cL_lays 65 = .ok (.aload 10, 2) := by decide +kernel
theorem dL_lays_67 : decode cL_lays 67 = .ok (.iconst 3, 1) := by decide +kernel
theorem dL_lays_68 : decode cL_lays 68 = .ok (.iload 11, 2) := by decide +kernel
theorem dL_lays_70 : decode cL_lays 70 = .ok (.imul, 1) := by decide +kernel
theorem dL_lays_71 : decode cL_lays 71 = .ok (.iconst 2, 1) := by decide +kernel
theorem dL_lays_72 : decode cL_lays 72 = .ok (.iadd, 1) := by decide +kernel
theorem dL_lays_73 : decode cL_lays 73 = .ok (.lconst 0, 1) := by decide +kernel
theorem dL_lays_74 : decode cL_lays 74 = .ok (.lastore, 1) := by decide +kernel
theorem dL_lays_75 : decode cL_lays 75 = .ok (.iinc 11 1, 3) := by decide +kernel
theorem dL_lays_78 : decode cL_lays 78 = .ok (.goto (-75), 3) := by decide +kernel
theorem dL_lays_81 : decode cL_lays 81 = .ok (.iconst 0, 1) := by decide +kernel
theorem dL_lays_82 : decode cL_lays 82 = .ok (.istore 11, 2) := by decide +kernel
theorem dL_lays_84 : decode cL_lays 84 = .ok (.iload 11, 2) := by decide +kernel
theorem dL_lays_86 : decode cL_lays 86 = .ok (.aload_n 1, 1) := by decide +kernel
theorem dL_lays_87 : decode cL_lays 87 = .ok (.iconst 1, 1) := by decide +kernel
theorem dL_lays_88 : decode cL_lays 88 = .ok (.iaload, 1) := by decide +kernel
theorem dL_lays_89 : decode cL_lays 89 = .ok (.if_icmp .ge 318, 3) := by decide +kernel
theorem dL_lays_92 : decode cL_lays 92 = .ok (.aload 4, 2) := by decide +kernel
theorem dL_lays_94 : decode cL_lays 94 = .ok (.iload 11, 2) := by decide +kernel
theorem dL_lays_96 : decode cL_lays 96 = .ok (.iaload, 1) := by decide +kernel
theorem dL_lays_97 : decode cL_lays 97 = .ok (.bipush 16, 2) := by decide +kernel
theorem dL_lays_99 : decode cL_lays 99 = .ok (.irem, 1) := by decide +kernel
theorem dL_lays_100 : decode cL_lays 100 = .ok (.istore 12, 2) := by decide +kernel
theorem dL_lays_102 : decode cL_lays 102 = .ok (.iload_n 0, 1) := by decide +kernel
theorem dL_lays_103 : decode cL_lays 103 = .ok (.iload 11, 2) := by decide +kernel
theorem dL_lays_105 : decode cL_lays 105 = .ok (.aload_n 2, 1) := by decide +kernel
theorem dL_lays_106 : decode cL_lays 106 = .ok (.aload_n 3, 1) := by decide +kernel
theorem dL_lays_107 : decode cL_lays 107 = .ok (.aload 8, 2) := by decide +kernel
theorem dL_lays_109 : decode cL_lays 109 = .ok (.invokestatic 73, 3) := by decide +kernel
theorem dL_lays_112 : decode cL_lays 112 = .ok (.ifCond .eq 14, 3) := by decide +kernel
theorem dL_lays_115 : decode cL_lays 115 = .ok (.aload 4, 2) := by decide +kernel
theorem dL_lays_117 : decode cL_lays 117 = .ok (.iload 11, 2) := by decide +kernel
theorem dL_lays_119 : decode cL_lays 119 = .ok (.iaload, 1) := by decide +kernel
theorem dL_lays_120 : decode cL_lays 120 = .ok (.bipush 16, 2) := by decide +kernel
theorem dL_lays_122 : decode cL_lays 122 = .ok (.idiv, 1) := by decide +kernel
theorem dL_lays_123 : decode cL_lays 123 = .ok (.goto 5, 3) := by decide +kernel
theorem dL_lays_126 : decode cL_lays 126 = .ok (.bipush 99, 2) := by decide +kernel
theorem dL_lays_128 : decode cL_lays 128 = .ok (.istore 13, 2) := by decide +kernel
theorem dL_lays_130 : decode cL_lays 130 = .ok (.iload 13, 2) := by decide +kernel
theorem dL_lays_132 : decode cL_lays 132 = .ok (.ifCond .ne 104, 3) := by decide +kernel
theorem dL_lays_135 : decode cL_lays 135 = .ok (.aload 9, 2) := by decide +kernel
theorem dL_lays_137 : decode cL_lays 137 = .ok (.iconst 3, 1) := by decide +kernel
theorem dL_lays_138 : decode cL_lays 138 = .ok (.iload 12, 2) := by decide +kernel
theorem dL_lays_140 : decode cL_lays 140 = .ok (.imul, 1) := by decide +kernel
theorem dL_lays_141 : decode cL_lays 141 = .ok (.iconst 1, 1) := by decide +kernel
theorem dL_lays_142 : decode cL_lays 142 = .ok (.iastore, 1) := by decide +kernel
theorem dL_lays_143 : decode cL_lays 143 = .ok (.aload 9, 2) := by decide +kernel
theorem dL_lays_145 : decode cL_lays 145 = .ok (.iconst 3, 1) := by decide +kernel
theorem dL_lays_146 : decode cL_lays 146 = .ok (.iload 12, 2) := by decide +kernel
theorem dL_lays_148 : decode cL_lays 148 = .ok (.imul, 1) := by decide +kernel
theorem dL_lays_149 : decode cL_lays 149 = .ok (.iconst 1, 1) := by decide +kernel
theorem dL_lays_150 : decode cL_lays 150 = .ok (.iadd, 1) := by decide +kernel
theorem dL_lays_151 : decode cL_lays 151 = .ok (.aload 5, 2) := by decide +kernel
theorem dL_lays_153 : decode cL_lays 153 = .ok (.iload 11, 2) := by decide +kernel
theorem dL_lays_155 : decode cL_lays 155 = .ok (.iaload, 1) := by decide +kernel
theorem dL_lays_156 : decode cL_lays 156 = .ok (.bipush 100, 2) := by decide +kernel
theorem dL_lays_158 : decode cL_lays 158 = .ok (.idiv, 1) := by decide +kernel
theorem dL_lays_159 : decode cL_lays 159 = .ok (.iastore, 1) := by decide +kernel
theorem dL_lays_160 : decode cL_lays 160 = .ok (.aload 9, 2) := by decide +kernel
theorem dL_lays_162 : decode cL_lays 162 = .ok (.iconst 3, 1) := by decide +kernel
theorem dL_lays_163 : decode cL_lays 163 = .ok (.iload 12, 2) := by decide +kernel
theorem dL_lays_165 : decode cL_lays 165 = .ok (.imul, 1) := by decide +kernel
theorem dL_lays_166 : decode cL_lays 166 = .ok (.iconst 2, 1) := by decide +kernel
theorem dL_lays_167 : decode cL_lays 167 = .ok (.iadd, 1) := by decide +kernel
theorem dL_lays_168 : decode cL_lays 168 = .ok (.aload 6, 2) := by decide +kernel
theorem dL_lays_170 : decode cL_lays 170 = .ok (.iload 11, 2) := by decide +kernel
theorem dL_lays_172 : decode cL_lays 172 = .ok (.iaload, 1) := by decide +kernel
theorem dL_lays_173 : decode cL_lays 173 = .ok (.iastore, 1) := by decide +kernel
theorem dL_lays_174 : decode cL_lays 174 = .ok (.iconst 0, 1) := by decide +kernel
theorem dL_lays_175 : decode cL_lays 175 = .ok (.istore 14, 2) := by decide +kernel
theorem dL_lays_177 : decode cL_lays 177 = .ok (.iload 14, 2) := by decide +kernel
theorem dL_lays_179 : decode cL_lays 179 = .ok (.aload 7, 2) := by decide +kernel
theorem dL_lays_181 : decode cL_lays 181 = .ok (.iload 11, 2) := by decide +kernel
theorem dL_lays_183 : decode cL_lays 183 = .ok (.laload, 1) := by decide +kernel
theorem dL_lays_184 : decode cL_lays 184 = .ok (.bipush 50, 2) := by decide +kernel
theorem dL_lays_186 : decode cL_lays 186 = .ok (.lshr, 1) := by decide +kernel
theorem dL_lays_187 : decode cL_lays 187 = .ok (.l2i, 1) := by decide +kernel
theorem dL_lays_188 : decode cL_lays 188 = .ok (.if_icmp .ge 45, 3) := by decide +kernel
theorem dL_lays_191 : decode cL_lays 191 = .ok (.aload 7, 2) := by decide +kernel
theorem dL_lays_193 : decode cL_lays 193 = .ok (.iload 11, 2) := by decide +kernel
theorem dL_lays_195 : decode cL_lays 195 = .ok (.laload, 1) := by decide +kernel
theorem dL_lays_196 : decode cL_lays 196 = .ok (.bipush 10, 2) := by decide +kernel
theorem dL_lays_198 : decode cL_lays 198 = .ok (.iload 14, 2) := by decide +kernel
theorem dL_lays_200 : decode cL_lays 200 = .ok (.imul, 1) := by decide +kernel
theorem dL_lays_201 : decode cL_lays 201 = .ok (.lshr, 1) := by decide +kernel
theorem dL_lays_202 : decode cL_lays 202 = .ok (.ldc2_w 63, 3) := by decide +kernel
theorem dL_lays_205 : decode cL_lays 205 = .ok (.land, 1) := by decide +kernel
theorem dL_lays_206 : decode cL_lays 206 = .ok (.l2i, 1) := by decide +kernel
theorem dL_lays_207 : decode cL_lays 207 = .ok (.istore 15, 2) := by decide +kernel
theorem dL_lays_209 : decode cL_lays 209 = .ok (.iload 12, 2) := by decide +kernel
theorem dL_lays_211 : decode cL_lays 211 = .ok (.iload 15, 2) := by decide +kernel
theorem dL_lays_213 : decode cL_lays 213 = .ok (.bipush 100, 2) := by decide +kernel
theorem dL_lays_215 : decode cL_lays 215 = .ok (.idiv, 1) := by decide +kernel
theorem dL_lays_216 : decode cL_lays 216 = .ok (.iload 15, 2) := by decide +kernel
theorem dL_lays_218 : decode cL_lays 218 = .ok (.bipush 100, 2) := by decide +kernel
theorem dL_lays_220 : decode cL_lays 220 = .ok (.irem, 1) := by decide +kernel
theorem dL_lays_221 : decode cL_lays 221 = .ok (.aload_n 1, 1) := by decide +kernel
theorem dL_lays_222 : decode cL_lays 222 = .ok (.aload 10, 2) := by decide +kernel
theorem dL_lays_224 : decode cL_lays 224 = .ok (.invokestatic 77, 3) := by decide +kernel
theorem dL_lays_227 : decode cL_lays 227 = .ok (.iinc 14 1, 3) := by decide +kernel
theorem dL_lays_230 : decode cL_lays 230 = .ok (.goto (-53), 3) := by decide +kernel
theorem dL_lays_233 : decode cL_lays 233 = .ok (.goto 168, 3) := by decide +kernel
theorem dL_lays_236 : decode cL_lays 236 = .ok (.iload 13, 2) := by decide +kernel
theorem dL_lays_238 : decode cL_lays 238 = .ok (.iconst 1, 1) := by decide +kernel
theorem dL_lays_239 : decode cL_lays 239 = .ok (.if_icmp .ne 24, 3) := by decide +kernel
theorem dL_lays_242 : decode cL_lays 242 = .ok (.iload 12, 2) := by decide +kernel
theorem dL_lays_244 : decode cL_lays 244 = .ok (.aload 5, 2) := by decide +kernel
theorem dL_lays_246 : decode cL_lays 246 = .ok (.iload 11, 2) := by decide +kernel
theorem dL_lays_248 : decode cL_lays 248 = .ok (.iaload, 1) := by decide +kernel
theorem dL_lays_249 : decode cL_lays 249 = .ok (.aload 6, 2) := by decide +kernel
theorem dL_lays_251 : decode cL_lays 251 = .ok (.iload 11, 2) := by decide +kernel
theorem dL_lays_253 : decode cL_lays 253 = .ok (.iaload, 1) := by decide +kernel
theorem dL_lays_254 : decode cL_lays 254 = .ok (.aload_n 1, 1) := by decide +kernel
theorem dL_lays_255 : decode cL_lays 255 = .ok (.aload 10, 2) := by decide +kernel
theorem dL_lays_257 : decode cL_lays 257 = .ok (.invokestatic 77, 3) := by decide +kernel
theorem dL_lays_260 : decode cL_lays 260 = .ok (.goto 141, 3) := by decide +kernel
theorem dL_lays_263 : decode cL_lays 263 = .ok (.iload 13, 2) := by decide +kernel
theorem dL_lays_265 : decode cL_lays 265 = .ok (.iconst 2, 1) := by decide +kernel
theorem dL_lays_266 : decode cL_lays 266 = .ok (.if_icmp .ne 40, 3) := by decide +kernel
theorem dL_lays_269 : decode cL_lays 269 = .ok (.aload 10, 2) := by decide +kernel
theorem dL_lays_271 : decode cL_lays 271 = .ok (.iconst 3, 1) := by decide +kernel
theorem dL_lays_272 : decode cL_lays 272 = .ok (.iload 12, 2) := by decide +kernel
theorem dL_lays_274 : decode cL_lays 274 = .ok (.imul, 1) := by decide +kernel
theorem dL_lays_275 : decode cL_lays 275 = .ok (.aload 5, 2) := by decide +kernel
theorem dL_lays_277 : decode cL_lays 277 = .ok (.iload 11, 2) := by decide +kernel
theorem dL_lays_279 : decode cL_lays 279 = .ok (.iaload, 1) := by decide +kernel
theorem dL_lays_280 : decode cL_lays 280 = .ok (.iadd, 1) := by decide +kernel
theorem dL_lays_281 : decode cL_lays 281 = .ok (.dup2, 1) := by decide +kernel
theorem dL_lays_282 : decode cL_lays 282 = .ok (.laload, 1) := by decide +kernel
theorem dL_lays_283 : decode cL_lays 283 = .ok (.aload 5, 2) := by decide +kernel
theorem dL_lays_285 : decode cL_lays 285 = .ok (.iload 11, 2) := by decide +kernel
theorem dL_lays_287 : decode cL_lays 287 = .ok (.iaload, 1) := by decide +kernel
theorem dL_lays_288 : decode cL_lays 288 = .ok (.aload 6, 2) := by decide +kernel
theorem dL_lays_290 : decode cL_lays 290 = .ok (.iload 11, 2) := by decide +kernel
theorem dL_lays_292 : decode cL_lays 292 = .ok (.iaload, 1) := by decide +kernel
theorem dL_lays_293 : decode cL_lays 293 = .ok (.aload_n 1, 1) := by decide +kernel
theorem dL_lays_294 : decode cL_lays 294 = .ok (.invokestatic 65, 3) := by decide +kernel
theorem dL_lays_297 : decode cL_lays 297 = .ok (.ldc2_w 71, 3) := by decide +kernel
theorem dL_lays_300 : decode cL_lays 300 = .ok (.lxor, 1) := by decide +kernel
theorem dL_lays_301 : decode cL_lays 301 = .ok (.land, 1) := by decide +kernel
theorem dL_lays_302 : decode cL_lays 302 = .ok (.lastore, 1) := by decide +kernel
theorem dL_lays_303 : decode cL_lays 303 = .ok (.goto 98, 3) := by decide +kernel
theorem dL_lays_306 : decode cL_lays 306 = .ok (.iload 13, 2) := by decide +kernel
theorem dL_lays_308 : decode cL_lays 308 = .ok (.iconst 3, 1) := by decide +kernel
theorem dL_lays_309 : decode cL_lays 309 = .ok (.if_icmp .ne 26, 3) := by decide +kernel
theorem dL_lays_312 : decode cL_lays 312 = .ok (.aload 10, 2) := by decide +kernel
theorem dL_lays_314 : decode cL_lays 314 = .ok (.iconst 3, 1) := by decide +kernel
theorem dL_lays_315 : decode cL_lays 315 = .ok (.iload 12, 2) := by decide +kernel
theorem dL_lays_317 : decode cL_lays 317 = .ok (.imul, 1) := by decide +kernel
theorem dL_lays_318 : decode cL_lays 318 = .ok (.aload 5, 2) := by decide +kernel
theorem dL_lays_320 : decode cL_lays 320 = .ok (.iload 11, 2) := by decide +kernel
theorem dL_lays_322 : decode cL_lays 322 = .ok (.iaload, 1) := by decide +kernel
theorem dL_lays_323 : decode cL_lays 323 = .ok (.iadd, 1) := by decide +kernel
theorem dL_lays_324 : decode cL_lays 324 = .ok (.lconst 1, 1) := by decide +kernel
theorem dL_lays_325 : decode cL_lays 325 = .ok (.aload 6, 2) := by decide +kernel
theorem dL_lays_327 : decode cL_lays 327 = .ok (.iload 11, 2) := by decide +kernel
theorem dL_lays_329 : decode cL_lays 329 = .ok (.iaload, 1) := by decide +kernel
theorem dL_lays_330 : decode cL_lays 330 = .ok (.lshl, 1) := by decide +kernel
theorem dL_lays_331 : decode cL_lays 331 = .ok (.lastore, 1) := by decide +kernel
theorem dL_lays_332 : decode cL_lays 332 = .ok (.goto 69, 3) := by decide +kernel
theorem dL_lays_335 : decode cL_lays 335 = .ok (.iload 13, 2) := by decide +kernel
theorem dL_lays_337 : decode cL_lays 337 = .ok (.bipush 7, 2) := by decide +kernel
theorem dL_lays_339 : decode cL_lays 339 = .ok (.if_icmp .ne 47, 3) := by decide +kernel
theorem dL_lays_342 : decode cL_lays 342 = .ok (.aload 9, 2) := by decide +kernel
theorem dL_lays_344 : decode cL_lays 344 = .ok (.iconst 3, 1) := by decide +kernel
theorem dL_lays_345 : decode cL_lays 345 = .ok (.iload 12, 2) := by decide +kernel
theorem dL_lays_347 : decode cL_lays 347 = .ok (.imul, 1) := by decide +kernel
theorem dL_lays_348 : decode cL_lays 348 = .ok (.iconst 2, 1) := by decide +kernel
theorem dL_lays_349 : decode cL_lays 349 = .ok (.iadd, 1) := by decide +kernel
theorem dL_lays_350 : decode cL_lays 350 = .ok (.iload 12, 2) := by decide +kernel
theorem dL_lays_352 : decode cL_lays 352 = .ok (.aload 5, 2) := by decide +kernel
theorem dL_lays_354 : decode cL_lays 354 = .ok (.iload 11, 2) := by decide +kernel
theorem dL_lays_356 : decode cL_lays 356 = .ok (.iaload, 1) := by decide +kernel
theorem dL_lays_357 : decode cL_lays 357 = .ok (.aload 9, 2) := by decide +kernel
theorem dL_lays_359 : decode cL_lays 359 = .ok (.invokestatic 81, 3) := by decide +kernel
theorem dL_lays_362 : decode cL_lays 362 = .ok (.ifCond .eq 15, 3) := by decide +kernel
theorem dL_lays_365 : decode cL_lays 365 = .ok (.aload 9, 2) := by decide +kernel
theorem dL_lays_367 : decode cL_lays 367 = .ok (.iconst 3, 1) := by decide +kernel
theorem dL_lays_368 : decode cL_lays 368 = .ok (.iload 12, 2) := by decide +kernel
theorem dL_lays_370 : decode cL_lays 370 = .ok (.imul, 1) := by decide +kernel
theorem dL_lays_371 : decode cL_lays 371 = .ok (.iconst 2, 1) := by decide +kernel
theorem dL_lays_372 : decode cL_lays 372 = .ok (.iadd, 1) := by decide +kernel
theorem dL_lays_373 : decode cL_lays 373 = .ok (.iaload, 1) := by decide +kernel
theorem dL_lays_374 : decode cL_lays 374 = .ok (.goto 8, 3) := by decide +kernel
theorem dL_lays_377 : decode cL_lays 377 = .ok (.aload 5, 2) := by decide +kernel
theorem dL_lays_379 : decode cL_lays 379 = .ok (.iload 11, 2) := by decide +kernel
theorem dL_lays_381 : decode cL_lays 381 = .ok (.iaload, 1) := by decide +kernel
theorem dL_lays_382 : decode cL_lays 382 = .ok (.iastore, 1) := by decide +kernel
theorem dL_lays_383 : decode cL_lays 383 = .ok (.goto 18, 3) := by decide +kernel
theorem dL_lays_386 : decode cL_lays 386 = .ok (.iload 13, 2) := by decide +kernel
theorem dL_lays_388 : decode cL_lays 388 = .ok (.bipush 8, 2) := by decide +kernel
theorem dL_lays_390 : decode cL_lays 390 = .ok (.if_icmp .ne 11, 3) := by decide +kernel
theorem dL_lays_393 : decode cL_lays 393 = .ok (.aload 9, 2) := by decide +kernel
theorem dL_lays_395 : decode cL_lays 395 = .ok (.iconst 3, 1) := by decide +kernel
theorem dL_lays_396 : decode cL_lays 396 = .ok (.iload 12, 2) := by decide +kernel
theorem dL_lays_398 : decode cL_lays 398 = .ok (.imul, 1) := by decide +kernel
theorem dL_lays_399 : decode cL_lays 399 = .ok (.iconst 2, 1) := by decide +kernel
theorem dL_lays_400 : decode cL_lays 400 = .ok (.iastore, 1) := by decide +kernel
theorem dL_lays_401 : decode cL_lays 401 = .ok (.iinc 11 1, 3) := by decide +kernel
theorem dL_lays_404 : decode cL_lays 404 = .ok (.goto (-320), 3) := by decide +kernel
theorem dL_lays_407 : decode cL_lays 407 = .ok (.return_, 1) := by decide +kernel
theorem dL_up_0 : decode cL_up 0 = .ok (.iload_n 1, 1) := by decide +kernel
theorem dL_up_1 : decode cL_up 1 = .ok (.istore_n 3, 1) := by decide +kernel
theorem dL_up_2 : decode cL_up 2 = .ok (.iload_n 3, 1) := by decide +kernel
theorem dL_up_3 : decode cL_up 3 = .ok (.ifCond .lt 19, 3) := by decide +kernel
theorem dL_up_6 : decode cL_up 6 = .ok (.iload_n 3, 1) := by decide +kernel
theorem dL_up_7 : decode cL_up 7 = .ok (.iload_n 0, 1) := by decide +kernel
theorem dL_up_8 : decode cL_up 8 = .ok (.if_icmp .eq 14, 3) := by decide +kernel
theorem dL_up_11 : decode cL_up 11 = .ok (.aload_n 2, 1) := by decide +kernel
theorem dL_up_12 : decode cL_up 12 = .ok (.iconst 3, 1) := by decide +kernel
theorem dL_up_13 : decode cL_up 13 = .ok (.iload_n 3, 1) := by decide +kernel
theorem dL_up_14 : decode cL_up 14 = .ok (.imul, 1) := by decide +kernel
theorem dL_up_15 : decode cL_up 15 = .ok (.iconst 2, 1) := by decide +kernel
theorem dL_up_16 : decode cL_up 16 = .ok (.iadd, 1) := by decide +kernel
theorem dL_up_17 : decode cL_up 17 = .ok (.iaload, 1) := by decide +kernel
theorem dL_up_18 : decode cL_up 18 = .ok (.istore_n 3, 1) := by decide +kernel
theorem dL_up_19 : decode cL_up 19 = .ok (.goto (-17), 3) := by decide +kernel
theorem dL_up_22 : decode cL_up 22 = .ok (.iload_n 3, 1) := by decide +kernel
theorem dL_up_23 : decode cL_up 23 = .ok (.iload_n 0, 1) := by decide +kernel
theorem dL_up_24 : decode cL_up 24 = .ok (.if_icmp .ne 7, 3) := by decide +kernel
theorem dL_up_27 : decode cL_up 27 = .ok (.iconst 1, 1) := by decide +kernel
theorem dL_up_28 : decode cL_up 28 = .ok (.goto 4, 3) := by decide +kernel
theorem dL_up_31 : decode cL_up 31 = .ok (.iconst 0, 1) := by decide +kernel
theorem dL_up_32 : decode cL_up 32 = .ok (.ireturn, 1) := by decide +kernel
theorem dL_last_0 : decode cL_last 0 = .ok (.aload_n 3, 1) := by decide +kernel
theorem dL_last_1 : decode cL_last 1 = .ok (.iconst 1, 1) := by decide +kernel
theorem dL_last_2 : decode cL_last 2 = .ok (.iaload, 1) := by decide +kernel
theorem dL_last_3 : decode cL_last 3 = .ok (.iconst 1, 1) := by decide +kernel
theorem dL_last_4 : decode cL_last 4 = .ok (.isub, 1) := by decide +kernel
theorem dL_last_5 : decode cL_last 5 = .ok (.istore 9, 2) := by decide +kernel
theorem dL_last_7 : decode cL_last 7 = .ok (.iload 9, 2) := by decide +kernel
theorem dL_last_9 : decode cL_last 9 = .ok (.ifCond .lt 44, 3) := by decide +kernel
theorem dL_last_12 : decode cL_last 12 = .ok (.aload 6, 2) := by decide +kernel
theorem dL_last_14 : decode cL_last 14 = .ok (.iload 9, 2) := by decide +kernel
theorem dL_last_16 : decode cL_last 16 = .ok (.iaload, 1) := by decide +kernel
theorem dL_last_17 : decode cL_last 17 = .ok (.bipush 16, 2) := by decide +kernel
theorem dL_last_19 : decode cL_last 19 = .ok (.iload_n 1, 1) := by decide +kernel
theorem dL_last_20 : decode cL_last 20 = .ok (.imul, 1) := by decide +kernel
theorem dL_last_21 : decode cL_last 21 = .ok (.iload_n 2, 1) := by decide +kernel
theorem dL_last_22 : decode cL_last 22 = .ok (.iadd, 1) := by decide +kernel
theorem dL_last_23 : decode cL_last 23 = .ok (.if_icmp .ne 24, 3) := by decide +kernel
theorem dL_last_26 : decode cL_last 26 = .ok (.iload_n 0, 1) := by decide +kernel
theorem dL_last_27 : decode cL_last 27 = .ok (.iload 9, 2) := by decide +kernel
theorem dL_last_29 : decode cL_last 29 = .ok (.aload 4, 2) := by decide +kernel
theorem dL_last_31 : decode cL_last 31 = .ok (.aload 5, 2) := by decide +kernel
theorem dL_last_33 : decode cL_last 33 = .ok (.aload 8, 2) := by decide +kernel
theorem dL_last_35 : decode cL_last 35 = .ok (.invokestatic 73, 3) := by decide +kernel
theorem dL_last_38 : decode cL_last 38 = .ok (.ifCond .eq 9, 3) := by decide +kernel
theorem dL_last_41 : decode cL_last 41 = .ok (.aload 7, 2) := by decide +kernel
theorem dL_last_43 : decode cL_last 43 = .ok (.iload 9, 2) := by decide +kernel
theorem dL_last_45 : decode cL_last 45 = .ok (.iaload, 1) := by decide +kernel
theorem dL_last_46 : decode cL_last 46 = .ok (.ireturn, 1) := by decide +kernel
theorem dL_last_47 : decode cL_last 47 = .ok (.iinc 9 (-1), 3) := by decide +kernel
theorem dL_last_50 : decode cL_last 50 = .ok (.goto (-43), 3) := by decide +kernel
theorem dL_last_53 : decode cL_last 53 = .ok (.bipush (-5), 2) := by decide +kernel
theorem dL_last_55 : decode cL_last 55 = .ok (.ireturn, 1) := by decide +kernel
theorem dL_name_0 : decode cL_name 0 = .ok (.iload_n 0, 1) := by decide +kernel
theorem dL_name_1 : decode cL_name 1 = .ok (.iconst 4, 1) := by decide +kernel
theorem dL_name_2 : decode cL_name 2 = .ok (.iload_n 1, 1) := by decide +kernel
theorem dL_name_3 : decode cL_name 3 = .ok (.aload_n 2, 1) := by decide +kernel
theorem dL_name_4 : decode cL_name 4 = .ok (.aload_n 3, 1) := by decide +kernel
theorem dL_name_5 : decode cL_name 5 = .ok (.aload 4, 2) := by decide +kernel
theorem dL_name_7 : decode cL_name 7 = .ok (.aload 5, 2) := by decide +kernel
theorem dL_name_9 : decode cL_name 9 = .ok (.aload 6, 2) := by decide +kernel
theorem dL_name_11 : decode cL_name 11 = .ok (.aload 7, 2) := by decide +kernel
theorem dL_name_13 : decode cL_name 13 = .ok (.invokestatic 85, 3) := by decide +kernel
theorem dL_name_16 : decode cL_name 16 = .ok (.istore 8, 2) := by decide +kernel
theorem dL_name_18 : decode cL_name 18 = .ok (.iload_n 1, 1) := by decide +kernel
theorem dL_name_19 : decode cL_name 19 = .ok (.ifCond .ne 7, 3) := by decide +kernel
theorem dL_name_22 : decode cL_name 22 = .ok (.iconst 0, 1) := by decide +kernel
theorem dL_name_23 : decode cL_name 23 = .ok (.goto 32, 3) := by decide +kernel
theorem dL_name_26 : decode cL_name 26 = .ok (.iload 8, 2) := by decide +kernel
theorem dL_name_28 : decode cL_name 28 = .ok (.ifCond .lt 8, 3) := by decide +kernel
theorem dL_name_31 : decode cL_name 31 = .ok (.iload 8, 2) := by decide +kernel
theorem dL_name_33 : decode cL_name 33 = .ok (.goto 22, 3) := by decide +kernel
theorem dL_name_36 : decode cL_name 36 = .ok (.iload_n 0, 1) := by decide +kernel
theorem dL_name_37 : decode cL_name 37 = .ok (.iconst 0, 1) := by decide +kernel
theorem dL_name_38 : decode cL_name 38 = .ok (.iload_n 1, 1) := by decide +kernel
theorem dL_name_39 : decode cL_name 39 = .ok (.aload_n 2, 1) := by decide +kernel
theorem dL_name_40 : decode cL_name 40 = .ok (.aload_n 3, 1) := by decide +kernel
theorem dL_name_41 : decode cL_name 41 = .ok (.aload 4, 2) := by decide +kernel
theorem dL_name_43 : decode cL_name 43 = .ok (.aload 5, 2) := by decide +kernel
theorem dL_name_45 : decode cL_name 45 = .ok (.aload 6, 2) := by decide +kernel
theorem dL_name_47 : decode cL_name 47 = .ok (.aload 7, 2) := by decide +kernel
theorem dL_name_49 : decode cL_name 49 = .ok (.invokestatic 85, 3) := by decide +kernel
theorem dL_name_52 : decode cL_name 52 = .ok (.bipush 100, 2) := by decide +kernel
theorem dL_name_54 : decode cL_name 54 = .ok (.irem, 1) := by decide +kernel
theorem dL_name_55 : decode cL_name 55 = .ok (.ireturn, 1) := by decide +kernel
theorem dL_link_0 : decode cL_link 0 = .ok (.iload_n 0, 1) := by decide +kernel
theorem dL_link_1 : decode cL_link 1 = .ok (.iconst 5, 1) := by decide +kernel
theorem dL_link_2 : decode cL_link 2 = .ok (.iload_n 1, 1) := by decide +kernel
theorem dL_link_3 : decode cL_link 3 = .ok (.aload_n 2, 1) := by decide +kernel
theorem dL_link_4 : decode cL_link 4 = .ok (.aload_n 3, 1) := by decide +kernel
theorem dL_link_5 : decode cL_link 5 = .ok (.aload 4, 2) := by decide +kernel
theorem dL_link_7 : decode cL_link 7 = .ok (.aload 5, 2) := by decide +kernel
theorem dL_link_9 : decode cL_link 9 = .ok (.aload 6, 2) := by decide +kernel
theorem dL_link_11 : decode cL_link 11 = .ok (.aload 7, 2) := by decide +kernel
theorem dL_link_13 : decode cL_link 13 = .ok (.invokestatic 85, 3) := by decide +kernel
theorem dL_link_16 : decode cL_link 16 = .ok (.istore 8, 2) := by decide +kernel
theorem dL_link_18 : decode cL_link 18 = .ok (.iload 8, 2) := by decide +kernel
theorem dL_link_20 : decode cL_link 20 = .ok (.bipush (-5), 2) := by decide +kernel
theorem dL_link_22 : decode cL_link 22 = .ok (.if_icmp .ne 7, 3) := by decide +kernel
theorem dL_link_25 : decode cL_link 25 = .ok (.iconst (-1), 1) := by decide +kernel
theorem dL_link_26 : decode cL_link 26 = .ok (.goto 5, 3) := by decide +kernel
theorem dL_link_29 : decode cL_link 29 = .ok (.iload 8, 2) := by decide +kernel
theorem dL_link_31 : decode cL_link 31 = .ok (.ireturn, 1) := by decide +kernel
theorem dL_place_0 : decode cL_place 0 = .ok (.aload_n 1, 1) := by decide +kernel
theorem dL_place_1 : decode cL_place 1 = .ok (.iconst 3, 1) := by decide +kernel
theorem dL_place_2 : decode cL_place 2 = .ok (.iload_n 0, 1) := by decide +kernel
theorem dL_place_3 : decode cL_place 3 = .ok (.imul, 1) := by decide +kernel
theorem dL_place_4 : decode cL_place 4 = .ok (.iconst 2, 1) := by decide +kernel
theorem dL_place_5 : decode cL_place 5 = .ok (.iadd, 1) := by decide +kernel
theorem dL_place_6 : decode cL_place 6 = .ok (.iaload, 1) := by decide +kernel
theorem dL_place_7 : decode cL_place 7 = .ok (.ifCond .ge 7, 3) := by decide +kernel
theorem dL_place_10 : decode cL_place 10 = .ok (.iconst (-1), 1) := by decide +kernel
theorem dL_place_11 : decode cL_place 11 = .ok (.goto 30, 3) := by decide +kernel
theorem dL_place_14 : decode cL_place 14 = .ok (.aload_n 1, 1) := by decide +kernel
theorem dL_place_15 : decode cL_place 15 = .ok (.iconst 3, 1) := by decide +kernel
theorem dL_place_16 : decode cL_place 16 = .ok (.aload_n 1, 1) := by decide +kernel
theorem dL_place_17 : decode cL_place 17 = .ok (.iconst 3, 1) := by decide +kernel
theorem dL_place_18 : decode cL_place 18 = .ok (.iload_n 0, 1) := by decide +kernel
theorem dL_place_19 : decode cL_place 19 = .ok (.imul, 1) := by decide +kernel
theorem dL_place_20 : decode cL_place 20 = .ok (.iconst 2, 1) := by decide +kernel
theorem dL_place_21 : decode cL_place 21 = .ok (.iadd, 1) := by decide +kernel
theorem dL_place_22 : decode cL_place 22 = .ok (.iaload, 1) := by decide +kernel
theorem dL_place_23 : decode cL_place 23 = .ok (.imul, 1) := by decide +kernel
theorem dL_place_24 : decode cL_place 24 = .ok (.iaload, 1) := by decide +kernel
theorem dL_place_25 : decode cL_place 25 = .ok (.iconst 1, 1) := by decide +kernel
theorem dL_place_26 : decode cL_place 26 = .ok (.if_icmp .ne 13, 3) := by decide +kernel
theorem dL_place_29 : decode cL_place 29 = .ok (.aload_n 1, 1) := by decide +kernel
theorem dL_place_30 : decode cL_place 30 = .ok (.iconst 3, 1) := by decide +kernel
theorem dL_place_31 : decode cL_place 31 = .ok (.iload_n 0, 1) := by decide +kernel
theorem dL_place_32 : decode cL_place 32 = .ok (.imul, 1) := by decide +kernel
theorem dL_place_33 : decode cL_place 33 = .ok (.iconst 2, 1) := by decide +kernel
theorem dL_place_34 : decode cL_place 34 = .ok (.iadd, 1) := by decide +kernel
theorem dL_place_35 : decode cL_place 35 = .ok (.iaload, 1) := by decide +kernel
theorem dL_place_36 : decode cL_place 36 = .ok (.goto 5, 3) := by decide +kernel
theorem dL_place_39 : decode cL_place 39 = .ok (.bipush (-2), 2) := by decide +kernel
theorem dL_place_41 : decode cL_place 41 = .ok (.ireturn, 1) := by decide +kernel
theorem dL_born_0 : decode cL_born 0 = .ok (.iconst (-1), 1) := by decide +kernel
theorem dL_born_1 : decode cL_born 1 = .ok (.istore_n 3, 1) := by decide +kernel
theorem dL_born_2 : decode cL_born 2 = .ok (.iconst 0, 1) := by decide +kernel
theorem dL_born_3 : decode cL_born 3 = .ok (.istore 4, 2) := by decide +kernel
theorem dL_born_5 : decode cL_born 5 = .ok (.iload 4, 2) := by decide +kernel
theorem dL_born_7 : decode cL_born 7 = .ok (.aload_n 1, 1) := by decide +kernel
theorem dL_born_8 : decode cL_born 8 = .ok (.iconst 1, 1) := by decide +kernel
theorem dL_born_9 : decode cL_born 9 = .ok (.iaload, 1) := by decide +kernel
theorem dL_born_10 : decode cL_born 10 = .ok (.if_icmp .ge 24, 3) := by decide +kernel
theorem dL_born_13 : decode cL_born 13 = .ok (.aload_n 2, 1) := by decide +kernel
theorem dL_born_14 : decode cL_born 14 = .ok (.iload 4, 2) := by decide +kernel
theorem dL_born_16 : decode cL_born 16 = .ok (.iaload, 1) := by decide +kernel
theorem dL_born_17 : decode cL_born 17 = .ok (.iload_n 0, 1) := by decide +kernel
theorem dL_born_18 : decode cL_born 18 = .ok (.if_icmp .ne 8, 3) := by decide +kernel
theorem dL_born_21 : decode cL_born 21 = .ok (.iload 4, 2) := by decide +kernel
theorem dL_born_23 : decode cL_born 23 = .ok (.goto 4, 3) := by decide +kernel
theorem dL_born_26 : decode cL_born 26 = .ok (.iload_n 3, 1) := by decide +kernel
theorem dL_born_27 : decode cL_born 27 = .ok (.istore_n 3, 1) := by decide +kernel
theorem dL_born_28 : decode cL_born 28 = .ok (.iinc 4 1, 3) := by decide +kernel
theorem dL_born_31 : decode cL_born 31 = .ok (.goto (-26), 3) := by decide +kernel
theorem dL_born_34 : decode cL_born 34 = .ok (.iload_n 3, 1) := by decide +kernel
theorem dL_born_35 : decode cL_born 35 = .ok (.ireturn, 1) := by decide +kernel
theorem dL_shown_0 : decode cL_shown 0 = .ok (.iload_n 0, 1) := by decide +kernel
theorem dL_shown_1 : decode cL_shown 1 = .ok (.iload_n 1, 1) := by decide +kernel
theorem dL_shown_2 : decode cL_shown 2 = .ok (.aload_n 2, 1) := by decide +kernel
theorem dL_shown_3 : decode cL_shown 3 = .ok (.aload_n 3, 1) := by decide +kernel
theorem dL_shown_4 : decode cL_shown 4 = .ok (.aload 4, 2) := by decide +kernel
theorem dL_shown_6 : decode cL_shown 6 = .ok (.aload 5, 2) := by decide +kernel
theorem dL_shown_8 : decode cL_shown 8 = .ok (.aload 6, 2) := by decide +kernel
theorem dL_shown_10 : decode cL_shown 10 = .ok (.aload 7, 2) := by decide +kernel
theorem dL_shown_12 : decode cL_shown 12 = .ok (.invokestatic 89, 3) := by decide +kernel
theorem dL_shown_15 : decode cL_shown 15 = .ok (.istore 9, 2) := by decide +kernel
theorem dL_shown_17 : decode cL_shown 17 = .ok (.iconst 0, 1) := by decide +kernel
theorem dL_shown_18 : decode cL_shown 18 = .ok (.istore 10, 2) := by decide +kernel
theorem dL_shown_20 : decode cL_shown 20 = .ok (.iconst 1, 1) := by decide +kernel
theorem dL_shown_21 : decode cL_shown 21 = .ok (.istore 11, 2) := by decide +kernel
theorem dL_shown_23 : decode cL_shown 23 = .ok (.iload 11, 2) := by decide +kernel
theorem dL_shown_25 : decode cL_shown 25 = .ok (.aload_n 2, 1) := by decide +kernel
theorem dL_shown_26 : decode cL_shown 26 = .ok (.iconst 0, 1) := by decide +kernel
theorem dL_shown_27 : decode cL_shown 27 = .ok (.iaload, 1) := by decide +kernel
theorem dL_shown_28 : decode cL_shown 28 = .ok (.if_icmp .ge 97, 3) := by decide +kernel
theorem dL_shown_31 : decode cL_shown 31 = .ok (.iload_n 1, 1) := by decide +kernel
theorem dL_shown_32 : decode cL_shown 32 = .ok (.ifCond .le 93, 3) := by decide +kernel
theorem dL_shown_35 : decode cL_shown 35 = .ok (.iload 10, 2) := by decide +kernel
theorem dL_shown_37 : decode cL_shown 37 = .ok (.ifCond .ne 75, 3) := by decide +kernel
theorem dL_shown_40 : decode cL_shown 40 = .ok (.iload 11, 2) := by decide +kernel
theorem dL_shown_42 : decode cL_shown 42 = .ok (.iload_n 1, 1) := by decide +kernel
theorem dL_shown_43 : decode cL_shown 43 = .ok (.if_icmp .eq 73, 3) := by decide +kernel
theorem dL_shown_46 : decode cL_shown 46 = .ok (.aload 8, 2) := by decide +kernel
theorem dL_shown_48 : decode cL_shown 48 = .ok (.iconst 3, 1) := by decide +kernel
theorem dL_shown_49 : decode cL_shown 49 = .ok (.iload 11, 2) := by decide +kernel
theorem dL_shown_51 : decode cL_shown 51 = .ok (.imul, 1) := by decide +kernel
theorem dL_shown_52 : decode cL_shown 52 = .ok (.iaload, 1) := by decide +kernel
theorem dL_shown_53 : decode cL_shown 53 = .ok (.iconst 1, 1) := by decide +kernel
theorem dL_shown_54 : decode cL_shown 54 = .ok (.if_icmp .ne 62, 3) := by decide +kernel
theorem dL_shown_57 : decode cL_shown 57 = .ok (.iload 11, 2) := by decide +kernel
theorem dL_shown_59 : decode cL_shown 59 = .ok (.aload 8, 2) := by decide +kernel
theorem dL_shown_61 : decode cL_shown 61 = .ok (.invokestatic 93, 3) := by decide +kernel
theorem dL_shown_64 : decode cL_shown 64 = .ok (.iload_n 1, 1) := by decide +kernel
theorem dL_shown_65 : decode cL_shown 65 = .ok (.aload 8, 2) := by decide +kernel
theorem dL_shown_67 : decode cL_shown 67 = .ok (.invokestatic 93, 3) := by decide +kernel
theorem dL_shown_70 : decode cL_shown 70 = .ok (.if_icmp .ne 46, 3) := by decide +kernel
theorem dL_shown_73 : decode cL_shown 73 = .ok (.iload_n 0, 1) := by decide +kernel
theorem dL_shown_74 : decode cL_shown 74 = .ok (.iload 11, 2) := by decide +kernel
theorem dL_shown_76 : decode cL_shown 76 = .ok (.aload_n 2, 1) := by decide +kernel
theorem dL_shown_77 : decode cL_shown 77 = .ok (.aload_n 3, 1) := by decide +kernel
theorem dL_shown_78 : decode cL_shown 78 = .ok (.aload 4, 2) := by decide +kernel
theorem dL_shown_80 : decode cL_shown 80 = .ok (.aload 5, 2) := by decide +kernel
theorem dL_shown_82 : decode cL_shown 82 = .ok (.aload 6, 2) := by decide +kernel
theorem dL_shown_84 : decode cL_shown 84 = .ok (.aload 7, 2) := by decide +kernel
theorem dL_shown_86 : decode cL_shown 86 = .ok (.invokestatic 89, 3) := by decide +kernel
theorem dL_shown_89 : decode cL_shown 89 = .ok (.iload 9, 2) := by decide +kernel
theorem dL_shown_91 : decode cL_shown 91 = .ok (.if_icmp .ne 25, 3) := by decide +kernel
theorem dL_shown_94 : decode cL_shown 94 = .ok (.iload 11, 2) := by decide +kernel
theorem dL_shown_96 : decode cL_shown 96 = .ok (.aload_n 2, 1) := by decide +kernel
theorem dL_shown_97 : decode cL_shown 97 = .ok (.aload 5, 2) := by decide +kernel
theorem dL_shown_99 : decode cL_shown 99 = .ok (.invokestatic 97, 3) := by decide +kernel
theorem dL_shown_102 : decode cL_shown 102 = .ok (.iload_n 1, 1) := by decide +kernel
theorem dL_shown_103 : decode cL_shown 103 = .ok (.aload_n 2, 1) := by decide +kernel
theorem dL_shown_104 : decode cL_shown 104 = .ok (.aload 5, 2) := by decide +kernel
theorem dL_shown_106 : decode cL_shown 106 = .ok (.invokestatic 97, 3) := by decide +kernel
theorem dL_shown_109 : decode cL_shown 109 = .ok (.if_icmp .ge 7, 3) := by decide +kernel
theorem dL_shown_112 : decode cL_shown 112 = .ok (.iconst 1, 1) := by decide +kernel
theorem dL_shown_113 : decode cL_shown 113 = .ok (.goto 4, 3) := by decide +kernel
theorem dL_shown_116 : decode cL_shown 116 = .ok (.iconst 0, 1) := by decide +kernel
theorem dL_shown_117 : decode cL_shown 117 = .ok (.istore 10, 2) := by decide +kernel
theorem dL_shown_119 : decode cL_shown 119 = .ok (.iinc 11 1, 3) := by decide +kernel
theorem dL_shown_122 : decode cL_shown 122 = .ok (.goto (-99), 3) := by decide +kernel
theorem dL_shown_125 : decode cL_shown 125 = .ok (.iload 10, 2) := by decide +kernel
theorem dL_shown_127 : decode cL_shown 127 = .ok (.ifCond .eq 10, 3) := by decide +kernel
theorem dL_shown_130 : decode cL_shown 130 = .ok (.bipush 100, 2) := by decide +kernel
theorem dL_shown_132 : decode cL_shown 132 = .ok (.iload_n 1, 1) := by decide +kernel
theorem dL_shown_133 : decode cL_shown 133 = .ok (.iadd, 1) := by decide +kernel
theorem dL_shown_134 : decode cL_shown 134 = .ok (.goto 5, 3) := by decide +kernel
theorem dL_shown_137 : decode cL_shown 137 = .ok (.iload 9, 2) := by decide +kernel
theorem dL_shown_139 : decode cL_shown 139 = .ok (.ireturn, 1) := by decide +kernel
theorem dL_named_0 : decode cL_named 0 = .ok (.iconst 0, 1) := by decide +kernel
theorem dL_named_1 : decode cL_named 1 = .ok (.istore 11, 2) := by decide +kernel
theorem dL_named_3 : decode cL_named 3 = .ok (.iconst 1, 1) := by decide +kernel
theorem dL_named_4 : decode cL_named 4 = .ok (.istore 12, 2) := by decide +kernel
theorem dL_named_6 : decode cL_named 6 = .ok (.iload 12, 2) := by decide +kernel
theorem dL_named_8 : decode cL_named 8 = .ok (.aload 4, 2) := by decide +kernel
theorem dL_named_10 : decode cL_named 10 = .ok (.iconst 0, 1) := by decide +kernel
theorem dL_named_11 : decode cL_named 11 = .ok (.iaload, 1) := by decide +kernel
theorem dL_named_12 : decode cL_named 12 = .ok (.if_icmp .ge 73, 3) := by decide +kernel
theorem dL_named_15 : decode cL_named 15 = .ok (.iload 11, 2) := by decide +kernel
theorem dL_named_17 : decode cL_named 17 = .ok (.ifCond .ne 55, 3) := by decide +kernel
theorem dL_named_20 : decode cL_named 20 = .ok (.iload 12, 2) := by decide +kernel
theorem dL_named_22 : decode cL_named 22 = .ok (.iload_n 2, 1) := by decide +kernel
theorem dL_named_23 : decode cL_named 23 = .ok (.if_icmp .eq 53, 3) := by decide +kernel
theorem dL_named_26 : decode cL_named 26 = .ok (.aload 10, 2) := by decide +kernel
theorem dL_named_28 : decode cL_named 28 = .ok (.iconst 3, 1) := by decide +kernel
theorem dL_named_29 : decode cL_named 29 = .ok (.iload 12, 2) := by decide +kernel
theorem dL_named_31 : decode cL_named 31 = .ok (.imul, 1) := by decide +kernel
theorem dL_named_32 : decode cL_named 32 = .ok (.iaload, 1) := by decide +kernel
theorem dL_named_33 : decode cL_named 33 = .ok (.iconst 1, 1) := by decide +kernel
theorem dL_named_34 : decode cL_named 34 = .ok (.if_icmp .ne 42, 3) := by decide +kernel
theorem dL_named_37 : decode cL_named 37 = .ok (.iload 12, 2) := by decide +kernel
theorem dL_named_39 : decode cL_named 39 = .ok (.aload 10, 2) := by decide +kernel
theorem dL_named_41 : decode cL_named 41 = .ok (.invokestatic 93, 3) := by decide +kernel
theorem dL_named_44 : decode cL_named 44 = .ok (.iload_n 1, 1) := by decide +kernel
theorem dL_named_45 : decode cL_named 45 = .ok (.if_icmp .ne 31, 3) := by decide +kernel
theorem dL_named_48 : decode cL_named 48 = .ok (.iload_n 0, 1) := by decide +kernel
theorem dL_named_49 : decode cL_named 49 = .ok (.iload 12, 2) := by decide +kernel
theorem dL_named_51 : decode cL_named 51 = .ok (.aload 4, 2) := by decide +kernel
theorem dL_named_53 : decode cL_named 53 = .ok (.aload 5, 2) := by decide +kernel
theorem dL_named_55 : decode cL_named 55 = .ok (.aload 6, 2) := by decide +kernel
theorem dL_named_57 : decode cL_named 57 = .ok (.aload 7, 2) := by decide +kernel
theorem dL_named_59 : decode cL_named 59 = .ok (.aload 8, 2) := by decide +kernel
theorem dL_named_61 : decode cL_named 61 = .ok (.aload 9, 2) := by decide +kernel
theorem dL_named_63 : decode cL_named 63 = .ok (.aload 10, 2) := by decide +kernel
theorem dL_named_65 : decode cL_named 65 = .ok (.invokestatic 101, 3) := by decide +kernel
theorem dL_named_68 : decode cL_named 68 = .ok (.iload_n 3, 1) := by decide +kernel
theorem dL_named_69 : decode cL_named 69 = .ok (.if_icmp .ne 7, 3) := by decide +kernel
theorem dL_named_72 : decode cL_named 72 = .ok (.iconst 1, 1) := by decide +kernel
theorem dL_named_73 : decode cL_named 73 = .ok (.goto 4, 3) := by decide +kernel
theorem dL_named_76 : decode cL_named 76 = .ok (.iconst 0, 1) := by decide +kernel
theorem dL_named_77 : decode cL_named 77 = .ok (.istore 11, 2) := by decide +kernel
theorem dL_named_79 : decode cL_named 79 = .ok (.iinc 12 1, 3) := by decide +kernel
theorem dL_named_82 : decode cL_named 82 = .ok (.goto (-76), 3) := by decide +kernel
theorem dL_named_85 : decode cL_named 85 = .ok (.iload 11, 2) := by decide +kernel
theorem dL_named_87 : decode cL_named 87 = .ok (.ireturn, 1) := by decide +kernel
theorem dL_requires_0 : decode cL_requires 0 = .ok (.iload_n 0, 1) := by decide +kernel
theorem dL_requires_1 : decode cL_requires 1 = .ok (.ifCond .ge 7, 3) := by decide +kernel
theorem dL_requires_4 : decode cL_requires 4 = .ok (.iconst 0, 1) := by decide +kernel
theorem dL_requires_5 : decode cL_requires 5 = .ok (.goto 66, 3) := by decide +kernel
theorem dL_requires_8 : decode cL_requires 8 = .ok (.aload_n 1, 1) := by decide +kernel
theorem dL_requires_9 : decode cL_requires 9 = .ok (.iconst 3, 1) := by decide +kernel
theorem dL_requires_10 : decode cL_requires 10 = .ok (.iload_n 0, 1) := by decide +kernel
theorem dL_requires_11 : decode cL_requires 11 = .ok (.imul, 1) := by decide +kernel
theorem dL_requires_12 : decode cL_requires 12 = .ok (.iconst 1, 1) := by decide +kernel
theorem dL_requires_13 : decode cL_requires 13 = .ok (.iadd, 1) := by decide +kernel
theorem dL_requires_14 : decode cL_requires 14 = .ok (.iaload, 1) := by decide +kernel
theorem dL_requires_15 : decode cL_requires 15 = .ok (.aload_n 1, 1) := by decide +kernel
theorem dL_requires_16 : decode cL_requires 16 = .ok (.iconst 3, 1) := by decide +kernel
theorem dL_requires_17 : decode cL_requires 17 = .ok (.iload_n 0, 1) := by decide +kernel
theorem dL_requires_18 : decode cL_requires 18 = .ok (.imul, 1) := by decide +kernel
theorem dL_requires_19 : decode cL_requires 19 = .ok (.iaload, 1) := by decide +kernel
theorem dL_requires_20 : decode cL_requires 20 = .ok (.ifCond .ge 7, 3) := by decide +kernel
theorem dL_requires_23 : decode cL_requires 23 = .ok (.iconst 0, 1) := by decide +kernel
theorem dL_requires_24 : decode cL_requires 24 = .ok (.goto 46, 3) := by decide +kernel
theorem dL_requires_27 : decode cL_requires 27 = .ok (.aload_n 1, 1) := by decide +kernel
theorem dL_requires_28 : decode cL_requires 28 = .ok (.iconst 3, 1) := by decide +kernel
theorem dL_requires_29 : decode cL_requires 29 = .ok (.aload_n 1, 1) := by decide +kernel
theorem dL_requires_30 : decode cL_requires 30 = .ok (.iconst 3, 1) := by decide +kernel
theorem dL_requires_31 : decode cL_requires 31 = .ok (.iload_n 0, 1) := by decide +kernel
theorem dL_requires_32 : decode cL_requires 32 = .ok (.imul, 1) := by decide +kernel
theorem dL_requires_33 : decode cL_requires 33 = .ok (.iaload, 1) := by decide +kernel
theorem dL_requires_34 : decode cL_requires 34 = .ok (.imul, 1) := by decide +kernel
theorem dL_requires_35 : decode cL_requires 35 = .ok (.iconst 1, 1) := by decide +kernel
theorem dL_requires_36 : decode cL_requires 36 = .ok (.iadd, 1) := by decide +kernel
theorem dL_requires_37 : decode cL_requires 37 = .ok (.iaload, 1) := by decide +kernel
theorem dL_requires_38 : decode cL_requires 38 = .ok (.aload_n 1, 1) := by decide +kernel
theorem dL_requires_39 : decode cL_requires 39 = .ok (.iconst 3, 1) := by decide +kernel
theorem dL_requires_40 : decode cL_requires 40 = .ok (.aload_n 1, 1) := by decide +kernel
theorem dL_requires_41 : decode cL_requires 41 = .ok (.iconst 3, 1) := by decide +kernel
theorem dL_requires_42 : decode cL_requires 42 = .ok (.iload_n 0, 1) := by decide +kernel
theorem dL_requires_43 : decode cL_requires 43 = .ok (.imul, 1) := by decide +kernel
theorem dL_requires_44 : decode cL_requires 44 = .ok (.iaload, 1) := by decide +kernel
theorem dL_requires_45 : decode cL_requires 45 = .ok (.imul, 1) := by decide +kernel
theorem dL_requires_46 : decode cL_requires 46 = .ok (.iaload, 1) := by decide +kernel
theorem dL_requires_47 : decode cL_requires 47 = .ok (.ifCond .ge 7, 3) := by decide +kernel
theorem dL_requires_50 : decode cL_requires 50 = .ok (.iconst 0, 1) := by decide +kernel
theorem dL_requires_51 : decode cL_requires 51 = .ok (.goto 18, 3) := by decide +kernel
theorem dL_requires_54 : decode cL_requires 54 = .ok (.aload_n 1, 1) := by decide +kernel
theorem dL_requires_55 : decode cL_requires 55 = .ok (.iconst 3, 1) := by decide +kernel
theorem dL_requires_56 : decode cL_requires 56 = .ok (.aload_n 1, 1) := by decide +kernel
theorem dL_requires_57 : decode cL_requires 57 = .ok (.iconst 3, 1) := by decide +kernel
theorem dL_requires_58 : decode cL_requires 58 = .ok (.aload_n 1, 1) := by decide +kernel
theorem dL_requires_59 : decode cL_requires 59 = .ok (.iconst 3, 1) := by decide +kernel
theorem dL_requires_60 : decode cL_requires 60 = .ok (.iload_n 0, 1) := by decide +kernel
theorem dL_requires_61 : decode cL_requires 61 = .ok (.imul, 1) := by decide +kernel
theorem dL_requires_62 : decode cL_requires 62 = .ok (.iaload, 1) := by decide +kernel
theorem dL_requires_63 : decode cL_requires 63 = .ok (.imul, 1) := by decide +kernel
theorem dL_requires_64 : decode cL_requires 64 = .ok (.iaload, 1) := by decide +kernel
theorem dL_requires_65 : decode cL_requires 65 = .ok (.imul, 1) := by decide +kernel
theorem dL_requires_66 : decode cL_requires 66 = .ok (.iconst 1, 1) := by decide +kernel
theorem dL_requires_67 : decode cL_requires 67 = .ok (.iadd, 1) := by decide +kernel
theorem dL_requires_68 : decode cL_requires 68 = .ok (.iaload, 1) := by decide +kernel
theorem dL_requires_69 : decode cL_requires 69 = .ok (.ior, 1) := by decide +kernel
theorem dL_requires_70 : decode cL_requires 70 = .ok (.ior, 1) := by decide +kernel
theorem dL_requires_71 : decode cL_requires 71 = .ok (.ireturn, 1) := by decide +kernel
theorem dL_allows_0 : decode cL_allows 0 = .ok (.iconst 0, 1) := by decide +kernel
theorem dL_allows_1 : decode cL_allows 1 = .ok (.istore_n 2, 1) := by decide +kernel
theorem dL_allows_2 : decode cL_allows 2 = .ok (.iload_n 0, 1) := by decide +kernel
theorem dL_allows_3 : decode cL_allows 3 = .ok (.istore_n 3, 1) := by decide +kernel
theorem dL_allows_4 : decode cL_allows 4 = .ok (.iload_n 3, 1) := by decide +kernel
theorem dL_allows_5 : decode cL_allows 5 = .ok (.ifCond .lt 30, 3) := by decide +kernel
theorem dL_allows_8 : decode cL_allows 8 = .ok (.iload_n 2, 1) := by decide +kernel
theorem dL_allows_9 : decode cL_allows 9 = .ok (.aload_n 1, 1) := by decide +kernel
theorem dL_allows_10 : decode cL_allows 10 = .ok (.iconst 3, 1) := by decide +kernel
theorem dL_allows_11 : decode cL_allows 11 = .ok (.iload_n 3, 1) := by decide +kernel
theorem dL_allows_12 : decode cL_allows 12 = .ok (.imul, 1) := by decide +kernel
theorem dL_allows_13 : decode cL_allows 13 = .ok (.iconst 1, 1) := by decide +kernel
theorem dL_allows_14 : decode cL_allows 14 = .ok (.iadd, 1) := by decide +kernel
theorem dL_allows_15 : decode cL_allows 15 = .ok (.iaload, 1) := by decide +kernel
theorem dL_allows_16 : decode cL_allows 16 = .ok (.aload_n 1, 1) := by decide +kernel
theorem dL_allows_17 : decode cL_allows 17 = .ok (.iconst 3, 1) := by decide +kernel
theorem dL_allows_18 : decode cL_allows 18 = .ok (.iload_n 3, 1) := by decide +kernel
theorem dL_allows_19 : decode cL_allows 19 = .ok (.imul, 1) := by decide +kernel
theorem dL_allows_20 : decode cL_allows 20 = .ok (.iconst 2, 1) := by decide +kernel
theorem dL_allows_21 : decode cL_allows 21 = .ok (.iadd, 1) := by decide +kernel
theorem dL_allows_22 : decode cL_allows 22 = .ok (.iaload, 1) := by decide +kernel
theorem dL_allows_23 : decode cL_allows 23 = .ok (.ior, 1) := by decide +kernel
theorem dL_allows_24 : decode cL_allows 24 = .ok (.ior, 1) := by decide +kernel
theorem dL_allows_25 : decode cL_allows 25 = .ok (.istore_n 2, 1) := by decide +kernel
theorem dL_allows_26 : decode cL_allows 26 = .ok (.aload_n 1, 1) := by decide +kernel
theorem dL_allows_27 : decode cL_allows 27 = .ok (.iconst 3, 1) := by decide +kernel
theorem dL_allows_28 : decode cL_allows 28 = .ok (.iload_n 3, 1) := by decide +kernel
theorem dL_allows_29 : decode cL_allows 29 = .ok (.imul, 1) := by decide +kernel
theorem dL_allows_30 : decode cL_allows 30 = .ok (.iaload, 1) := by decide +kernel
theorem dL_allows_31 : decode cL_allows 31 = .ok (.istore_n 3, 1) := by decide +kernel
theorem dL_allows_32 : decode cL_allows 32 = .ok (.goto (-28), 3) := by decide +kernel
theorem dL_allows_35 : decode cL_allows 35 = .ok (.iload_n 2, 1) := by decide +kernel
theorem dL_allows_36 : decode cL_allows 36 = .ok (.ireturn, 1) := by decide +kernel
theorem dL_bits_0 : decode cL_bits 0 = .ok (.iconst 0, 1) := by decide +kernel
theorem dL_bits_1 : decode cL_bits 1 = .ok (.istore_n 2, 1) := by decide +kernel
theorem dL_bits_2 : decode cL_bits 2 = .ok (.iconst 0, 1) := by decide +kernel
theorem dL_bits_3 : decode cL_bits 3 = .ok (.istore_n 3, 1) := by decide +kernel
theorem dL_bits_4 : decode cL_bits 4 = .ok (.iload_n 3, 1) := by decide +kernel
theorem dL_bits_5 : decode cL_bits 5 = .ok (.bipush 60, 2) := by decide +kernel
theorem dL_bits_7 : decode cL_bits 7 = .ok (.if_icmp .ge 18, 3) := by decide +kernel
theorem dL_bits_10 : decode cL_bits 10 = .ok (.iload_n 2, 1) := by decide +kernel
theorem dL_bits_11 : decode cL_bits 11 = .ok (.lload_n 0, 1) := by decide +kernel
theorem dL_bits_12 : decode cL_bits 12 = .ok (.iload_n 3, 1) := by decide +kernel
theorem dL_bits_13 : decode cL_bits 13 = .ok (.lshr, 1) := by decide +kernel
theorem dL_bits_14 : decode cL_bits 14 = .ok (.lconst 1, 1) := by decide +kernel
theorem dL_bits_15 : decode cL_bits 15 = .ok (.land, 1) := by decide +kernel
theorem dL_bits_16 : decode cL_bits 16 = .ok (.l2i, 1) := by decide +kernel
theorem dL_bits_17 : decode cL_bits 17 = .ok (.iadd, 1) := by decide +kernel
theorem dL_bits_18 : decode cL_bits 18 = .ok (.istore_n 2, 1) := by decide +kernel
theorem dL_bits_19 : decode cL_bits 19 = .ok (.iinc 3 1, 3) := by decide +kernel
theorem dL_bits_22 : decode cL_bits 22 = .ok (.goto (-18), 3) := by decide +kernel
theorem dL_bits_25 : decode cL_bits 25 = .ok (.iload_n 2, 1) := by decide +kernel
theorem dL_bits_26 : decode cL_bits 26 = .ok (.ireturn, 1) := by decide +kernel
theorem dL_says_0 : decode cL_says 0 = .ok (.aload 5, 2) := by decide +kernel
theorem dL_says_2 : decode cL_says 2 = .ok (.iconst 1, 1) := by decide +kernel
theorem dL_says_3 : decode cL_says 3 = .ok (.iaload, 1) := by decide +kernel
theorem dL_says_4 : decode cL_says 4 = .ok (.iconst 1, 1) := by decide +kernel
theorem dL_says_5 : decode cL_says 5 = .ok (.isub, 1) := by decide +kernel
theorem dL_says_6 : decode cL_says 6 = .ok (.istore 12, 2) := by decide +kernel
theorem dL_says_8 : decode cL_says 8 = .ok (.iload 12, 2) := by decide +kernel
theorem dL_says_10 : decode cL_says 10 = .ok (.ifCond .lt 61, 3) := by decide +kernel
theorem dL_says_13 : decode cL_says 13 = .ok (.aload 8, 2) := by decide +kernel
theorem dL_says_15 : decode cL_says 15 = .ok (.iload 12, 2) := by decide +kernel
theorem dL_says_17 : decode cL_says 17 = .ok (.iaload, 1) := by decide +kernel
theorem dL_says_18 : decode cL_says 18 = .ok (.bipush 96, 2) := by decide +kernel
theorem dL_says_20 : decode cL_says 20 = .ok (.iload_n 1, 1) := by decide +kernel
theorem dL_says_21 : decode cL_says 21 = .ok (.iadd, 1) := by decide +kernel
theorem dL_says_22 : decode cL_says 22 = .ok (.if_icmp .ne 43, 3) := by decide +kernel
theorem dL_says_25 : decode cL_says 25 = .ok (.aload 9, 2) := by decide +kernel
theorem dL_says_27 : decode cL_says 27 = .ok (.iload 12, 2) := by decide +kernel
theorem dL_says_29 : decode cL_says 29 = .ok (.iaload, 1) := by decide +kernel
theorem dL_says_30 : decode cL_says 30 = .ok (.bipush 6, 2) := by decide +kernel
theorem dL_says_32 : decode cL_says 32 = .ok (.iload_n 2, 1) := by decide +kernel
theorem dL_says_33 : decode cL_says 33 = .ok (.imul, 1) := by decide +kernel
theorem dL_says_34 : decode cL_says 34 = .ok (.iconst 2, 1) := by decide +kernel
theorem dL_says_35 : decode cL_says 35 = .ok (.iload_n 3, 1) := by decide +kernel
theorem dL_says_36 : decode cL_says 36 = .ok (.imul, 1) := by decide +kernel
theorem dL_says_37 : decode cL_says 37 = .ok (.iadd, 1) := by decide +kernel
theorem dL_says_38 : decode cL_says 38 = .ok (.iload 4, 2) := by decide +kernel
theorem dL_says_40 : decode cL_says 40 = .ok (.iadd, 1) := by decide +kernel
theorem dL_says_41 : decode cL_says 41 = .ok (.if_icmp .ne 24, 3) := by decide +kernel
theorem dL_says_44 : decode cL_says 44 = .ok (.iload_n 0, 1) := by decide +kernel
theorem dL_says_45 : decode cL_says 45 = .ok (.iload 12, 2) := by decide +kernel
theorem dL_says_47 : decode cL_says 47 = .ok (.aload 6, 2) := by decide +kernel
theorem dL_says_49 : decode cL_says 49 = .ok (.aload 7, 2) := by decide +kernel
theorem dL_says_51 : decode cL_says 51 = .ok (.aload 11, 2) := by decide +kernel
theorem dL_says_53 : decode cL_says 53 = .ok (.invokestatic 73, 3) := by decide +kernel
theorem dL_says_56 : decode cL_says 56 = .ok (.ifCond .eq 9, 3) := by decide +kernel
theorem dL_says_59 : decode cL_says 59 = .ok (.aload 10, 2) := by decide +kernel
theorem dL_says_61 : decode cL_says 61 = .ok (.iload 12, 2) := by decide +kernel
theorem dL_says_63 : decode cL_says 63 = .ok (.iaload, 1) := by decide +kernel
theorem dL_says_64 : decode cL_says 64 = .ok (.ireturn, 1) := by decide +kernel
theorem dL_says_65 : decode cL_says 65 = .ok (.iinc 12 (-1), 3) := by decide +kernel
theorem dL_says_68 : decode cL_says 68 = .ok (.goto (-60), 3) := by decide +kernel
theorem dL_says_71 : decode cL_says 71 = .ok (.iconst 0, 1) := by decide +kernel
theorem dL_says_72 : decode cL_says 72 = .ok (.ireturn, 1) := by decide +kernel
theorem dL_sort_0 : decode cL_sort 0 = .ok (.iconst 0, 1) := by decide +kernel
theorem dL_sort_1 : decode cL_sort 1 = .ok (.istore 15, 2) := by decide +kernel
theorem dL_sort_3 : decode cL_sort 3 = .ok (.iload 5, 2) := by decide +kernel
theorem dL_sort_5 : decode cL_sort 5 = .ok (.ifCond .ne 7, 3) := by decide +kernel
theorem dL_sort_8 : decode cL_sort 8 = .ok (.iload_n 1, 1) := by decide +kernel
theorem dL_sort_9 : decode cL_sort 9 = .ok (.goto 16, 3) := by decide +kernel
theorem dL_sort_12 : decode cL_sort 12 = .ok (.iload 5, 2) := by decide +kernel
theorem dL_sort_14 : decode cL_sort 14 = .ok (.iconst 1, 1) := by decide +kernel
theorem dL_sort_15 : decode cL_sort 15 = .ok (.if_icmp .ne 8, 3) := by decide +kernel
theorem dL_sort_18 : decode cL_sort 18 = .ok (.bipush 6, 2) := by decide +kernel
theorem dL_sort_20 : decode cL_sort 20 = .ok (.goto 5, 3) := by decide +kernel
theorem dL_sort_23 : decode cL_sort 23 = .ok (.bipush 18, 2) := by decide +kernel
theorem dL_sort_25 : decode cL_sort 25 = .ok (.istore 16, 2) := by decide +kernel
theorem dL_sort_27 : decode cL_sort 27 = .ok (.iload 5, 2) := by decide +kernel
theorem dL_sort_29 : decode cL_sort 29 = .ok (.ifCond .ne 7, 3) := by decide +kernel
theorem dL_sort_32 : decode cL_sort 32 = .ok (.iload_n 1, 1) := by decide +kernel
theorem dL_sort_33 : decode cL_sort 33 = .ok (.goto 16, 3) := by decide +kernel
theorem dL_sort_36 : decode cL_sort 36 = .ok (.iload 5, 2) := by decide +kernel
theorem dL_sort_38 : decode cL_sort 38 = .ok (.iconst 1, 1) := by decide +kernel
theorem dL_sort_39 : decode cL_sort 39 = .ok (.if_icmp .ne 8, 3) := by decide +kernel
theorem dL_sort_42 : decode cL_sort 42 = .ok (.bipush 17, 2) := by decide +kernel
theorem dL_sort_44 : decode cL_sort 44 = .ok (.goto 5, 3) := by decide +kernel
theorem dL_sort_47 : decode cL_sort 47 = .ok (.bipush 18, 2) := by decide +kernel
theorem dL_sort_49 : decode cL_sort 49 = .ok (.istore 17, 2) := by decide +kernel
theorem dL_sort_51 : decode cL_sort 51 = .ok (.iload 16, 2) := by decide +kernel
theorem dL_sort_53 : decode cL_sort 53 = .ok (.istore 18, 2) := by decide +kernel
theorem dL_sort_55 : decode cL_sort 55 = .ok (.iload 18, 2) := by decide +kernel
theorem dL_sort_57 : decode cL_sort 57 = .ok (.iload 17, 2) := by decide +kernel
theorem dL_sort_59 : decode cL_sort 59 = .ok (.if_icmp .gt 173, 3) := by decide +kernel
theorem dL_sort_62 : decode cL_sort 62 = .ok (.iload 5, 2) := by decide +kernel
theorem dL_sort_64 : decode cL_sort 64 = .ok (.iconst 1, 1) := by decide +kernel
theorem dL_sort_65 : decode cL_sort 65 = .ok (.if_icmp .ne 47, 3) := by decide +kernel
theorem dL_sort_68 : decode cL_sort 68 = .ok (.aload 13, 2) := by decide +kernel
theorem dL_sort_70 : decode cL_sort 70 = .ok (.iconst 3, 1) := by decide +kernel
theorem dL_sort_71 : decode cL_sort 71 = .ok (.iload 18, 2) := by decide +kernel
theorem dL_sort_73 : decode cL_sort 73 = .ok (.bipush 6, 2) := by decide +kernel
theorem dL_sort_75 : decode cL_sort 75 = .ok (.isub, 1) := by decide +kernel
theorem dL_sort_76 : decode cL_sort 76 = .ok (.imul, 1) := by decide +kernel
theorem dL_sort_77 : decode cL_sort 77 = .ok (.iaload, 1) := by decide +kernel
theorem dL_sort_78 : decode cL_sort 78 = .ok (.iconst 1, 1) := by decide +kernel
theorem dL_sort_79 : decode cL_sort 79 = .ok (.if_icmp .ne 37, 3) := by decide +kernel
theorem dL_sort_82 : decode cL_sort 82 = .ok (.aload 6, 2) := by decide +kernel
theorem dL_sort_84 : decode cL_sort 84 = .ok (.iconst 2, 1) := by decide +kernel
theorem dL_sort_85 : decode cL_sort 85 = .ok (.iaload, 1) := by decide +kernel
theorem dL_sort_86 : decode cL_sort 86 = .ok (.ifCond .le 30, 3) := by decide +kernel
theorem dL_sort_89 : decode cL_sort 89 = .ok (.aload 14, 2) := by decide +kernel
theorem dL_sort_91 : decode cL_sort 91 = .ok (.iconst 3, 1) := by decide +kernel
theorem dL_sort_92 : decode cL_sort 92 = .ok (.iload 18, 2) := by decide +kernel
theorem dL_sort_94 : decode cL_sort 94 = .ok (.bipush 6, 2) := by decide +kernel
theorem dL_sort_96 : decode cL_sort 96 = .ok (.isub, 1) := by decide +kernel
theorem dL_sort_97 : decode cL_sort 97 = .ok (.imul, 1) := by decide +kernel
theorem dL_sort_98 : decode cL_sort 98 = .ok (.laload, 1) := by decide +kernel
theorem dL_sort_99 : decode cL_sort 99 = .ok (.iconst 0, 1) := by decide +kernel
theorem dL_sort_100 : decode cL_sort 100 = .ok (.iload_n 1, 1) := by decide +kernel
theorem dL_sort_101 : decode cL_sort 101 = .ok (.aload 6, 2) := by decide +kernel
theorem dL_sort_103 : decode cL_sort 103 = .ok (.invokestatic 65, 3) := by decide +kernel
theorem dL_sort_106 : decode cL_sort 106 = .ok (.land, 1) := by decide +kernel
theorem dL_sort_107 : decode cL_sort 107 = .ok (.lconst 0, 1) := by decide +kernel
theorem dL_sort_108 : decode cL_sort 108 = .ok (.lcmp, 1) := by decide +kernel
theorem dL_sort_109 : decode cL_sort 109 = .ok (.ifCond .eq 7, 3) := by decide +kernel
theorem dL_sort_112 : decode cL_sort 112 = .ok (.iconst 1, 1) := by decide +kernel
theorem dL_sort_113 : decode cL_sort 113 = .ok (.goto 4, 3) := by decide +kernel
theorem dL_sort_116 : decode cL_sort 116 = .ok (.iconst 0, 1) := by decide +kernel
theorem dL_sort_117 : decode cL_sort 117 = .ok (.istore 19, 2) := by decide +kernel
theorem dL_sort_119 : decode cL_sort 119 = .ok (.iload 19, 2) := by decide +kernel
theorem dL_sort_121 : decode cL_sort 121 = .ok (.ifCond .eq 35, 3) := by decide +kernel
theorem dL_sort_124 : decode cL_sort 124 = .ok (.iload_n 3, 1) := by decide +kernel
theorem dL_sort_125 : decode cL_sort 125 = .ok (.iconst 2, 1) := by decide +kernel
theorem dL_sort_126 : decode cL_sort 126 = .ok (.if_icmp .ge 30, 3) := by decide +kernel
theorem dL_sort_129 : decode cL_sort 129 = .ok (.iload_n 0, 1) := by decide +kernel
theorem dL_sort_130 : decode cL_sort 130 = .ok (.iload_n 2, 1) := by decide +kernel
theorem dL_sort_131 : decode cL_sort 131 = .ok (.iload 18, 2) := by decide +kernel
theorem dL_sort_133 : decode cL_sort 133 = .ok (.iload_n 3, 1) := by decide +kernel
theorem dL_sort_134 : decode cL_sort 134 = .ok (.iload 4, 2) := by decide +kernel
theorem dL_sort_136 : decode cL_sort 136 = .ok (.aload 6, 2) := by decide +kernel
theorem dL_sort_138 : decode cL_sort 138 = .ok (.aload 7, 2) := by decide +kernel
theorem dL_sort_140 : decode cL_sort 140 = .ok (.aload 8, 2) := by decide +kernel
theorem dL_sort_142 : decode cL_sort 142 = .ok (.aload 9, 2) := by decide +kernel
theorem dL_sort_144 : decode cL_sort 144 = .ok (.aload 10, 2) := by decide +kernel
theorem dL_sort_146 : decode cL_sort 146 = .ok (.aload 11, 2) := by decide +kernel
theorem dL_sort_148 : decode cL_sort 148 = .ok (.aload 12, 2) := by decide +kernel
theorem dL_sort_150 : decode cL_sort 150 = .ok (.invokestatic 105, 3) := by decide +kernel
theorem dL_sort_153 : decode cL_sort 153 = .ok (.goto 4, 3) := by decide +kernel
theorem dL_sort_156 : decode cL_sort 156 = .ok (.iconst 0, 1) := by decide +kernel
theorem dL_sort_157 : decode cL_sort 157 = .ok (.istore 20, 2) := by decide +kernel
theorem dL_sort_159 : decode cL_sort 159 = .ok (.iload 19, 2) := by decide +kernel
theorem dL_sort_161 : decode cL_sort 161 = .ok (.ifCond .eq 30, 3) := by decide +kernel
theorem dL_sort_164 : decode cL_sort 164 = .ok (.iload_n 0, 1) := by decide +kernel
theorem dL_sort_165 : decode cL_sort 165 = .ok (.iload_n 2, 1) := by decide +kernel
theorem dL_sort_166 : decode cL_sort 166 = .ok (.iload 18, 2) := by decide +kernel
theorem dL_sort_168 : decode cL_sort 168 = .ok (.iconst 2, 1) := by decide +kernel
theorem dL_sort_169 : decode cL_sort 169 = .ok (.iload 4, 2) := by decide +kernel
theorem dL_sort_171 : decode cL_sort 171 = .ok (.aload 6, 2) := by decide +kernel
theorem dL_sort_173 : decode cL_sort 173 = .ok (.aload 7, 2) := by decide +kernel
theorem dL_sort_175 : decode cL_sort 175 = .ok (.aload 8, 2) := by decide +kernel
theorem dL_sort_177 : decode cL_sort 177 = .ok (.aload 9, 2) := by decide +kernel
theorem dL_sort_179 : decode cL_sort 179 = .ok (.aload 10, 2) := by decide +kernel
theorem dL_sort_181 : decode cL_sort 181 = .ok (.aload 11, 2) := by decide +kernel
theorem dL_sort_183 : decode cL_sort 183 = .ok (.aload 12, 2) := by decide +kernel
theorem dL_sort_185 : decode cL_sort 185 = .ok (.invokestatic 105, 3) := by decide +kernel
theorem dL_sort_188 : decode cL_sort 188 = .ok (.goto 4, 3) := by decide +kernel
theorem dL_sort_191 : decode cL_sort 191 = .ok (.iconst 0, 1) := by decide +kernel
theorem dL_sort_192 : decode cL_sort 192 = .ok (.istore 21, 2) := by decide +kernel
theorem dL_sort_194 : decode cL_sort 194 = .ok (.iload 15, 2) := by decide +kernel
theorem dL_sort_196 : decode cL_sort 196 = .ok (.iload 20, 2) := by decide +kernel
theorem dL_sort_198 : decode cL_sort 198 = .ok (.if_icmp .le 8, 3) := by decide +kernel
theorem dL_sort_201 : decode cL_sort 201 = .ok (.iload 15, 2) := by decide +kernel
theorem dL_sort_203 : decode cL_sort 203 = .ok (.goto 5, 3) := by decide +kernel
theorem dL_sort_206 : decode cL_sort 206 = .ok (.iload 20, 2) := by decide +kernel
theorem dL_sort_208 : decode cL_sort 208 = .ok (.istore 15, 2) := by decide +kernel
theorem dL_sort_210 : decode cL_sort 210 = .ok (.iload 15, 2) := by decide +kernel
theorem dL_sort_212 : decode cL_sort 212 = .ok (.iload 21, 2) := by decide +kernel
theorem dL_sort_214 : decode cL_sort 214 = .ok (.if_icmp .le 8, 3) := by decide +kernel
theorem dL_sort_217 : decode cL_sort 217 = .ok (.iload 15, 2) := by decide +kernel
theorem dL_sort_219 : decode cL_sort 219 = .ok (.goto 5, 3) := by decide +kernel
theorem dL_sort_222 : decode cL_sort 222 = .ok (.iload 21, 2) := by decide +kernel
theorem dL_sort_224 : decode cL_sort 224 = .ok (.istore 15, 2) := by decide +kernel
theorem dL_sort_226 : decode cL_sort 226 = .ok (.iinc 18 1, 3) := by decide +kernel
theorem dL_sort_229 : decode cL_sort 229 = .ok (.goto (-174), 3) := by decide +kernel
theorem dL_sort_232 : decode cL_sort 232 = .ok (.iload 15, 2) := by decide +kernel
theorem dL_sort_234 : decode cL_sort 234 = .ok (.ireturn, 1) := by decide +kernel
theorem dL_may_0 : decode cL_may 0 = .ok (.iload_n 1, 1) := by decide +kernel
theorem dL_may_1 : decode cL_may 1 = .ok (.ifCond .ne 5, 3) := by decide +kernel
theorem dL_may_4 : decode cL_may 4 = .ok (.iconst 1, 1) := by decide +kernel
theorem dL_may_5 : decode cL_may 5 = .ok (.ireturn, 1) := by decide +kernel
theorem dL_may_6 : decode cL_may 6 = .ok (.iload_n 2, 1) := by decide +kernel
theorem dL_may_7 : decode cL_may 7 = .ok (.istore 13, 2) := by decide +kernel
theorem dL_may_9 : decode cL_may 9 = .ok (.iconst 0, 1) := by decide +kernel
theorem dL_may_10 : decode cL_may 10 = .ok (.istore 14, 2) := by decide +kernel
theorem dL_may_12 : decode cL_may 12 = .ok (.iload 13, 2) := by decide +kernel
theorem dL_may_14 : decode cL_may 14 = .ok (.ifCond .lt 82, 3) := by decide +kernel
theorem dL_may_17 : decode cL_may 17 = .ok (.iconst 0, 1) := by decide +kernel
theorem dL_may_18 : decode cL_may 18 = .ok (.istore 15, 2) := by decide +kernel
theorem dL_may_20 : decode cL_may 20 = .ok (.iload 15, 2) := by decide +kernel
theorem dL_may_22 : decode cL_may 22 = .ok (.iconst 3, 1) := by decide +kernel
theorem dL_may_23 : decode cL_may 23 = .ok (.if_icmp .ge 58, 3) := by decide +kernel
theorem dL_may_26 : decode cL_may 26 = .ok (.iload_n 0, 1) := by decide +kernel
theorem dL_may_27 : decode cL_may 27 = .ok (.iload_n 1, 1) := by decide +kernel
theorem dL_may_28 : decode cL_may 28 = .ok (.iload 13, 2) := by decide +kernel
theorem dL_may_30 : decode cL_may 30 = .ok (.iload 14, 2) := by decide +kernel
theorem dL_may_32 : decode cL_may 32 = .ok (.iload_n 3, 1) := by decide +kernel
theorem dL_may_33 : decode cL_may 33 = .ok (.iload 15, 2) := by decide +kernel
theorem dL_may_35 : decode cL_may 35 = .ok (.aload 4, 2) := by decide +kernel
theorem dL_may_37 : decode cL_may 37 = .ok (.aload 5, 2) := by decide +kernel
theorem dL_may_39 : decode cL_may 39 = .ok (.aload 6, 2) := by decide +kernel
theorem dL_may_41 : decode cL_may 41 = .ok (.aload 7, 2) := by decide +kernel
theorem dL_may_43 : decode cL_may 43 = .ok (.aload 8, 2) := by decide +kernel
theorem dL_may_45 : decode cL_may 45 = .ok (.aload 9, 2) := by decide +kernel
theorem dL_may_47 : decode cL_may 47 = .ok (.aload 10, 2) := by decide +kernel
theorem dL_may_49 : decode cL_may 49 = .ok (.aload 11, 2) := by decide +kernel
theorem dL_may_51 : decode cL_may 51 = .ok (.aload 12, 2) := by decide +kernel
theorem dL_may_53 : decode cL_may 53 = .ok (.invokestatic 109, 3) := by decide +kernel
theorem dL_may_56 : decode cL_may 56 = .ok (.istore 16, 2) := by decide +kernel
theorem dL_may_58 : decode cL_may 58 = .ok (.iload 16, 2) := by decide +kernel
theorem dL_may_60 : decode cL_may 60 = .ok (.ifCond .le 15, 3) := by decide +kernel
theorem dL_may_63 : decode cL_may 63 = .ok (.iload 16, 2) := by decide +kernel
theorem dL_may_65 : decode cL_may 65 = .ok (.iconst 1, 1) := by decide +kernel
theorem dL_may_66 : decode cL_may 66 = .ok (.if_icmp .ne 7, 3) := by decide +kernel
theorem dL_may_69 : decode cL_may 69 = .ok (.iconst 1, 1) := by decide +kernel
theorem dL_may_70 : decode cL_may 70 = .ok (.goto 4, 3) := by decide +kernel
theorem dL_may_73 : decode cL_may 73 = .ok (.iconst 0, 1) := by decide +kernel
theorem dL_may_74 : decode cL_may 74 = .ok (.ireturn, 1) := by decide +kernel
theorem dL_may_75 : decode cL_may 75 = .ok (.iinc 15 1, 3) := by decide +kernel
theorem dL_may_78 : decode cL_may 78 = .ok (.goto (-58), 3) := by decide +kernel
theorem dL_may_81 : decode cL_may 81 = .ok (.iload 13, 2) := by decide +kernel
theorem dL_may_83 : decode cL_may 83 = .ok (.aload 11, 2) := by decide +kernel
theorem dL_may_85 : decode cL_may 85 = .ok (.invokestatic 93, 3) := by decide +kernel
theorem dL_may_88 : decode cL_may 88 = .ok (.istore 13, 2) := by decide +kernel
theorem dL_may_90 : decode cL_may 90 = .ok (.iinc 14 1, 3) := by decide +kernel
theorem dL_may_93 : decode cL_may 93 = .ok (.goto (-81), 3) := by decide +kernel
theorem dL_may_96 : decode cL_may 96 = .ok (.iload_n 3, 1) := by decide +kernel
theorem dL_may_97 : decode cL_may 97 = .ok (.ifCond .ne 7, 3) := by decide +kernel
theorem dL_may_100 : decode cL_may 100 = .ok (.iconst 1, 1) := by decide +kernel
theorem dL_may_101 : decode cL_may 101 = .ok (.goto 4, 3) := by decide +kernel
theorem dL_may_104 : decode cL_may 104 = .ok (.iconst 0, 1) := by decide +kernel
theorem dL_may_105 : decode cL_may 105 = .ok (.ireturn, 1) := by decide +kernel
theorem dL_makes_0 : decode cL_makes 0 = .ok (.iconst 0, 1) := by decide +kernel
theorem dL_makes_1 : decode cL_makes 1 = .ok (.istore 15, 2) := by decide +kernel
theorem dL_makes_3 : decode cL_makes 3 = .ok (.iconst 0, 1) := by decide +kernel
theorem dL_makes_4 : decode cL_makes 4 = .ok (.istore 16, 2) := by decide +kernel
theorem dL_makes_6 : decode cL_makes 6 = .ok (.iload 16, 2) := by decide +kernel
theorem dL_makes_8 : decode cL_makes 8 = .ok (.aload 7, 2) := by decide +kernel
theorem dL_makes_10 : decode cL_makes 10 = .ok (.iconst 1, 1) := by decide +kernel
theorem dL_makes_11 : decode cL_makes 11 = .ok (.iaload, 1) := by decide +kernel
theorem dL_makes_12 : decode cL_makes 12 = .ok (.if_icmp .ge 50, 3) := by decide +kernel
theorem dL_makes_15 : decode cL_makes 15 = .ok (.iload_n 0, 1) := by decide +kernel
theorem dL_makes_16 : decode cL_makes 16 = .ok (.iload 16, 2) := by decide +kernel
theorem dL_makes_18 : decode cL_makes 18 = .ok (.aload 8, 2) := by decide +kernel
theorem dL_makes_20 : decode cL_makes 20 = .ok (.aload 9, 2) := by decide +kernel
theorem dL_makes_22 : decode cL_makes 22 = .ok (.aload 14, 2) := by decide +kernel
theorem dL_makes_24 : decode cL_makes 24 = .ok (.invokestatic 73, 3) := by decide +kernel
theorem dL_makes_27 : decode cL_makes 27 = .ok (.ifCond .eq 25, 3) := by decide +kernel
theorem dL_makes_30 : decode cL_makes 30 = .ok (.aload 8, 2) := by decide +kernel
theorem dL_makes_32 : decode cL_makes 32 = .ok (.iload 16, 2) := by decide +kernel
theorem dL_makes_34 : decode cL_makes 34 = .ok (.iaload, 1) := by decide +kernel
theorem dL_makes_35 : decode cL_makes 35 = .ok (.iconst 4, 1) := by decide +kernel
theorem dL_makes_36 : decode cL_makes 36 = .ok (.idiv, 1) := by decide +kernel
theorem dL_makes_37 : decode cL_makes 37 = .ok (.iload 15, 2) := by decide +kernel
theorem dL_makes_39 : decode cL_makes 39 = .ok (.if_icmp .le 13, 3) := by decide +kernel
theorem dL_makes_42 : decode cL_makes 42 = .ok (.aload 8, 2) := by decide +kernel
theorem dL_makes_44 : decode cL_makes 44 = .ok (.iload 16, 2) := by decide +kernel
theorem dL_makes_46 : decode cL_makes 46 = .ok (.iaload, 1) := by decide +kernel
theorem dL_makes_47 : decode cL_makes 47 = .ok (.iconst 4, 1) := by decide +kernel
theorem dL_makes_48 : decode cL_makes 48 = .ok (.idiv, 1) := by decide +kernel
theorem dL_makes_49 : decode cL_makes 49 = .ok (.goto 5, 3) := by decide +kernel
theorem dL_makes_52 : decode cL_makes 52 = .ok (.iload 15, 2) := by decide +kernel
theorem dL_makes_54 : decode cL_makes 54 = .ok (.istore 15, 2) := by decide +kernel
theorem dL_makes_56 : decode cL_makes 56 = .ok (.iinc 16 1, 3) := by decide +kernel
theorem dL_makes_59 : decode cL_makes 59 = .ok (.goto (-53), 3) := by decide +kernel
theorem dL_makes_62 : decode cL_makes 62 = .ok (.iconst 4, 1) := by decide +kernel
theorem dL_makes_63 : decode cL_makes 63 = .ok (.iload 15, 2) := by decide +kernel
theorem dL_makes_65 : decode cL_makes 65 = .ok (.imul, 1) := by decide +kernel
theorem dL_makes_66 : decode cL_makes 66 = .ok (.iconst 4, 1) := by decide +kernel
theorem dL_makes_67 : decode cL_makes 67 = .ok (.iadd, 1) := by decide +kernel
theorem dL_makes_68 : decode cL_makes 68 = .ok (.iload_n 0, 1) := by decide +kernel
theorem dL_makes_69 : decode cL_makes 69 = .ok (.iadd, 1) := by decide +kernel
theorem dL_makes_70 : decode cL_makes 70 = .ok (.istore 16, 2) := by decide +kernel
theorem dL_makes_72 : decode cL_makes 72 = .ok (.aload 7, 2) := by decide +kernel
theorem dL_makes_74 : decode cL_makes 74 = .ok (.iconst 1, 1) := by decide +kernel
theorem dL_makes_75 : decode cL_makes 75 = .ok (.iaload, 1) := by decide +kernel
theorem dL_makes_76 : decode cL_makes 76 = .ok (.istore 17, 2) := by decide +kernel
theorem dL_makes_78 : decode cL_makes 78 = .ok (.iload 17, 2) := by decide +kernel
theorem dL_makes_80 : decode cL_makes 80 = .ok (.ifCond .le 93, 3) := by decide +kernel
theorem dL_makes_83 : decode cL_makes 83 = .ok (.aload 8, 2) := by decide +kernel
theorem dL_makes_85 : decode cL_makes 85 = .ok (.iload 17, 2) := by decide +kernel
theorem dL_makes_87 : decode cL_makes 87 = .ok (.iconst 1, 1) := by decide +kernel
theorem dL_makes_88 : decode cL_makes 88 = .ok (.isub, 1) := by decide +kernel
theorem dL_makes_89 : decode cL_makes 89 = .ok (.iaload, 1) := by decide +kernel
theorem dL_makes_90 : decode cL_makes 90 = .ok (.iload 16, 2) := by decide +kernel
theorem dL_makes_92 : decode cL_makes 92 = .ok (.if_icmp .le 81, 3) := by decide +kernel
theorem dL_makes_95 : decode cL_makes 95 = .ok (.aload 8, 2) := by decide +kernel
theorem dL_makes_97 : decode cL_makes 97 = .ok (.iload 17, 2) := by decide +kernel
theorem dL_makes_99 : decode cL_makes 99 = .ok (.aload 8, 2) := by decide +kernel
theorem dL_makes_101 : decode cL_makes 101 = .ok (.iload 17, 2) := by decide +kernel
theorem dL_makes_103 : decode cL_makes 103 = .ok (.iconst 1, 1) := by decide +kernel
theorem dL_makes_104 : decode cL_makes 104 = .ok (.isub, 1) := by decide +kernel
theorem dL_makes_105 : decode cL_makes 105 = .ok (.iaload, 1) := by decide +kernel
theorem dL_makes_106 : decode cL_makes 106 = .ok (.iastore, 1) := by decide +kernel
theorem dL_makes_107 : decode cL_makes 107 = .ok (.aload 9, 2) := by decide +kernel
theorem dL_makes_109 : decode cL_makes 109 = .ok (.iload 17, 2) := by decide +kernel
theorem dL_makes_111 : decode cL_makes 111 = .ok (.aload 9, 2) := by decide +kernel
theorem dL_makes_113 : decode cL_makes 113 = .ok (.iload 17, 2) := by decide +kernel
theorem dL_makes_115 : decode cL_makes 115 = .ok (.iconst 1, 1) := by decide +kernel
theorem dL_makes_116 : decode cL_makes 116 = .ok (.isub, 1) := by decide +kernel
theorem dL_makes_117 : decode cL_makes 117 = .ok (.iaload, 1) := by decide +kernel
theorem dL_makes_118 : decode cL_makes 118 = .ok (.iastore, 1) := by decide +kernel
theorem dL_makes_119 : decode cL_makes 119 = .ok (.aload 10, 2) := by decide +kernel
theorem dL_makes_121 : decode cL_makes 121 = .ok (.iload 17, 2) := by decide +kernel
theorem dL_makes_123 : decode cL_makes 123 = .ok (.aload 10, 2) := by decide +kernel
theorem dL_makes_125 : decode cL_makes 125 = .ok (.iload 17, 2) := by decide +kernel
theorem dL_makes_127 : decode cL_makes 127 = .ok (.iconst 1, 1) := by decide +kernel
theorem dL_makes_128 : decode cL_makes 128 = .ok (.isub, 1) := by decide +kernel
theorem dL_makes_129 : decode cL_makes 129 = .ok (.iaload, 1) := by decide +kernel
theorem dL_makes_130 : decode cL_makes 130 = .ok (.iastore, 1) := by decide +kernel
theorem dL_makes_131 : decode cL_makes 131 = .ok (.aload 11, 2) := by decide +kernel
theorem dL_makes_133 : decode cL_makes 133 = .ok (.iload 17, 2) := by decide +kernel
theorem dL_makes_135 : decode cL_makes 135 = .ok (.aload 11, 2) := by decide +kernel
theorem dL_makes_137 : decode cL_makes 137 = .ok (.iload 17, 2) := by decide +kernel
theorem dL_makes_139 : decode cL_makes 139 = .ok (.iconst 1, 1) := by decide +kernel
theorem dL_makes_140 : decode cL_makes 140 = .ok (.isub, 1) := by decide +kernel
theorem dL_makes_141 : decode cL_makes 141 = .ok (.iaload, 1) := by decide +kernel
theorem dL_makes_142 : decode cL_makes 142 = .ok (.iastore, 1) := by decide +kernel
theorem dL_makes_143 : decode cL_makes 143 = .ok (.aload 12, 2) := by decide +kernel
theorem dL_makes_145 : decode cL_makes 145 = .ok (.iload 17, 2) := by decide +kernel
theorem dL_makes_147 : decode cL_makes 147 = .ok (.aload 12, 2) := by decide +kernel
theorem dL_makes_149 : decode cL_makes 149 = .ok (.iload 17, 2) := by decide +kernel
theorem dL_makes_151 : decode cL_makes 151 = .ok (.iconst 1, 1) := by decide +kernel
theorem dL_makes_152 : decode cL_makes 152 = .ok (.isub, 1) := by decide +kernel
theorem dL_makes_153 : decode cL_makes 153 = .ok (.iaload, 1) := by decide +kernel
theorem dL_makes_154 : decode cL_makes 154 = .ok (.iastore, 1) := by decide +kernel
theorem dL_makes_155 : decode cL_makes 155 = .ok (.aload 13, 2) := by decide +kernel
theorem dL_makes_157 : decode cL_makes 157 = .ok (.iload 17, 2) := by decide +kernel
theorem dL_makes_159 : decode cL_makes 159 = .ok (.aload 13, 2) := by decide +kernel
theorem dL_makes_161 : decode cL_makes 161 = .ok (.iload 17, 2) := by decide +kernel
theorem dL_makes_163 : decode cL_makes 163 = .ok (.iconst 1, 1) := by decide +kernel
theorem dL_makes_164 : decode cL_makes 164 = .ok (.isub, 1) := by decide +kernel
theorem dL_makes_165 : decode cL_makes 165 = .ok (.laload, 1) := by decide +kernel
theorem dL_makes_166 : decode cL_makes 166 = .ok (.lastore, 1) := by decide +kernel
theorem dL_makes_167 : decode cL_makes 167 = .ok (.iinc 17 (-1), 3) := by decide +kernel
theorem dL_makes_170 : decode cL_makes 170 = .ok (.goto (-92), 3) := by decide +kernel
theorem dL_makes_173 : decode cL_makes 173 = .ok (.aload 8, 2) := by decide +kernel
theorem dL_makes_175 : decode cL_makes 175 = .ok (.iload 17, 2) := by decide +kernel
theorem dL_makes_177 : decode cL_makes 177 = .ok (.iload 16, 2) := by decide +kernel
theorem dL_makes_179 : decode cL_makes 179 = .ok (.iastore, 1) := by decide +kernel
theorem dL_makes_180 : decode cL_makes 180 = .ok (.aload 9, 2) := by decide +kernel
theorem dL_makes_182 : decode cL_makes 182 = .ok (.iload 17, 2) := by decide +kernel
theorem dL_makes_184 : decode cL_makes 184 = .ok (.aload 14, 2) := by decide +kernel
theorem dL_makes_186 : decode cL_makes 186 = .ok (.bipush 21, 2) := by decide +kernel
theorem dL_makes_188 : decode cL_makes 188 = .ok (.iload_n 0, 1) := by decide +kernel
theorem dL_makes_189 : decode cL_makes 189 = .ok (.imul, 1) := by decide +kernel
theorem dL_makes_190 : decode cL_makes 190 = .ok (.iaload, 1) := by decide +kernel
theorem dL_makes_191 : decode cL_makes 191 = .ok (.iastore, 1) := by decide +kernel
theorem dL_makes_192 : decode cL_makes 192 = .ok (.aload 10, 2) := by decide +kernel
theorem dL_makes_194 : decode cL_makes 194 = .ok (.iload 17, 2) := by decide +kernel
theorem dL_makes_196 : decode cL_makes 196 = .ok (.bipush 16, 2) := by decide +kernel
theorem dL_makes_198 : decode cL_makes 198 = .ok (.iload_n 1, 1) := by decide +kernel
theorem dL_makes_199 : decode cL_makes 199 = .ok (.imul, 1) := by decide +kernel
theorem dL_makes_200 : decode cL_makes 200 = .ok (.iload_n 2, 1) := by decide +kernel
theorem dL_makes_201 : decode cL_makes 201 = .ok (.iadd, 1) := by decide +kernel
theorem dL_makes_202 : decode cL_makes 202 = .ok (.iastore, 1) := by decide +kernel
theorem dL_makes_203 : decode cL_makes 203 = .ok (.aload 11, 2) := by decide +kernel
theorem dL_makes_205 : decode cL_makes 205 = .ok (.iload 17, 2) := by decide +kernel
theorem dL_makes_207 : decode cL_makes 207 = .ok (.iload_n 3, 1) := by decide +kernel
theorem dL_makes_208 : decode cL_makes 208 = .ok (.iastore, 1) := by decide +kernel
theorem dL_makes_209 : decode cL_makes 209 = .ok (.aload 12, 2) := by decide +kernel
theorem dL_makes_211 : decode cL_makes 211 = .ok (.iload 17, 2) := by decide +kernel
theorem dL_makes_213 : decode cL_makes 213 = .ok (.iload 4, 2) := by decide +kernel
theorem dL_makes_215 : decode cL_makes 215 = .ok (.iastore, 1) := by decide +kernel
theorem dL_makes_216 : decode cL_makes 216 = .ok (.aload 13, 2) := by decide +kernel
theorem dL_makes_218 : decode cL_makes 218 = .ok (.iload 17, 2) := by decide +kernel
theorem dL_makes_220 : decode cL_makes 220 = .ok (.lload 5, 2) := by decide +kernel
theorem dL_makes_222 : decode cL_makes 222 = .ok (.lastore, 1) := by decide +kernel
theorem dL_makes_223 : decode cL_makes 223 = .ok (.aload 7, 2) := by decide +kernel
theorem dL_makes_225 : decode cL_makes 225 = .ok (.iconst 1, 1) := by decide +kernel
theorem dL_makes_226 : decode cL_makes 226 = .ok (.dup2, 1) := by decide +kernel
theorem dL_makes_227 : decode cL_makes 227 = .ok (.iaload, 1) := by decide +kernel
theorem dL_makes_228 : decode cL_makes 228 = .ok (.iconst 1, 1) := by decide +kernel
theorem dL_makes_229 : decode cL_makes 229 = .ok (.iadd, 1) := by decide +kernel
theorem dL_makes_230 : decode cL_makes 230 = .ok (.iastore, 1) := by decide +kernel
theorem dL_makes_231 : decode cL_makes 231 = .ok (.aload 14, 2) := by decide +kernel
theorem dL_makes_233 : decode cL_makes 233 = .ok (.bipush 21, 2) := by decide +kernel
theorem dL_makes_235 : decode cL_makes 235 = .ok (.iload_n 0, 1) := by decide +kernel
theorem dL_makes_236 : decode cL_makes 236 = .ok (.imul, 1) := by decide +kernel
theorem dL_makes_237 : decode cL_makes 237 = .ok (.dup2, 1) := by decide +kernel
theorem dL_makes_238 : decode cL_makes 238 = .ok (.iaload, 1) := by decide +kernel
theorem dL_makes_239 : decode cL_makes 239 = .ok (.iconst 1, 1) := by decide +kernel
theorem dL_makes_240 : decode cL_makes 240 = .ok (.iadd, 1) := by decide +kernel
theorem dL_makes_241 : decode cL_makes 241 = .ok (.iastore, 1) := by decide +kernel
theorem dL_makes_242 : decode cL_makes 242 = .ok (.return_, 1) := by decide +kernel
theorem dL_drafted_0 : decode cL_drafted 0 = .ok (.iconst 1, 1) := by decide +kernel
theorem dL_drafted_1 : decode cL_drafted 1 = .ok (.istore_n 3, 1) := by decide +kernel
theorem dL_drafted_2 : decode cL_drafted 2 = .ok (.iconst 0, 1) := by decide +kernel
theorem dL_drafted_3 : decode cL_drafted 3 = .ok (.istore 4, 2) := by decide +kernel
theorem dL_drafted_5 : decode cL_drafted 5 = .ok (.iconst 0, 1) := by decide +kernel
theorem dL_drafted_6 : decode cL_drafted 6 = .ok (.istore 5, 2) := by decide +kernel
theorem dL_drafted_8 : decode cL_drafted 8 = .ok (.iload 5, 2) := by decide +kernel
theorem dL_drafted_10 : decode cL_drafted 10 = .ok (.aload_n 1, 1) := by decide +kernel
theorem dL_drafted_11 : decode cL_drafted 11 = .ok (.bipush 8, 2) := by decide +kernel
theorem dL_drafted_13 : decode cL_drafted 13 = .ok (.iaload, 1) := by decide +kernel
theorem dL_drafted_14 : decode cL_drafted 14 = .ok (.if_icmp .ge 153, 3) := by decide +kernel
theorem dL_drafted_17 : decode cL_drafted 17 = .ok (.aload_n 1, 1) := by decide +kernel
theorem dL_drafted_18 : decode cL_drafted 18 = .ok (.bipush 9, 2) := by decide +kernel
theorem dL_drafted_20 : decode cL_drafted 20 = .ok (.iload 5, 2) := by decide +kernel
theorem dL_drafted_22 : decode cL_drafted 22 = .ok (.iadd, 1) := by decide +kernel
theorem dL_drafted_23 : decode cL_drafted 23 = .ok (.iaload, 1) := by decide +kernel
theorem dL_drafted_24 : decode cL_drafted 24 = .ok (.bipush 100, 2) := by decide +kernel
theorem dL_drafted_26 : decode cL_drafted 26 = .ok (.idiv, 1) := by decide +kernel
theorem dL_drafted_27 : decode cL_drafted 27 = .ok (.istore 6, 2) := by decide +kernel
theorem dL_drafted_29 : decode cL_drafted 29 = .ok (.iload_n 3, 1) := by decide +kernel
theorem dL_drafted_30 : decode cL_drafted 30 = .ok (.ifCond .eq 21, 3) := by decide +kernel
theorem dL_drafted_33 : decode cL_drafted 33 = .ok (.iload_n 0, 1) := by decide +kernel
theorem dL_drafted_34 : decode cL_drafted 34 = .ok (.aload_n 2, 1) := by decide +kernel
theorem dL_drafted_35 : decode cL_drafted 35 = .ok (.invokestatic 113, 3) := by decide +kernel
theorem dL_drafted_38 : decode cL_drafted 38 = .ok (.iload 6, 2) := by decide +kernel
theorem dL_drafted_40 : decode cL_drafted 40 = .ok (.ishr, 1) := by decide +kernel
theorem dL_drafted_41 : decode cL_drafted 41 = .ok (.iconst 1, 1) := by decide +kernel
theorem dL_drafted_42 : decode cL_drafted 42 = .ok (.iand, 1) := by decide +kernel
theorem dL_drafted_43 : decode cL_drafted 43 = .ok (.iconst 1, 1) := by decide +kernel
theorem dL_drafted_44 : decode cL_drafted 44 = .ok (.if_icmp .ne 7, 3) := by decide +kernel
theorem dL_drafted_47 : decode cL_drafted 47 = .ok (.iconst 1, 1) := by decide +kernel
theorem dL_drafted_48 : decode cL_drafted 48 = .ok (.goto 4, 3) := by decide +kernel
theorem dL_drafted_51 : decode cL_drafted 51 = .ok (.iconst 0, 1) := by decide +kernel
theorem dL_drafted_52 : decode cL_drafted 52 = .ok (.istore_n 3, 1) := by decide +kernel
theorem dL_drafted_53 : decode cL_drafted 53 = .ok (.iconst 0, 1) := by decide +kernel
theorem dL_drafted_54 : decode cL_drafted 54 = .ok (.istore 7, 2) := by decide +kernel
theorem dL_drafted_56 : decode cL_drafted 56 = .ok (.iload 7, 2) := by decide +kernel
theorem dL_drafted_58 : decode cL_drafted 58 = .ok (.iload 5, 2) := by decide +kernel
theorem dL_drafted_60 : decode cL_drafted 60 = .ok (.if_icmp .ge 92, 3) := by decide +kernel
theorem dL_drafted_63 : decode cL_drafted 63 = .ok (.aload_n 1, 1) := by decide +kernel
theorem dL_drafted_64 : decode cL_drafted 64 = .ok (.bipush 9, 2) := by decide +kernel
theorem dL_drafted_66 : decode cL_drafted 66 = .ok (.iload 7, 2) := by decide +kernel
theorem dL_drafted_68 : decode cL_drafted 68 = .ok (.iadd, 1) := by decide +kernel
theorem dL_drafted_69 : decode cL_drafted 69 = .ok (.iaload, 1) := by decide +kernel
theorem dL_drafted_70 : decode cL_drafted 70 = .ok (.bipush 100, 2) := by decide +kernel
theorem dL_drafted_72 : decode cL_drafted 72 = .ok (.idiv, 1) := by decide +kernel
theorem dL_drafted_73 : decode cL_drafted 73 = .ok (.iload 6, 2) := by decide +kernel
theorem dL_drafted_75 : decode cL_drafted 75 = .ok (.if_icmp .ne 7, 3) := by decide +kernel
theorem dL_drafted_78 : decode cL_drafted 78 = .ok (.iconst 1, 1) := by decide +kernel
theorem dL_drafted_79 : decode cL_drafted 79 = .ok (.goto 4, 3) := by decide +kernel
theorem dL_drafted_82 : decode cL_drafted 82 = .ok (.iconst 0, 1) := by decide +kernel
theorem dL_drafted_83 : decode cL_drafted 83 = .ok (.istore 8, 2) := by decide +kernel
theorem dL_drafted_85 : decode cL_drafted 85 = .ok (.iload_n 3, 1) := by decide +kernel
theorem dL_drafted_86 : decode cL_drafted 86 = .ok (.ifCond .eq 58, 3) := by decide +kernel
theorem dL_drafted_89 : decode cL_drafted 89 = .ok (.iload 8, 2) := by decide +kernel
theorem dL_drafted_91 : decode cL_drafted 91 = .ok (.ifCond .eq 49, 3) := by decide +kernel
theorem dL_drafted_94 : decode cL_drafted 94 = .ok (.aload_n 1, 1) := by decide +kernel
theorem dL_drafted_95 : decode cL_drafted 95 = .ok (.bipush 13, 2) := by decide +kernel
theorem dL_drafted_97 : decode cL_drafted 97 = .ok (.iload 6, 2) := by decide +kernel
theorem dL_drafted_99 : decode cL_drafted 99 = .ok (.iadd, 1) := by decide +kernel
theorem dL_drafted_100 : decode cL_drafted 100 = .ok (.iaload, 1) := by decide +kernel
theorem dL_drafted_101 : decode cL_drafted 101 = .ok (.iconst 2, 1) := by decide +kernel
theorem dL_drafted_102 : decode cL_drafted 102 = .ok (.irem, 1) := by decide +kernel
theorem dL_drafted_103 : decode cL_drafted 103 = .ok (.ifCond .ne 41, 3) := by decide +kernel
theorem dL_drafted_106 : decode cL_drafted 106 = .ok (.iload 6, 2) := by decide +kernel
theorem dL_drafted_108 : decode cL_drafted 108 = .ok (.aload_n 1, 1) := by decide +kernel
theorem dL_drafted_109 : decode cL_drafted 109 = .ok (.bipush 9, 2) := by decide +kernel
theorem dL_drafted_111 : decode cL_drafted 111 = .ok (.iload 7, 2) := by decide +kernel
theorem dL_drafted_113 : decode cL_drafted 113 = .ok (.iadd, 1) := by decide +kernel
theorem dL_drafted_114 : decode cL_drafted 114 = .ok (.iaload, 1) := by decide +kernel
theorem dL_drafted_115 : decode cL_drafted 115 = .ok (.bipush 100, 2) := by decide +kernel
theorem dL_drafted_117 : decode cL_drafted 117 = .ok (.irem, 1) := by decide +kernel
theorem dL_drafted_118 : decode cL_drafted 118 = .ok (.aload_n 1, 1) := by decide +kernel
theorem dL_drafted_119 : decode cL_drafted 119 = .ok (.invokestatic 65, 3) := by decide +kernel
theorem dL_drafted_122 : decode cL_drafted 122 = .ok (.aload_n 1, 1) := by decide +kernel
theorem dL_drafted_123 : decode cL_drafted 123 = .ok (.bipush 9, 2) := by decide +kernel
theorem dL_drafted_125 : decode cL_drafted 125 = .ok (.iload 5, 2) := by decide +kernel
theorem dL_drafted_127 : decode cL_drafted 127 = .ok (.iadd, 1) := by decide +kernel
theorem dL_drafted_128 : decode cL_drafted 128 = .ok (.iaload, 1) := by decide +kernel
theorem dL_drafted_129 : decode cL_drafted 129 = .ok (.bipush 100, 2) := by decide +kernel
theorem dL_drafted_131 : decode cL_drafted 131 = .ok (.irem, 1) := by decide +kernel
theorem dL_drafted_132 : decode cL_drafted 132 = .ok (.lshr, 1) := by decide +kernel
theorem dL_drafted_133 : decode cL_drafted 133 = .ok (.lconst 1, 1) := by decide +kernel
theorem dL_drafted_134 : decode cL_drafted 134 = .ok (.land, 1) := by decide +kernel
theorem dL_drafted_135 : decode cL_drafted 135 = .ok (.lconst 0, 1) := by decide +kernel
theorem dL_drafted_136 : decode cL_drafted 136 = .ok (.lcmp, 1) := by decide +kernel
theorem dL_drafted_137 : decode cL_drafted 137 = .ok (.ifCond .ne 7, 3) := by decide +kernel
theorem dL_drafted_140 : decode cL_drafted 140 = .ok (.iconst 1, 1) := by decide +kernel
theorem dL_drafted_141 : decode cL_drafted 141 = .ok (.goto 4, 3) := by decide +kernel
theorem dL_drafted_144 : decode cL_drafted 144 = .ok (.iconst 0, 1) := by decide +kernel
theorem dL_drafted_145 : decode cL_drafted 145 = .ok (.istore_n 3, 1) := by decide +kernel
theorem dL_drafted_146 : decode cL_drafted 146 = .ok (.iinc 7 1, 3) := by decide +kernel
theorem dL_drafted_149 : decode cL_drafted 149 = .ok (.goto (-93), 3) := by decide +kernel
theorem dL_drafted_152 : decode cL_drafted 152 = .ok (.iload 4, 2) := by decide +kernel
theorem dL_drafted_154 : decode cL_drafted 154 = .ok (.iconst 1, 1) := by decide +kernel
theorem dL_drafted_155 : decode cL_drafted 155 = .ok (.iload 6, 2) := by decide +kernel
theorem dL_drafted_157 : decode cL_drafted 157 = .ok (.ishl, 1) := by decide +kernel
theorem dL_drafted_158 : decode cL_drafted 158 = .ok (.ior, 1) := by decide +kernel
theorem dL_drafted_159 : decode cL_drafted 159 = .ok (.istore 4, 2) := by decide +kernel
theorem dL_drafted_161 : decode cL_drafted 161 = .ok (.iinc 5 1, 3) := by decide +kernel
theorem dL_drafted_164 : decode cL_drafted 164 = .ok (.goto (-156), 3) := by decide +kernel
theorem dL_drafted_167 : decode cL_drafted 167 = .ok (.iload_n 3, 1) := by decide +kernel
theorem dL_drafted_168 : decode cL_drafted 168 = .ok (.ifCond .eq 20, 3) := by decide +kernel
theorem dL_drafted_171 : decode cL_drafted 171 = .ok (.iload_n 0, 1) := by decide +kernel
theorem dL_drafted_172 : decode cL_drafted 172 = .ok (.aload_n 2, 1) := by decide +kernel
theorem dL_drafted_173 : decode cL_drafted 173 = .ok (.invokestatic 116, 3) := by decide +kernel
theorem dL_drafted_176 : decode cL_drafted 176 = .ok (.iload 4, 2) := by decide +kernel
theorem dL_drafted_178 : decode cL_drafted 178 = .ok (.iconst (-1), 1) := by decide +kernel
theorem dL_drafted_179 : decode cL_drafted 179 = .ok (.ixor, 1) := by decide +kernel
theorem dL_drafted_180 : decode cL_drafted 180 = .ok (.iand, 1) := by decide +kernel
theorem dL_drafted_181 : decode cL_drafted 181 = .ok (.ifCond .ne 7, 3) := by decide +kernel
theorem dL_drafted_184 : decode cL_drafted 184 = .ok (.iconst 1, 1) := by decide +kernel
theorem dL_drafted_185 : decode cL_drafted 185 = .ok (.goto 4, 3) := by decide +kernel
theorem dL_drafted_188 : decode cL_drafted 188 = .ok (.iconst 0, 1) := by decide +kernel
theorem dL_drafted_189 : decode cL_drafted 189 = .ok (.ireturn, 1) := by decide +kernel
theorem dL_adds_0 : decode cL_adds 0 = .ok (.iload_n 2, 1) := by decide +kernel
theorem dL_adds_1 : decode cL_adds 1 = .ok (.aload_n 3, 1) := by decide +kernel
theorem dL_adds_2 : decode cL_adds 2 = .ok (.iconst 0, 1) := by decide +kernel
theorem dL_adds_3 : decode cL_adds 3 = .ok (.iaload, 1) := by decide +kernel
theorem dL_adds_4 : decode cL_adds 4 = .ok (.invokestatic 119, 3) := by decide +kernel
theorem dL_adds_7 : decode cL_adds 7 = .ok (.istore 14, 2) := by decide +kernel
theorem dL_adds_9 : decode cL_adds 9 = .ok (.iload_n 2, 1) := by decide +kernel
theorem dL_adds_10 : decode cL_adds 10 = .ok (.iconst 4, 1) := by decide +kernel
theorem dL_adds_11 : decode cL_adds 11 = .ok (.ishr, 1) := by decide +kernel
theorem dL_adds_12 : decode cL_adds 12 = .ok (.aload_n 3, 1) := by decide +kernel
theorem dL_adds_13 : decode cL_adds 13 = .ok (.iconst 3, 1) := by decide +kernel
theorem dL_adds_14 : decode cL_adds 14 = .ok (.iaload, 1) := by decide +kernel
theorem dL_adds_15 : decode cL_adds 15 = .ok (.invokestatic 119, 3) := by decide +kernel
theorem dL_adds_18 : decode cL_adds 18 = .ok (.istore 15, 2) := by decide +kernel
theorem dL_adds_20 : decode cL_adds 20 = .ok (.iload_n 2, 1) := by decide +kernel
theorem dL_adds_21 : decode cL_adds 21 = .ok (.bipush 6, 2) := by decide +kernel
theorem dL_adds_23 : decode cL_adds 23 = .ok (.ishr, 1) := by decide +kernel
theorem dL_adds_24 : decode cL_adds 24 = .ok (.iload_n 2, 1) := by decide +kernel
theorem dL_adds_25 : decode cL_adds 25 = .ok (.bipush 12, 2) := by decide +kernel
theorem dL_adds_27 : decode cL_adds 27 = .ok (.ishr, 1) := by decide +kernel
theorem dL_adds_28 : decode cL_adds 28 = .ok (.iconst 2, 1) := by decide +kernel
theorem dL_adds_29 : decode cL_adds 29 = .ok (.invokestatic 119, 3) := by decide +kernel
theorem dL_adds_32 : decode cL_adds 32 = .ok (.ifCond .ne 8, 3) := by decide +kernel
theorem dL_adds_35 : decode cL_adds 35 = .ok (.bipush 100, 2) := by decide +kernel
theorem dL_adds_37 : decode cL_adds 37 = .ok (.goto 4, 3) := by decide +kernel
theorem dL_adds_40 : decode cL_adds 40 = .ok (.iconst 3, 1) := by decide +kernel
theorem dL_adds_41 : decode cL_adds 41 = .ok (.invokestatic 119, 3) := by decide +kernel
theorem dL_adds_44 : decode cL_adds 44 = .ok (.istore 16, 2) := by decide +kernel
theorem dL_adds_46 : decode cL_adds 46 = .ok (.aload 12, 2) := by decide +kernel
theorem dL_adds_48 : decode cL_adds 48 = .ok (.iconst 3, 1) := by decide +kernel
theorem dL_adds_49 : decode cL_adds 49 = .ok (.iload 14, 2) := by decide +kernel
theorem dL_adds_51 : decode cL_adds 51 = .ok (.imul, 1) := by decide +kernel
theorem dL_adds_52 : decode cL_adds 52 = .ok (.iaload, 1) := by decide +kernel
theorem dL_adds_53 : decode cL_adds 53 = .ok (.iconst 1, 1) := by decide +kernel
theorem dL_adds_54 : decode cL_adds 54 = .ok (.if_icmp .eq 8, 3) := by decide +kernel
theorem dL_adds_57 : decode cL_adds 57 = .ok (.bipush (-9), 2) := by decide +kernel
theorem dL_adds_59 : decode cL_adds 59 = .ok (.goto 6, 3) := by decide +kernel
theorem dL_adds_62 : decode cL_adds 62 = .ok (.aload_n 3, 1) := by decide +kernel
theorem dL_adds_63 : decode cL_adds 63 = .ok (.iconst 0, 1) := by decide +kernel
theorem dL_adds_64 : decode cL_adds 64 = .ok (.iaload, 1) := by decide +kernel
theorem dL_adds_65 : decode cL_adds 65 = .ok (.istore 17, 2) := by decide +kernel
theorem dL_adds_67 : decode cL_adds 67 = .ok (.iload 17, 2) := by decide +kernel
theorem dL_adds_69 : decode cL_adds 69 = .ok (.ifCond .le 75, 3) := by decide +kernel
theorem dL_adds_72 : decode cL_adds 72 = .ok (.iload_n 1, 1) := by decide +kernel
theorem dL_adds_73 : decode cL_adds 73 = .ok (.aload_n 3, 1) := by decide +kernel
theorem dL_adds_74 : decode cL_adds 74 = .ok (.iconst 4, 1) := by decide +kernel
theorem dL_adds_75 : decode cL_adds 75 = .ok (.iload_n 1, 1) := by decide +kernel
theorem dL_adds_76 : decode cL_adds 76 = .ok (.iadd, 1) := by decide +kernel
theorem dL_adds_77 : decode cL_adds 77 = .ok (.iaload, 1) := by decide +kernel
theorem dL_adds_78 : decode cL_adds 78 = .ok (.iload 14, 2) := by decide +kernel
theorem dL_adds_80 : decode cL_adds 80 = .ok (.iconst 1, 1) := by decide +kernel
theorem dL_adds_81 : decode cL_adds 81 = .ok (.aload_n 3, 1) := by decide +kernel
theorem dL_adds_82 : decode cL_adds 82 = .ok (.aload 5, 2) := by decide +kernel
theorem dL_adds_84 : decode cL_adds 84 = .ok (.aload 6, 2) := by decide +kernel
theorem dL_adds_86 : decode cL_adds 86 = .ok (.aload 7, 2) := by decide +kernel
theorem dL_adds_88 : decode cL_adds 88 = .ok (.aload 8, 2) := by decide +kernel
theorem dL_adds_90 : decode cL_adds 90 = .ok (.aload 9, 2) := by decide +kernel
theorem dL_adds_92 : decode cL_adds 92 = .ok (.aload 11, 2) := by decide +kernel
theorem dL_adds_94 : decode cL_adds 94 = .ok (.aload 12, 2) := by decide +kernel
theorem dL_adds_96 : decode cL_adds 96 = .ok (.aload 13, 2) := by decide +kernel
theorem dL_adds_98 : decode cL_adds 98 = .ok (.invokestatic 122, 3) := by decide +kernel
theorem dL_adds_101 : decode cL_adds 101 = .ok (.ifCond .eq 43, 3) := by decide +kernel
theorem dL_adds_104 : decode cL_adds 104 = .ok (.iload_n 1, 1) := by decide +kernel
theorem dL_adds_105 : decode cL_adds 105 = .ok (.iload 14, 2) := by decide +kernel
theorem dL_adds_107 : decode cL_adds 107 = .ok (.iconst (-1), 1) := by decide +kernel
theorem dL_adds_108 : decode cL_adds 108 = .ok (.iload 16, 2) := by decide +kernel
theorem dL_adds_110 : decode cL_adds 110 = .ok (.aload_n 3, 1) := by decide +kernel
theorem dL_adds_111 : decode cL_adds 111 = .ok (.aload 5, 2) := by decide +kernel
theorem dL_adds_113 : decode cL_adds 113 = .ok (.aload 6, 2) := by decide +kernel
theorem dL_adds_115 : decode cL_adds 115 = .ok (.aload 7, 2) := by decide +kernel
theorem dL_adds_117 : decode cL_adds 117 = .ok (.aload 8, 2) := by decide +kernel
theorem dL_adds_119 : decode cL_adds 119 = .ok (.aload 11, 2) := by decide +kernel
theorem dL_adds_121 : decode cL_adds 121 = .ok (.aload 12, 2) := by decide +kernel
theorem dL_adds_123 : decode cL_adds 123 = .ok (.invokestatic 126, 3) := by decide +kernel
theorem dL_adds_126 : decode cL_adds 126 = .ok (.ifCond .ne 18, 3) := by decide +kernel
theorem dL_adds_129 : decode cL_adds 129 = .ok (.iload 15, 2) := by decide +kernel
theorem dL_adds_131 : decode cL_adds 131 = .ok (.aload_n 3, 1) := by decide +kernel
theorem dL_adds_132 : decode cL_adds 132 = .ok (.aload 4, 2) := by decide +kernel
theorem dL_adds_134 : decode cL_adds 134 = .ok (.invokestatic 130, 3) := by decide +kernel
theorem dL_adds_137 : decode cL_adds 137 = .ok (.ifCond .eq 7, 3) := by decide +kernel
theorem dL_adds_140 : decode cL_adds 140 = .ok (.iconst 1, 1) := by decide +kernel
theorem dL_adds_141 : decode cL_adds 141 = .ok (.goto 4, 3) := by decide +kernel
theorem dL_adds_144 : decode cL_adds 144 = .ok (.iconst 0, 1) := by decide +kernel
theorem dL_adds_145 : decode cL_adds 145 = .ok (.istore 18, 2) := by decide +kernel
theorem dL_adds_147 : decode cL_adds 147 = .ok (.iload 17, 2) := by decide +kernel
theorem dL_adds_149 : decode cL_adds 149 = .ok (.bipush (-9), 2) := by decide +kernel
theorem dL_adds_151 : decode cL_adds 151 = .ok (.if_icmp .eq 8, 3) := by decide +kernel
theorem dL_adds_154 : decode cL_adds 154 = .ok (.iload 18, 2) := by decide +kernel
theorem dL_adds_156 : decode cL_adds 156 = .ok (.ifCond .eq 8, 3) := by decide +kernel
theorem dL_adds_159 : decode cL_adds 159 = .ok (.iload 17, 2) := by decide +kernel
theorem dL_adds_161 : decode cL_adds 161 = .ok (.goto 5, 3) := by decide +kernel
theorem dL_adds_164 : decode cL_adds 164 = .ok (.bipush (-7), 2) := by decide +kernel
theorem dL_adds_166 : decode cL_adds 166 = .ok (.istore 17, 2) := by decide +kernel
theorem dL_adds_168 : decode cL_adds 168 = .ok (.iload 18, 2) := by decide +kernel
theorem dL_adds_170 : decode cL_adds 170 = .ok (.ifCond .eq 97, 3) := by decide +kernel
theorem dL_adds_173 : decode cL_adds 173 = .ok (.aload_n 3, 1) := by decide +kernel
theorem dL_adds_174 : decode cL_adds 174 = .ok (.bipush 8, 2) := by decide +kernel
theorem dL_adds_176 : decode cL_adds 176 = .ok (.iaload, 1) := by decide +kernel
theorem dL_adds_177 : decode cL_adds 177 = .ok (.i2l, 1) := by decide +kernel
theorem dL_adds_178 : decode cL_adds 178 = .ok (.bipush 50, 2) := by decide +kernel
theorem dL_adds_180 : decode cL_adds 180 = .ok (.lshl, 1) := by decide +kernel
theorem dL_adds_181 : decode cL_adds 181 = .ok (.lstore 19, 2) := by decide +kernel
theorem dL_adds_183 : decode cL_adds 183 = .ok (.iconst 0, 1) := by decide +kernel
theorem dL_adds_184 : decode cL_adds 184 = .ok (.istore 21, 2) := by decide +kernel
theorem dL_adds_186 : decode cL_adds 186 = .ok (.iload 21, 2) := by decide +kernel
theorem dL_adds_188 : decode cL_adds 188 = .ok (.aload_n 3, 1) := by decide +kernel
theorem dL_adds_189 : decode cL_adds 189 = .ok (.bipush 8, 2) := by decide +kernel
theorem dL_adds_191 : decode cL_adds 191 = .ok (.iaload, 1) := by decide +kernel
theorem dL_adds_192 : decode cL_adds 192 = .ok (.if_icmp .ge 28, 3) := by decide +kernel
theorem dL_adds_195 : decode cL_adds 195 = .ok (.lload 19, 2) := by decide +kernel
theorem dL_adds_197 : decode cL_adds 197 = .ok (.aload_n 3, 1) := by decide +kernel
theorem dL_adds_198 : decode cL_adds 198 = .ok (.bipush 9, 2) := by decide +kernel
theorem dL_adds_200 : decode cL_adds 200 = .ok (.iload 21, 2) := by decide +kernel
theorem dL_adds_202 : decode cL_adds 202 = .ok (.iadd, 1) := by decide +kernel
theorem dL_adds_203 : decode cL_adds 203 = .ok (.iaload, 1) := by decide +kernel
theorem dL_adds_204 : decode cL_adds 204 = .ok (.i2l, 1) := by decide +kernel
theorem dL_adds_205 : decode cL_adds 205 = .ok (.bipush 10, 2) := by decide +kernel
theorem dL_adds_207 : decode cL_adds 207 = .ok (.iload 21, 2) := by decide +kernel
theorem dL_adds_209 : decode cL_adds 209 = .ok (.imul, 1) := by decide +kernel
theorem dL_adds_210 : decode cL_adds 210 = .ok (.lshl, 1) := by decide +kernel
theorem dL_adds_211 : decode cL_adds 211 = .ok (.lor, 1) := by decide +kernel
theorem dL_adds_212 : decode cL_adds 212 = .ok (.lstore 19, 2) := by decide +kernel
theorem dL_adds_214 : decode cL_adds 214 = .ok (.iinc 21 1, 3) := by decide +kernel
theorem dL_adds_217 : decode cL_adds 217 = .ok (.goto (-31), 3) := by decide +kernel
theorem dL_adds_220 : decode cL_adds 220 = .ok (.iload_n 1, 1) := by decide +kernel
theorem dL_adds_221 : decode cL_adds 221 = .ok (.iconst 0, 1) := by decide +kernel
theorem dL_adds_222 : decode cL_adds 222 = .ok (.aload_n 3, 1) := by decide +kernel
theorem dL_adds_223 : decode cL_adds 223 = .ok (.iconst 0, 1) := by decide +kernel
theorem dL_adds_224 : decode cL_adds 224 = .ok (.iaload, 1) := by decide +kernel
theorem dL_adds_225 : decode cL_adds 225 = .ok (.bipush 100, 2) := by decide +kernel
theorem dL_adds_227 : decode cL_adds 227 = .ok (.iload 15, 2) := by decide +kernel
theorem dL_adds_229 : decode cL_adds 229 = .ok (.imul, 1) := by decide +kernel
theorem dL_adds_230 : decode cL_adds 230 = .ok (.iload 16, 2) := by decide +kernel
theorem dL_adds_232 : decode cL_adds 232 = .ok (.iadd, 1) := by decide +kernel
theorem dL_adds_233 : decode cL_adds 233 = .ok (.iload 14, 2) := by decide +kernel
theorem dL_adds_235 : decode cL_adds 235 = .ok (.lload 19, 2) := by decide +kernel
theorem dL_adds_237 : decode cL_adds 237 = .ok (.aload_n 3, 1) := by decide +kernel
theorem dL_adds_238 : decode cL_adds 238 = .ok (.aload 5, 2) := by decide +kernel
theorem dL_adds_240 : decode cL_adds 240 = .ok (.aload 6, 2) := by decide +kernel
theorem dL_adds_242 : decode cL_adds 242 = .ok (.aload 7, 2) := by decide +kernel
theorem dL_adds_244 : decode cL_adds 244 = .ok (.aload 8, 2) := by decide +kernel
theorem dL_adds_246 : decode cL_adds 246 = .ok (.aload 9, 2) := by decide +kernel
theorem dL_adds_248 : decode cL_adds 248 = .ok (.aload 10, 2) := by decide +kernel
theorem dL_adds_250 : decode cL_adds 250 = .ok (.aload 11, 2) := by decide +kernel
theorem dL_adds_252 : decode cL_adds 252 = .ok (.invokestatic 134, 3) := by decide +kernel
theorem dL_adds_255 : decode cL_adds 255 = .ok (.aload_n 3, 1) := by decide +kernel
theorem dL_adds_256 : decode cL_adds 256 = .ok (.iconst 0, 1) := by decide +kernel
theorem dL_adds_257 : decode cL_adds 257 = .ok (.dup2, 1) := by decide +kernel
theorem dL_adds_258 : decode cL_adds 258 = .ok (.iaload, 1) := by decide +kernel
theorem dL_adds_259 : decode cL_adds 259 = .ok (.iconst 1, 1) := by decide +kernel
theorem dL_adds_260 : decode cL_adds 260 = .ok (.iadd, 1) := by decide +kernel
theorem dL_adds_261 : decode cL_adds 261 = .ok (.iastore, 1) := by decide +kernel
theorem dL_adds_262 : decode cL_adds 262 = .ok (.aload_n 3, 1) := by decide +kernel
theorem dL_adds_263 : decode cL_adds 263 = .ok (.bipush 8, 2) := by decide +kernel
theorem dL_adds_265 : decode cL_adds 265 = .ok (.iconst 0, 1) := by decide +kernel
theorem dL_adds_266 : decode cL_adds 266 = .ok (.iastore, 1) := by decide +kernel
theorem dL_adds_267 : decode cL_adds 267 = .ok (.aload_n 0, 1) := by decide +kernel
theorem dL_adds_268 : decode cL_adds 268 = .ok (.iconst 0, 1) := by decide +kernel
theorem dL_adds_269 : decode cL_adds 269 = .ok (.iload_n 1, 1) := by decide +kernel
theorem dL_adds_270 : decode cL_adds 270 = .ok (.iload 14, 2) := by decide +kernel
theorem dL_adds_272 : decode cL_adds 272 = .ok (.iload 15, 2) := by decide +kernel
theorem dL_adds_274 : decode cL_adds 274 = .ok (.iload 16, 2) := by decide +kernel
theorem dL_adds_276 : decode cL_adds 276 = .ok (.invokestatic 138, 3) := by decide +kernel
theorem dL_adds_279 : decode cL_adds 279 = .ok (.iload 17, 2) := by decide +kernel
theorem dL_adds_281 : decode cL_adds 281 = .ok (.if_icmp .ne 7, 3) := by decide +kernel
theorem dL_adds_284 : decode cL_adds 284 = .ok (.iconst 1, 1) := by decide +kernel
theorem dL_adds_285 : decode cL_adds 285 = .ok (.goto 4, 3) := by decide +kernel
theorem dL_adds_288 : decode cL_adds 288 = .ok (.iconst 0, 1) := by decide +kernel
theorem dL_adds_289 : decode cL_adds 289 = .ok (.ireturn, 1) := by decide +kernel
theorem dL_values_0 : decode cL_values 0 = .ok (.iload_n 3, 1) := by decide +kernel
theorem dL_values_1 : decode cL_values 1 = .ok (.aload 4, 2) := by decide +kernel
theorem dL_values_3 : decode cL_values 3 = .ok (.iconst 0, 1) := by decide +kernel
theorem dL_values_4 : decode cL_values 4 = .ok (.iaload, 1) := by decide +kernel
theorem dL_values_5 : decode cL_values 5 = .ok (.invokestatic 119, 3) := by decide +kernel
theorem dL_values_8 : decode cL_values 8 = .ok (.istore 15, 2) := by decide +kernel
theorem dL_values_10 : decode cL_values 10 = .ok (.iload_n 3, 1) := by decide +kernel
theorem dL_values_11 : decode cL_values 11 = .ok (.iconst 4, 1) := by decide +kernel
theorem dL_values_12 : decode cL_values 12 = .ok (.ishr, 1) := by decide +kernel
theorem dL_values_13 : decode cL_values 13 = .ok (.aload 4, 2) := by decide +kernel
theorem dL_values_15 : decode cL_values 15 = .ok (.iconst 2, 1) := by decide +kernel
theorem dL_values_16 : decode cL_values 16 = .ok (.iaload, 1) := by decide +kernel
theorem dL_values_17 : decode cL_values 17 = .ok (.invokestatic 119, 3) := by decide +kernel
theorem dL_values_20 : decode cL_values 20 = .ok (.istore 16, 2) := by decide +kernel
theorem dL_values_22 : decode cL_values 22 = .ok (.iload_n 3, 1) := by decide +kernel
theorem dL_values_23 : decode cL_values 23 = .ok (.bipush 6, 2) := by decide +kernel
theorem dL_values_25 : decode cL_values 25 = .ok (.ishr, 1) := by decide +kernel
theorem dL_values_26 : decode cL_values 26 = .ok (.iload_n 3, 1) := by decide +kernel
theorem dL_values_27 : decode cL_values 27 = .ok (.bipush 11, 2) := by decide +kernel
theorem dL_values_29 : decode cL_values 29 = .ok (.ishr, 1) := by decide +kernel
theorem dL_values_30 : decode cL_values 30 = .ok (.iconst 2, 1) := by decide +kernel
theorem dL_values_31 : decode cL_values 31 = .ok (.invokestatic 119, 3) := by decide +kernel
theorem dL_values_34 : decode cL_values 34 = .ok (.ifCond .ne 8, 3) := by decide +kernel
theorem dL_values_37 : decode cL_values 37 = .ok (.bipush 60, 2) := by decide +kernel
theorem dL_values_39 : decode cL_values 39 = .ok (.goto 4, 3) := by decide +kernel
theorem dL_values_42 : decode cL_values 42 = .ok (.iconst 5, 1) := by decide +kernel
theorem dL_values_43 : decode cL_values 43 = .ok (.invokestatic 119, 3) := by decide +kernel
theorem dL_values_46 : decode cL_values 46 = .ok (.istore 17, 2) := by decide +kernel
theorem dL_values_48 : decode cL_values 48 = .ok (.iconst 3, 1) := by decide +kernel
theorem dL_values_49 : decode cL_values 49 = .ok (.iload 15, 2) := by decide +kernel
theorem dL_values_51 : decode cL_values 51 = .ok (.imul, 1) := by decide +kernel
theorem dL_values_52 : decode cL_values 52 = .ok (.iload 16, 2) := by decide +kernel
theorem dL_values_54 : decode cL_values 54 = .ok (.iadd, 1) := by decide +kernel
theorem dL_values_55 : decode cL_values 55 = .ok (.istore 18, 2) := by decide +kernel
theorem dL_values_57 : decode cL_values 57 = .ok (.aload 13, 2) := by decide +kernel
theorem dL_values_59 : decode cL_values 59 = .ok (.iconst 3, 1) := by decide +kernel
theorem dL_values_60 : decode cL_values 60 = .ok (.iload 15, 2) := by decide +kernel
theorem dL_values_62 : decode cL_values 62 = .ok (.imul, 1) := by decide +kernel
theorem dL_values_63 : decode cL_values 63 = .ok (.iconst 1, 1) := by decide +kernel
theorem dL_values_64 : decode cL_values 64 = .ok (.iadd, 1) := by decide +kernel
theorem dL_values_65 : decode cL_values 65 = .ok (.iaload, 1) := by decide +kernel
theorem dL_values_66 : decode cL_values 66 = .ok (.istore 19, 2) := by decide +kernel
theorem dL_values_68 : decode cL_values 68 = .ok (.aload 14, 2) := by decide +kernel
theorem dL_values_70 : decode cL_values 70 = .ok (.iload 18, 2) := by decide +kernel
theorem dL_values_72 : decode cL_values 72 = .ok (.laload, 1) := by decide +kernel
theorem dL_values_73 : decode cL_values 73 = .ok (.iload 16, 2) := by decide +kernel
theorem dL_values_75 : decode cL_values 75 = .ok (.iload 17, 2) := by decide +kernel
theorem dL_values_77 : decode cL_values 77 = .ok (.aload 4, 2) := by decide +kernel
theorem dL_values_79 : decode cL_values 79 = .ok (.invokestatic 65, 3) := by decide +kernel
theorem dL_values_82 : decode cL_values 82 = .ok (.land, 1) := by decide +kernel
theorem dL_values_83 : decode cL_values 83 = .ok (.lstore 20, 2) := by decide +kernel
theorem dL_values_85 : decode cL_values 85 = .ok (.iload 19, 2) := by decide +kernel
theorem dL_values_87 : decode cL_values 87 = .ok (.aload 5, 2) := by decide +kernel
theorem dL_values_89 : decode cL_values 89 = .ok (.invokestatic 113, 3) := by decide +kernel
theorem dL_values_92 : decode cL_values 92 = .ok (.iload 16, 2) := by decide +kernel
theorem dL_values_94 : decode cL_values 94 = .ok (.ishr, 1) := by decide +kernel
theorem dL_values_95 : decode cL_values 95 = .ok (.iconst 1, 1) := by decide +kernel
theorem dL_values_96 : decode cL_values 96 = .ok (.iand, 1) := by decide +kernel
theorem dL_values_97 : decode cL_values 97 = .ok (.iconst 1, 1) := by decide +kernel
theorem dL_values_98 : decode cL_values 98 = .ok (.if_icmp .ne 7, 3) := by decide +kernel
theorem dL_values_101 : decode cL_values 101 = .ok (.iconst 1, 1) := by decide +kernel
theorem dL_values_102 : decode cL_values 102 = .ok (.goto 4, 3) := by decide +kernel
theorem dL_values_105 : decode cL_values 105 = .ok (.iconst 0, 1) := by decide +kernel
theorem dL_values_106 : decode cL_values 106 = .ok (.istore 22, 2) := by decide +kernel
theorem dL_values_108 : decode cL_values 108 = .ok (.iload_n 1, 1) := by decide +kernel
theorem dL_values_109 : decode cL_values 109 = .ok (.aload 4, 2) := by decide +kernel
theorem dL_values_111 : decode cL_values 111 = .ok (.iconst 4, 1) := by decide +kernel
theorem dL_values_112 : decode cL_values 112 = .ok (.iload_n 1, 1) := by decide +kernel
theorem dL_values_113 : decode cL_values 113 = .ok (.iadd, 1) := by decide +kernel
theorem dL_values_114 : decode cL_values 114 = .ok (.iaload, 1) := by decide +kernel
theorem dL_values_115 : decode cL_values 115 = .ok (.iload 15, 2) := by decide +kernel
theorem dL_values_117 : decode cL_values 117 = .ok (.iconst 1, 1) := by decide +kernel
theorem dL_values_118 : decode cL_values 118 = .ok (.aload 4, 2) := by decide +kernel
theorem dL_values_120 : decode cL_values 120 = .ok (.aload 6, 2) := by decide +kernel
theorem dL_values_122 : decode cL_values 122 = .ok (.aload 7, 2) := by decide +kernel
theorem dL_values_124 : decode cL_values 124 = .ok (.aload 8, 2) := by decide +kernel
theorem dL_values_126 : decode cL_values 126 = .ok (.aload 9, 2) := by decide +kernel
theorem dL_values_128 : decode cL_values 128 = .ok (.aload 10, 2) := by decide +kernel
theorem dL_values_130 : decode cL_values 130 = .ok (.aload 12, 2) := by decide +kernel
theorem dL_values_132 : decode cL_values 132 = .ok (.aload 13, 2) := by decide +kernel
theorem dL_values_134 : decode cL_values 134 = .ok (.aload 14, 2) := by decide +kernel
theorem dL_values_136 : decode cL_values 136 = .ok (.invokestatic 122, 3) := by decide +kernel
theorem dL_values_139 : decode cL_values 139 = .ok (.ifCond .eq 97, 3) := by decide +kernel
theorem dL_values_142 : decode cL_values 142 = .ok (.iload_n 2, 1) := by decide +kernel
theorem dL_values_143 : decode cL_values 143 = .ok (.iconst 1, 1) := by decide +kernel
theorem dL_values_144 : decode cL_values 144 = .ok (.if_icmp .ne 41, 3) := by decide +kernel
theorem dL_values_147 : decode cL_values 147 = .ok (.iload 22, 2) := by decide +kernel
theorem dL_values_149 : decode cL_values 149 = .ok (.ifCond .eq 87, 3) := by decide +kernel
theorem dL_values_152 : decode cL_values 152 = .ok (.lload 20, 2) := by decide +kernel
theorem dL_values_154 : decode cL_values 154 = .ok (.lconst 0, 1) := by decide +kernel
theorem dL_values_155 : decode cL_values 155 = .ok (.lcmp, 1) := by decide +kernel
theorem dL_values_156 : decode cL_values 156 = .ok (.ifCond .ne 80, 3) := by decide +kernel
theorem dL_values_159 : decode cL_values 159 = .ok (.aload 4, 2) := by decide +kernel
theorem dL_values_161 : decode cL_values 161 = .ok (.bipush 13, 2) := by decide +kernel
theorem dL_values_163 : decode cL_values 163 = .ok (.iload 16, 2) := by decide +kernel
theorem dL_values_165 : decode cL_values 165 = .ok (.iadd, 1) := by decide +kernel
theorem dL_values_166 : decode cL_values 166 = .ok (.iaload, 1) := by decide +kernel
theorem dL_values_167 : decode cL_values 167 = .ok (.iconst 2, 1) := by decide +kernel
theorem dL_values_168 : decode cL_values 168 = .ok (.irem, 1) := by decide +kernel
theorem dL_values_169 : decode cL_values 169 = .ok (.ifCond .eq 63, 3) := by decide +kernel
theorem dL_values_172 : decode cL_values 172 = .ok (.aload 14, 2) := by decide +kernel
theorem dL_values_174 : decode cL_values 174 = .ok (.iload 18, 2) := by decide +kernel
theorem dL_values_176 : decode cL_values 176 = .ok (.laload, 1) := by decide +kernel
theorem dL_values_177 : decode cL_values 177 = .ok (.lconst 0, 1) := by decide +kernel
theorem dL_values_178 : decode cL_values 178 = .ok (.lcmp, 1) := by decide +kernel
theorem dL_values_179 : decode cL_values 179 = .ok (.ifCond .ne 57, 3) := by decide +kernel
theorem dL_values_182 : decode cL_values 182 = .ok (.goto 50, 3) := by decide +kernel
theorem dL_values_185 : decode cL_values 185 = .ok (.iload_n 2, 1) := by decide +kernel
theorem dL_values_186 : decode cL_values 186 = .ok (.iconst 2, 1) := by decide +kernel
theorem dL_values_187 : decode cL_values 187 = .ok (.if_icmp .ne 40, 3) := by decide +kernel
theorem dL_values_190 : decode cL_values 190 = .ok (.lload 20, 2) := by decide +kernel
theorem dL_values_192 : decode cL_values 192 = .ok (.lconst 0, 1) := by decide +kernel
theorem dL_values_193 : decode cL_values 193 = .ok (.lcmp, 1) := by decide +kernel
theorem dL_values_194 : decode cL_values 194 = .ok (.ifCond .eq 42, 3) := by decide +kernel
theorem dL_values_197 : decode cL_values 197 = .ok (.iload 19, 2) := by decide +kernel
theorem dL_values_199 : decode cL_values 199 = .ok (.aload 5, 2) := by decide +kernel
theorem dL_values_201 : decode cL_values 201 = .ok (.invokestatic 116, 3) := by decide +kernel
theorem dL_values_204 : decode cL_values 204 = .ok (.iload 16, 2) := by decide +kernel
theorem dL_values_206 : decode cL_values 206 = .ok (.ishr, 1) := by decide +kernel
theorem dL_values_207 : decode cL_values 207 = .ok (.iconst 1, 1) := by decide +kernel
theorem dL_values_208 : decode cL_values 208 = .ok (.iand, 1) := by decide +kernel
theorem dL_values_209 : decode cL_values 209 = .ok (.ifCond .eq 23, 3) := by decide +kernel
theorem dL_values_212 : decode cL_values 212 = .ok (.aload 14, 2) := by decide +kernel
theorem dL_values_214 : decode cL_values 214 = .ok (.iload 18, 2) := by decide +kernel
theorem dL_values_216 : decode cL_values 216 = .ok (.laload, 1) := by decide +kernel
theorem dL_values_217 : decode cL_values 217 = .ok (.invokestatic 142, 3) := by decide +kernel
theorem dL_values_220 : decode cL_values 220 = .ok (.iconst 1, 1) := by decide +kernel
theorem dL_values_221 : decode cL_values 221 = .ok (.if_icmp .le 15, 3) := by decide +kernel
theorem dL_values_224 : decode cL_values 224 = .ok (.goto 8, 3) := by decide +kernel
theorem dL_values_227 : decode cL_values 227 = .ok (.iload 22, 2) := by decide +kernel
theorem dL_values_229 : decode cL_values 229 = .ok (.ifCond .eq 7, 3) := by decide +kernel
theorem dL_values_232 : decode cL_values 232 = .ok (.iconst 1, 1) := by decide +kernel
theorem dL_values_233 : decode cL_values 233 = .ok (.goto 4, 3) := by decide +kernel
theorem dL_values_236 : decode cL_values 236 = .ok (.iconst 0, 1) := by decide +kernel
theorem dL_values_237 : decode cL_values 237 = .ok (.istore 23, 2) := by decide +kernel
theorem dL_values_239 : decode cL_values 239 = .ok (.iload 15, 2) := by decide +kernel
theorem dL_values_241 : decode cL_values 241 = .ok (.ifCond .eq 14, 3) := by decide +kernel
theorem dL_values_244 : decode cL_values 244 = .ok (.aload 13, 2) := by decide +kernel
theorem dL_values_246 : decode cL_values 246 = .ok (.iconst 3, 1) := by decide +kernel
theorem dL_values_247 : decode cL_values 247 = .ok (.iload 15, 2) := by decide +kernel
theorem dL_values_249 : decode cL_values 249 = .ok (.imul, 1) := by decide +kernel
theorem dL_values_250 : decode cL_values 250 = .ok (.iaload, 1) := by decide +kernel
theorem dL_values_251 : decode cL_values 251 = .ok (.iconst 1, 1) := by decide +kernel
theorem dL_values_252 : decode cL_values 252 = .ok (.if_icmp .eq 8, 3) := by decide +kernel
theorem dL_values_255 : decode cL_values 255 = .ok (.bipush (-9), 2) := by decide +kernel
theorem dL_values_257 : decode cL_values 257 = .ok (.goto 57, 3) := by decide +kernel
theorem dL_values_260 : decode cL_values 260 = .ok (.iload 23, 2) := by decide +kernel
theorem dL_values_262 : decode cL_values 262 = .ok (.ifCond .ne 8, 3) := by decide +kernel
theorem dL_values_265 : decode cL_values 265 = .ok (.bipush (-7), 2) := by decide +kernel
theorem dL_values_267 : decode cL_values 267 = .ok (.goto 47, 3) := by decide +kernel
theorem dL_values_270 : decode cL_values 270 = .ok (.iload_n 2, 1) := by decide +kernel
theorem dL_values_271 : decode cL_values 271 = .ok (.iconst 3, 1) := by decide +kernel
theorem dL_values_272 : decode cL_values 272 = .ok (.if_icmp .ne 14, 3) := by decide +kernel
theorem dL_values_275 : decode cL_values 275 = .ok (.aload 14, 2) := by decide +kernel
theorem dL_values_277 : decode cL_values 277 = .ok (.iload 18, 2) := by decide +kernel
theorem dL_values_279 : decode cL_values 279 = .ok (.laload, 1) := by decide +kernel
theorem dL_values_280 : decode cL_values 280 = .ok (.invokestatic 142, 3) := by decide +kernel
theorem dL_values_283 : decode cL_values 283 = .ok (.goto 31, 3) := by decide +kernel
theorem dL_values_286 : decode cL_values 286 = .ok (.iload_n 2, 1) := by decide +kernel
theorem dL_values_287 : decode cL_values 287 = .ok (.iconst 1, 1) := by decide +kernel
theorem dL_values_288 : decode cL_values 288 = .ok (.if_icmp .ne 16, 3) := by decide +kernel
theorem dL_values_291 : decode cL_values 291 = .ok (.aload 14, 2) := by decide +kernel
theorem dL_values_293 : decode cL_values 293 = .ok (.iload 18, 2) := by decide +kernel
theorem dL_values_295 : decode cL_values 295 = .ok (.laload, 1) := by decide +kernel
theorem dL_values_296 : decode cL_values 296 = .ok (.invokestatic 142, 3) := by decide +kernel
theorem dL_values_299 : decode cL_values 299 = .ok (.iconst 1, 1) := by decide +kernel
theorem dL_values_300 : decode cL_values 300 = .ok (.iadd, 1) := by decide +kernel
theorem dL_values_301 : decode cL_values 301 = .ok (.goto 13, 3) := by decide +kernel
theorem dL_values_304 : decode cL_values 304 = .ok (.aload 14, 2) := by decide +kernel
theorem dL_values_306 : decode cL_values 306 = .ok (.iload 18, 2) := by decide +kernel
theorem dL_values_308 : decode cL_values 308 = .ok (.laload, 1) := by decide +kernel
theorem dL_values_309 : decode cL_values 309 = .ok (.invokestatic 142, 3) := by decide +kernel
theorem dL_values_312 : decode cL_values 312 = .ok (.iconst 1, 1) := by decide +kernel
theorem dL_values_313 : decode cL_values 313 = .ok (.isub, 1) := by decide +kernel
theorem dL_values_314 : decode cL_values 314 = .ok (.istore 24, 2) := by decide +kernel
theorem dL_values_316 : decode cL_values 316 = .ok (.iload 24, 2) := by decide +kernel
theorem dL_values_318 : decode cL_values 318 = .ok (.ifCond .lt 31, 3) := by decide +kernel
theorem dL_values_321 : decode cL_values 321 = .ok (.iload_n 1, 1) := by decide +kernel
theorem dL_values_322 : decode cL_values 322 = .ok (.iload_n 2, 1) := by decide +kernel
theorem dL_values_323 : decode cL_values 323 = .ok (.iload 15, 2) := by decide +kernel
theorem dL_values_325 : decode cL_values 325 = .ok (.iload 16, 2) := by decide +kernel
theorem dL_values_327 : decode cL_values 327 = .ok (.iload 17, 2) := by decide +kernel
theorem dL_values_329 : decode cL_values 329 = .ok (.lconst 0, 1) := by decide +kernel
theorem dL_values_330 : decode cL_values 330 = .ok (.aload 4, 2) := by decide +kernel
theorem dL_values_332 : decode cL_values 332 = .ok (.aload 6, 2) := by decide +kernel
theorem dL_values_334 : decode cL_values 334 = .ok (.aload 7, 2) := by decide +kernel
theorem dL_values_336 : decode cL_values 336 = .ok (.aload 8, 2) := by decide +kernel
theorem dL_values_338 : decode cL_values 338 = .ok (.aload 9, 2) := by decide +kernel
theorem dL_values_340 : decode cL_values 340 = .ok (.aload 10, 2) := by decide +kernel
theorem dL_values_342 : decode cL_values 342 = .ok (.aload 11, 2) := by decide +kernel
theorem dL_values_344 : decode cL_values 344 = .ok (.aload 12, 2) := by decide +kernel
theorem dL_values_346 : decode cL_values 346 = .ok (.invokestatic 134, 3) := by decide +kernel
theorem dL_values_349 : decode cL_values 349 = .ok (.aload_n 0, 1) := by decide +kernel
theorem dL_values_350 : decode cL_values 350 = .ok (.iload_n 2, 1) := by decide +kernel
theorem dL_values_351 : decode cL_values 351 = .ok (.iload_n 1, 1) := by decide +kernel
theorem dL_values_352 : decode cL_values 352 = .ok (.iload 15, 2) := by decide +kernel
theorem dL_values_354 : decode cL_values 354 = .ok (.iload 16, 2) := by decide +kernel
theorem dL_values_356 : decode cL_values 356 = .ok (.iload 17, 2) := by decide +kernel
theorem dL_values_358 : decode cL_values 358 = .ok (.invokestatic 138, 3) := by decide +kernel
theorem dL_values_361 : decode cL_values 361 = .ok (.iload 24, 2) := by decide +kernel
theorem dL_values_363 : decode cL_values 363 = .ok (.if_icmp .ne 7, 3) := by decide +kernel
theorem dL_values_366 : decode cL_values 366 = .ok (.iconst 1, 1) := by decide +kernel
theorem dL_values_367 : decode cL_values 367 = .ok (.goto 4, 3) := by decide +kernel
theorem dL_values_370 : decode cL_values 370 = .ok (.iconst 0, 1) := by decide +kernel
theorem dL_values_371 : decode cL_values 371 = .ok (.ireturn, 1) := by decide +kernel
theorem dL_renames_0 : decode cL_renames 0 = .ok (.iload_n 2, 1) := by decide +kernel
theorem dL_renames_1 : decode cL_renames 1 = .ok (.aload_n 3, 1) := by decide +kernel
theorem dL_renames_2 : decode cL_renames 2 = .ok (.iconst 0, 1) := by decide +kernel
theorem dL_renames_3 : decode cL_renames 3 = .ok (.iaload, 1) := by decide +kernel
theorem dL_renames_4 : decode cL_renames 4 = .ok (.invokestatic 119, 3) := by decide +kernel
theorem dL_renames_7 : decode cL_renames 7 = .ok (.istore 13, 2) := by decide +kernel
theorem dL_renames_9 : decode cL_renames 9 = .ok (.iload_n 2, 1) := by decide +kernel
theorem dL_renames_10 : decode cL_renames 10 = .ok (.iconst 4, 1) := by decide +kernel
theorem dL_renames_11 : decode cL_renames 11 = .ok (.ishr, 1) := by decide +kernel
theorem dL_renames_12 : decode cL_renames 12 = .ok (.iconst 4, 1) := by decide +kernel
theorem dL_renames_13 : decode cL_renames 13 = .ok (.invokestatic 119, 3) := by decide +kernel
theorem dL_renames_16 : decode cL_renames 16 = .ok (.istore 14, 2) := by decide +kernel
theorem dL_renames_18 : decode cL_renames 18 = .ok (.iload 13, 2) := by decide +kernel
theorem dL_renames_20 : decode cL_renames 20 = .ok (.ifCond .eq 14, 3) := by decide +kernel
theorem dL_renames_23 : decode cL_renames 23 = .ok (.aload 11, 2) := by decide +kernel
theorem dL_renames_25 : decode cL_renames 25 = .ok (.iconst 3, 1) := by decide +kernel
theorem dL_renames_26 : decode cL_renames 26 = .ok (.iload 13, 2) := by decide +kernel
theorem dL_renames_28 : decode cL_renames 28 = .ok (.imul, 1) := by decide +kernel
theorem dL_renames_29 : decode cL_renames 29 = .ok (.iaload, 1) := by decide +kernel
theorem dL_renames_30 : decode cL_renames 30 = .ok (.iconst 1, 1) := by decide +kernel
theorem dL_renames_31 : decode cL_renames 31 = .ok (.if_icmp .eq 8, 3) := by decide +kernel
theorem dL_renames_34 : decode cL_renames 34 = .ok (.bipush (-9), 2) := by decide +kernel
theorem dL_renames_36 : decode cL_renames 36 = .ok (.goto 90, 3) := by decide +kernel
theorem dL_renames_39 : decode cL_renames 39 = .ok (.iload_n 1, 1) := by decide +kernel
theorem dL_renames_40 : decode cL_renames 40 = .ok (.aload_n 3, 1) := by decide +kernel
theorem dL_renames_41 : decode cL_renames 41 = .ok (.iconst 4, 1) := by decide +kernel
theorem dL_renames_42 : decode cL_renames 42 = .ok (.iload_n 1, 1) := by decide +kernel
theorem dL_renames_43 : decode cL_renames 43 = .ok (.iadd, 1) := by decide +kernel
theorem dL_renames_44 : decode cL_renames 44 = .ok (.iaload, 1) := by decide +kernel
theorem dL_renames_45 : decode cL_renames 45 = .ok (.iload 13, 2) := by decide +kernel
theorem dL_renames_47 : decode cL_renames 47 = .ok (.iconst 1, 1) := by decide +kernel
theorem dL_renames_48 : decode cL_renames 48 = .ok (.aload_n 3, 1) := by decide +kernel
theorem dL_renames_49 : decode cL_renames 49 = .ok (.aload 4, 2) := by decide +kernel
theorem dL_renames_51 : decode cL_renames 51 = .ok (.aload 5, 2) := by decide +kernel
theorem dL_renames_53 : decode cL_renames 53 = .ok (.aload 6, 2) := by decide +kernel
theorem dL_renames_55 : decode cL_renames 55 = .ok (.aload 7, 2) := by decide +kernel
theorem dL_renames_57 : decode cL_renames 57 = .ok (.aload 8, 2) := by decide +kernel
theorem dL_renames_59 : decode cL_renames 59 = .ok (.aload 10, 2) := by decide +kernel
theorem dL_renames_61 : decode cL_renames 61 = .ok (.aload 11, 2) := by decide +kernel
theorem dL_renames_63 : decode cL_renames 63 = .ok (.aload 12, 2) := by decide +kernel
theorem dL_renames_65 : decode cL_renames 65 = .ok (.invokestatic 122, 3) := by decide +kernel
theorem dL_renames_68 : decode cL_renames 68 = .ok (.ifCond .eq 34, 3) := by decide +kernel
theorem dL_renames_71 : decode cL_renames 71 = .ok (.iload_n 1, 1) := by decide +kernel
theorem dL_renames_72 : decode cL_renames 72 = .ok (.iload 13, 2) := by decide +kernel
theorem dL_renames_74 : decode cL_renames 74 = .ok (.aload 11, 2) := by decide +kernel
theorem dL_renames_76 : decode cL_renames 76 = .ok (.invokestatic 93, 3) := by decide +kernel
theorem dL_renames_79 : decode cL_renames 79 = .ok (.iload 13, 2) := by decide +kernel
theorem dL_renames_81 : decode cL_renames 81 = .ok (.iload 14, 2) := by decide +kernel
theorem dL_renames_83 : decode cL_renames 83 = .ok (.aload_n 3, 1) := by decide +kernel
theorem dL_renames_84 : decode cL_renames 84 = .ok (.aload 4, 2) := by decide +kernel
theorem dL_renames_86 : decode cL_renames 86 = .ok (.aload 5, 2) := by decide +kernel
theorem dL_renames_88 : decode cL_renames 88 = .ok (.aload 6, 2) := by decide +kernel
theorem dL_renames_90 : decode cL_renames 90 = .ok (.aload 7, 2) := by decide +kernel
theorem dL_renames_92 : decode cL_renames 92 = .ok (.aload 10, 2) := by decide +kernel
theorem dL_renames_94 : decode cL_renames 94 = .ok (.aload 11, 2) := by decide +kernel
theorem dL_renames_96 : decode cL_renames 96 = .ok (.invokestatic 126, 3) := by decide +kernel
theorem dL_renames_99 : decode cL_renames 99 = .ok (.ifCond .eq 8, 3) := by decide +kernel
theorem dL_renames_102 : decode cL_renames 102 = .ok (.bipush (-7), 2) := by decide +kernel
theorem dL_renames_104 : decode cL_renames 104 = .ok (.goto 22, 3) := by decide +kernel
theorem dL_renames_107 : decode cL_renames 107 = .ok (.iload_n 1, 1) := by decide +kernel
theorem dL_renames_108 : decode cL_renames 108 = .ok (.iload 13, 2) := by decide +kernel
theorem dL_renames_110 : decode cL_renames 110 = .ok (.aload_n 3, 1) := by decide +kernel
theorem dL_renames_111 : decode cL_renames 111 = .ok (.aload 4, 2) := by decide +kernel
theorem dL_renames_113 : decode cL_renames 113 = .ok (.aload 5, 2) := by decide +kernel
theorem dL_renames_115 : decode cL_renames 115 = .ok (.aload 6, 2) := by decide +kernel
theorem dL_renames_117 : decode cL_renames 117 = .ok (.aload 7, 2) := by decide +kernel
theorem dL_renames_119 : decode cL_renames 119 = .ok (.aload 10, 2) := by decide +kernel
theorem dL_renames_121 : decode cL_renames 121 = .ok (.aload 11, 2) := by decide +kernel
theorem dL_renames_123 : decode cL_renames 123 = .ok (.invokestatic 101, 3) := by decide +kernel
theorem dL_renames_126 : decode cL_renames 126 = .ok (.istore 15, 2) := by decide +kernel
theorem dL_renames_128 : decode cL_renames 128 = .ok (.iload 15, 2) := by decide +kernel
theorem dL_renames_130 : decode cL_renames 130 = .ok (.ifCond .lt 29, 3) := by decide +kernel
theorem dL_renames_133 : decode cL_renames 133 = .ok (.iload_n 1, 1) := by decide +kernel
theorem dL_renames_134 : decode cL_renames 134 = .ok (.iconst 4, 1) := by decide +kernel
theorem dL_renames_135 : decode cL_renames 135 = .ok (.iload 13, 2) := by decide +kernel
theorem dL_renames_137 : decode cL_renames 137 = .ok (.iload 14, 2) := by decide +kernel
theorem dL_renames_139 : decode cL_renames 139 = .ok (.iconst 0, 1) := by decide +kernel
theorem dL_renames_140 : decode cL_renames 140 = .ok (.lconst 0, 1) := by decide +kernel
theorem dL_renames_141 : decode cL_renames 141 = .ok (.aload_n 3, 1) := by decide +kernel
theorem dL_renames_142 : decode cL_renames 142 = .ok (.aload 4, 2) := by decide +kernel
theorem dL_renames_144 : decode cL_renames 144 = .ok (.aload 5, 2) := by decide +kernel
theorem dL_renames_146 : decode cL_renames 146 = .ok (.aload 6, 2) := by decide +kernel
theorem dL_renames_148 : decode cL_renames 148 = .ok (.aload 7, 2) := by decide +kernel
theorem dL_renames_150 : decode cL_renames 150 = .ok (.aload 8, 2) := by decide +kernel
theorem dL_renames_152 : decode cL_renames 152 = .ok (.aload 9, 2) := by decide +kernel
theorem dL_renames_154 : decode cL_renames 154 = .ok (.aload 10, 2) := by decide +kernel
theorem dL_renames_156 : decode cL_renames 156 = .ok (.invokestatic 134, 3) := by decide +kernel
theorem dL_renames_159 : decode cL_renames 159 = .ok (.aload_n 0, 1) := by decide +kernel
theorem dL_renames_160 : decode cL_renames 160 = .ok (.iconst 4, 1) := by decide +kernel
theorem dL_renames_161 : decode cL_renames 161 = .ok (.iload_n 1, 1) := by decide +kernel
theorem dL_renames_162 : decode cL_renames 162 = .ok (.iload 13, 2) := by decide +kernel
theorem dL_renames_164 : decode cL_renames 164 = .ok (.iload 14, 2) := by decide +kernel
theorem dL_renames_166 : decode cL_renames 166 = .ok (.iconst 0, 1) := by decide +kernel
theorem dL_renames_167 : decode cL_renames 167 = .ok (.invokestatic 138, 3) := by decide +kernel
theorem dL_renames_170 : decode cL_renames 170 = .ok (.iload 15, 2) := by decide +kernel
theorem dL_renames_172 : decode cL_renames 172 = .ok (.if_icmp .ne 7, 3) := by decide +kernel
theorem dL_renames_175 : decode cL_renames 175 = .ok (.iconst 1, 1) := by decide +kernel
theorem dL_renames_176 : decode cL_renames 176 = .ok (.goto 4, 3) := by decide +kernel
theorem dL_renames_179 : decode cL_renames 179 = .ok (.iconst 0, 1) := by decide +kernel
theorem dL_renames_180 : decode cL_renames 180 = .ok (.ireturn, 1) := by decide +kernel
theorem dL_moves_0 : decode cL_moves 0 = .ok (.iload_n 2, 1) := by decide +kernel
theorem dL_moves_1 : decode cL_moves 1 = .ok (.aload_n 3, 1) := by decide +kernel
theorem dL_moves_2 : decode cL_moves 2 = .ok (.iconst 0, 1) := by decide +kernel
theorem dL_moves_3 : decode cL_moves 3 = .ok (.iaload, 1) := by decide +kernel
theorem dL_moves_4 : decode cL_moves 4 = .ok (.invokestatic 119, 3) := by decide +kernel
theorem dL_moves_7 : decode cL_moves 7 = .ok (.istore 13, 2) := by decide +kernel
theorem dL_moves_9 : decode cL_moves 9 = .ok (.iload_n 2, 1) := by decide +kernel
theorem dL_moves_10 : decode cL_moves 10 = .ok (.iconst 4, 1) := by decide +kernel
theorem dL_moves_11 : decode cL_moves 11 = .ok (.ishr, 1) := by decide +kernel
theorem dL_moves_12 : decode cL_moves 12 = .ok (.aload_n 3, 1) := by decide +kernel
theorem dL_moves_13 : decode cL_moves 13 = .ok (.iconst 0, 1) := by decide +kernel
theorem dL_moves_14 : decode cL_moves 14 = .ok (.iaload, 1) := by decide +kernel
theorem dL_moves_15 : decode cL_moves 15 = .ok (.invokestatic 119, 3) := by decide +kernel
theorem dL_moves_18 : decode cL_moves 18 = .ok (.istore 14, 2) := by decide +kernel
theorem dL_moves_20 : decode cL_moves 20 = .ok (.iload 13, 2) := by decide +kernel
theorem dL_moves_22 : decode cL_moves 22 = .ok (.ifCond .le 29, 3) := by decide +kernel
theorem dL_moves_25 : decode cL_moves 25 = .ok (.aload 11, 2) := by decide +kernel
theorem dL_moves_27 : decode cL_moves 27 = .ok (.iconst 3, 1) := by decide +kernel
theorem dL_moves_28 : decode cL_moves 28 = .ok (.iload 13, 2) := by decide +kernel
theorem dL_moves_30 : decode cL_moves 30 = .ok (.imul, 1) := by decide +kernel
theorem dL_moves_31 : decode cL_moves 31 = .ok (.iaload, 1) := by decide +kernel
theorem dL_moves_32 : decode cL_moves 32 = .ok (.iconst 1, 1) := by decide +kernel
theorem dL_moves_33 : decode cL_moves 33 = .ok (.if_icmp .ne 18, 3) := by decide +kernel
theorem dL_moves_36 : decode cL_moves 36 = .ok (.aload 11, 2) := by decide +kernel
theorem dL_moves_38 : decode cL_moves 38 = .ok (.iconst 3, 1) := by decide +kernel
theorem dL_moves_39 : decode cL_moves 39 = .ok (.iload 14, 2) := by decide +kernel
theorem dL_moves_41 : decode cL_moves 41 = .ok (.imul, 1) := by decide +kernel
theorem dL_moves_42 : decode cL_moves 42 = .ok (.iaload, 1) := by decide +kernel
theorem dL_moves_43 : decode cL_moves 43 = .ok (.iconst 1, 1) := by decide +kernel
theorem dL_moves_44 : decode cL_moves 44 = .ok (.if_icmp .ne 7, 3) := by decide +kernel
theorem dL_moves_47 : decode cL_moves 47 = .ok (.iconst 1, 1) := by decide +kernel
theorem dL_moves_48 : decode cL_moves 48 = .ok (.goto 4, 3) := by decide +kernel
theorem dL_moves_51 : decode cL_moves 51 = .ok (.iconst 0, 1) := by decide +kernel
theorem dL_moves_52 : decode cL_moves 52 = .ok (.istore 15, 2) := by decide +kernel
theorem dL_moves_54 : decode cL_moves 54 = .ok (.iload 15, 2) := by decide +kernel
theorem dL_moves_56 : decode cL_moves 56 = .ok (.ifCond .eq 124, 3) := by decide +kernel
theorem dL_moves_59 : decode cL_moves 59 = .ok (.iload_n 1, 1) := by decide +kernel
theorem dL_moves_60 : decode cL_moves 60 = .ok (.aload_n 3, 1) := by decide +kernel
theorem dL_moves_61 : decode cL_moves 61 = .ok (.iconst 4, 1) := by decide +kernel
theorem dL_moves_62 : decode cL_moves 62 = .ok (.iload_n 1, 1) := by decide +kernel
theorem dL_moves_63 : decode cL_moves 63 = .ok (.iadd, 1) := by decide +kernel
theorem dL_moves_64 : decode cL_moves 64 = .ok (.iaload, 1) := by decide +kernel
theorem dL_moves_65 : decode cL_moves 65 = .ok (.iload 13, 2) := by decide +kernel
theorem dL_moves_67 : decode cL_moves 67 = .ok (.iconst 1, 1) := by decide +kernel
theorem dL_moves_68 : decode cL_moves 68 = .ok (.aload_n 3, 1) := by decide +kernel
theorem dL_moves_69 : decode cL_moves 69 = .ok (.aload 4, 2) := by decide +kernel
theorem dL_moves_71 : decode cL_moves 71 = .ok (.aload 5, 2) := by decide +kernel
theorem dL_moves_73 : decode cL_moves 73 = .ok (.aload 6, 2) := by decide +kernel
theorem dL_moves_75 : decode cL_moves 75 = .ok (.aload 7, 2) := by decide +kernel
theorem dL_moves_77 : decode cL_moves 77 = .ok (.aload 8, 2) := by decide +kernel
theorem dL_moves_79 : decode cL_moves 79 = .ok (.aload 10, 2) := by decide +kernel
theorem dL_moves_81 : decode cL_moves 81 = .ok (.aload 11, 2) := by decide +kernel
theorem dL_moves_83 : decode cL_moves 83 = .ok (.aload 12, 2) := by decide +kernel
theorem dL_moves_85 : decode cL_moves 85 = .ok (.invokestatic 122, 3) := by decide +kernel
theorem dL_moves_88 : decode cL_moves 88 = .ok (.ifCond .eq 92, 3) := by decide +kernel
theorem dL_moves_91 : decode cL_moves 91 = .ok (.iload_n 1, 1) := by decide +kernel
theorem dL_moves_92 : decode cL_moves 92 = .ok (.aload_n 3, 1) := by decide +kernel
theorem dL_moves_93 : decode cL_moves 93 = .ok (.iconst 4, 1) := by decide +kernel
theorem dL_moves_94 : decode cL_moves 94 = .ok (.iload_n 1, 1) := by decide +kernel
theorem dL_moves_95 : decode cL_moves 95 = .ok (.iadd, 1) := by decide +kernel
theorem dL_moves_96 : decode cL_moves 96 = .ok (.iaload, 1) := by decide +kernel
theorem dL_moves_97 : decode cL_moves 97 = .ok (.iload 14, 2) := by decide +kernel
theorem dL_moves_99 : decode cL_moves 99 = .ok (.iconst 1, 1) := by decide +kernel
theorem dL_moves_100 : decode cL_moves 100 = .ok (.aload_n 3, 1) := by decide +kernel
theorem dL_moves_101 : decode cL_moves 101 = .ok (.aload 4, 2) := by decide +kernel
theorem dL_moves_103 : decode cL_moves 103 = .ok (.aload 5, 2) := by decide +kernel
theorem dL_moves_105 : decode cL_moves 105 = .ok (.aload 6, 2) := by decide +kernel
theorem dL_moves_107 : decode cL_moves 107 = .ok (.aload 7, 2) := by decide +kernel
theorem dL_moves_109 : decode cL_moves 109 = .ok (.aload 8, 2) := by decide +kernel
theorem dL_moves_111 : decode cL_moves 111 = .ok (.aload 10, 2) := by decide +kernel
theorem dL_moves_113 : decode cL_moves 113 = .ok (.aload 11, 2) := by decide +kernel
theorem dL_moves_115 : decode cL_moves 115 = .ok (.aload 12, 2) := by decide +kernel
theorem dL_moves_117 : decode cL_moves 117 = .ok (.invokestatic 122, 3) := by decide +kernel
theorem dL_moves_120 : decode cL_moves 120 = .ok (.ifCond .eq 60, 3) := by decide +kernel
theorem dL_moves_123 : decode cL_moves 123 = .ok (.iload 13, 2) := by decide +kernel
theorem dL_moves_125 : decode cL_moves 125 = .ok (.iload 14, 2) := by decide +kernel
theorem dL_moves_127 : decode cL_moves 127 = .ok (.aload 11, 2) := by decide +kernel
theorem dL_moves_129 : decode cL_moves 129 = .ok (.invokestatic 81, 3) := by decide +kernel
theorem dL_moves_132 : decode cL_moves 132 = .ok (.ifCond .ne 48, 3) := by decide +kernel
theorem dL_moves_135 : decode cL_moves 135 = .ok (.iload_n 1, 1) := by decide +kernel
theorem dL_moves_136 : decode cL_moves 136 = .ok (.iload 14, 2) := by decide +kernel
theorem dL_moves_138 : decode cL_moves 138 = .ok (.iload 13, 2) := by decide +kernel
theorem dL_moves_140 : decode cL_moves 140 = .ok (.iload_n 1, 1) := by decide +kernel
theorem dL_moves_141 : decode cL_moves 141 = .ok (.iload 13, 2) := by decide +kernel
theorem dL_moves_143 : decode cL_moves 143 = .ok (.aload_n 3, 1) := by decide +kernel
theorem dL_moves_144 : decode cL_moves 144 = .ok (.aload 4, 2) := by decide +kernel
theorem dL_moves_146 : decode cL_moves 146 = .ok (.aload 5, 2) := by decide +kernel
theorem dL_moves_148 : decode cL_moves 148 = .ok (.aload 6, 2) := by decide +kernel
theorem dL_moves_150 : decode cL_moves 150 = .ok (.aload 7, 2) := by decide +kernel
theorem dL_moves_152 : decode cL_moves 152 = .ok (.aload 10, 2) := by decide +kernel
theorem dL_moves_154 : decode cL_moves 154 = .ok (.invokestatic 89, 3) := by decide +kernel
theorem dL_moves_157 : decode cL_moves 157 = .ok (.aload_n 3, 1) := by decide +kernel
theorem dL_moves_158 : decode cL_moves 158 = .ok (.aload 4, 2) := by decide +kernel
theorem dL_moves_160 : decode cL_moves 160 = .ok (.aload 5, 2) := by decide +kernel
theorem dL_moves_162 : decode cL_moves 162 = .ok (.aload 6, 2) := by decide +kernel
theorem dL_moves_164 : decode cL_moves 164 = .ok (.aload 7, 2) := by decide +kernel
theorem dL_moves_166 : decode cL_moves 166 = .ok (.aload 10, 2) := by decide +kernel
theorem dL_moves_168 : decode cL_moves 168 = .ok (.aload 11, 2) := by decide +kernel
theorem dL_moves_170 : decode cL_moves 170 = .ok (.invokestatic 126, 3) := by decide +kernel
theorem dL_moves_173 : decode cL_moves 173 = .ok (.ifCond .ne 7, 3) := by decide +kernel
theorem dL_moves_176 : decode cL_moves 176 = .ok (.iconst 1, 1) := by decide +kernel
theorem dL_moves_177 : decode cL_moves 177 = .ok (.goto 4, 3) := by decide +kernel
theorem dL_moves_180 : decode cL_moves 180 = .ok (.iconst 0, 1) := by decide +kernel
theorem dL_moves_181 : decode cL_moves 181 = .ok (.istore 16, 2) := by decide +kernel
theorem dL_moves_183 : decode cL_moves 183 = .ok (.iload 15, 2) := by decide +kernel
theorem dL_moves_185 : decode cL_moves 185 = .ok (.ifCond .ne 8, 3) := by decide +kernel
theorem dL_moves_188 : decode cL_moves 188 = .ok (.bipush (-9), 2) := by decide +kernel
theorem dL_moves_190 : decode cL_moves 190 = .ok (.goto 20, 3) := by decide +kernel
theorem dL_moves_193 : decode cL_moves 193 = .ok (.iload 16, 2) := by decide +kernel
theorem dL_moves_195 : decode cL_moves 195 = .ok (.ifCond .eq 13, 3) := by decide +kernel
theorem dL_moves_198 : decode cL_moves 198 = .ok (.iload 13, 2) := by decide +kernel
theorem dL_moves_200 : decode cL_moves 200 = .ok (.aload 11, 2) := by decide +kernel
theorem dL_moves_202 : decode cL_moves 202 = .ok (.invokestatic 93, 3) := by decide +kernel
theorem dL_moves_205 : decode cL_moves 205 = .ok (.goto 5, 3) := by decide +kernel
theorem dL_moves_208 : decode cL_moves 208 = .ok (.bipush (-7), 2) := by decide +kernel
theorem dL_moves_210 : decode cL_moves 210 = .ok (.istore 17, 2) := by decide +kernel
theorem dL_moves_212 : decode cL_moves 212 = .ok (.iload 16, 2) := by decide +kernel
theorem dL_moves_214 : decode cL_moves 214 = .ok (.ifCond .eq 30, 3) := by decide +kernel
theorem dL_moves_217 : decode cL_moves 217 = .ok (.iload_n 1, 1) := by decide +kernel
theorem dL_moves_218 : decode cL_moves 218 = .ok (.bipush 7, 2) := by decide +kernel
theorem dL_moves_220 : decode cL_moves 220 = .ok (.iload 13, 2) := by decide +kernel
theorem dL_moves_222 : decode cL_moves 222 = .ok (.iload 14, 2) := by decide +kernel
theorem dL_moves_224 : decode cL_moves 224 = .ok (.iconst 0, 1) := by decide +kernel
theorem dL_moves_225 : decode cL_moves 225 = .ok (.lconst 0, 1) := by decide +kernel
theorem dL_moves_226 : decode cL_moves 226 = .ok (.aload_n 3, 1) := by decide +kernel
theorem dL_moves_227 : decode cL_moves 227 = .ok (.aload 4, 2) := by decide +kernel
theorem dL_moves_229 : decode cL_moves 229 = .ok (.aload 5, 2) := by decide +kernel
theorem dL_moves_231 : decode cL_moves 231 = .ok (.aload 6, 2) := by decide +kernel
theorem dL_moves_233 : decode cL_moves 233 = .ok (.aload 7, 2) := by decide +kernel
theorem dL_moves_235 : decode cL_moves 235 = .ok (.aload 8, 2) := by decide +kernel
theorem dL_moves_237 : decode cL_moves 237 = .ok (.aload 9, 2) := by decide +kernel
theorem dL_moves_239 : decode cL_moves 239 = .ok (.aload 10, 2) := by decide +kernel
theorem dL_moves_241 : decode cL_moves 241 = .ok (.invokestatic 134, 3) := by decide +kernel
theorem dL_moves_244 : decode cL_moves 244 = .ok (.aload_n 0, 1) := by decide +kernel
theorem dL_moves_245 : decode cL_moves 245 = .ok (.bipush 7, 2) := by decide +kernel
theorem dL_moves_247 : decode cL_moves 247 = .ok (.iload_n 1, 1) := by decide +kernel
theorem dL_moves_248 : decode cL_moves 248 = .ok (.iload 13, 2) := by decide +kernel
theorem dL_moves_250 : decode cL_moves 250 = .ok (.iload 14, 2) := by decide +kernel
theorem dL_moves_252 : decode cL_moves 252 = .ok (.iconst 0, 1) := by decide +kernel
theorem dL_moves_253 : decode cL_moves 253 = .ok (.invokestatic 138, 3) := by decide +kernel
theorem dL_moves_256 : decode cL_moves 256 = .ok (.iload 17, 2) := by decide +kernel
theorem dL_moves_258 : decode cL_moves 258 = .ok (.if_icmp .ne 7, 3) := by decide +kernel
theorem dL_moves_261 : decode cL_moves 261 = .ok (.iconst 1, 1) := by decide +kernel
theorem dL_moves_262 : decode cL_moves 262 = .ok (.goto 4, 3) := by decide +kernel
theorem dL_moves_265 : decode cL_moves 265 = .ok (.iconst 0, 1) := by decide +kernel
theorem dL_moves_266 : decode cL_moves 266 = .ok (.ireturn, 1) := by decide +kernel
theorem dL_gone_0 : decode cL_gone 0 = .ok (.iconst 0, 1) := by decide +kernel
theorem dL_gone_1 : decode cL_gone 1 = .ok (.istore 8, 2) := by decide +kernel
theorem dL_gone_3 : decode cL_gone 3 = .ok (.iconst 0, 1) := by decide +kernel
theorem dL_gone_4 : decode cL_gone 4 = .ok (.istore 9, 2) := by decide +kernel
theorem dL_gone_6 : decode cL_gone 6 = .ok (.iload 9, 2) := by decide +kernel
theorem dL_gone_8 : decode cL_gone 8 = .ok (.aload_n 3, 1) := by decide +kernel
theorem dL_gone_9 : decode cL_gone 9 = .ok (.iconst 1, 1) := by decide +kernel
theorem dL_gone_10 : decode cL_gone 10 = .ok (.iaload, 1) := by decide +kernel
theorem dL_gone_11 : decode cL_gone 11 = .ok (.if_icmp .ge 76, 3) := by decide +kernel
theorem dL_gone_14 : decode cL_gone 14 = .ok (.iload 8, 2) := by decide +kernel
theorem dL_gone_16 : decode cL_gone 16 = .ok (.ifCond .ne 58, 3) := by decide +kernel
theorem dL_gone_19 : decode cL_gone 19 = .ok (.aload 6, 2) := by decide +kernel
theorem dL_gone_21 : decode cL_gone 21 = .ok (.iload 9, 2) := by decide +kernel
theorem dL_gone_23 : decode cL_gone 23 = .ok (.iaload, 1) := by decide +kernel
theorem dL_gone_24 : decode cL_gone 24 = .ok (.sipush 128, 3) := by decide +kernel
theorem dL_gone_27 : decode cL_gone 27 = .ok (.iload_n 2, 1) := by decide +kernel
theorem dL_gone_28 : decode cL_gone 28 = .ok (.iadd, 1) := by decide +kernel
theorem dL_gone_29 : decode cL_gone 29 = .ok (.if_icmp .ne 49, 3) := by decide +kernel
theorem dL_gone_32 : decode cL_gone 32 = .ok (.iload_n 0, 1) := by decide +kernel
theorem dL_gone_33 : decode cL_gone 33 = .ok (.iload 9, 2) := by decide +kernel
theorem dL_gone_35 : decode cL_gone 35 = .ok (.aload 4, 2) := by decide +kernel
theorem dL_gone_37 : decode cL_gone 37 = .ok (.aload 5, 2) := by decide +kernel
theorem dL_gone_39 : decode cL_gone 39 = .ok (.aload 7, 2) := by decide +kernel
theorem dL_gone_41 : decode cL_gone 41 = .ok (.invokestatic 73, 3) := by decide +kernel
theorem dL_gone_44 : decode cL_gone 44 = .ok (.ifCond .eq 34, 3) := by decide +kernel
theorem dL_gone_47 : decode cL_gone 47 = .ok (.aload 5, 2) := by decide +kernel
theorem dL_gone_49 : decode cL_gone 49 = .ok (.iload 9, 2) := by decide +kernel
theorem dL_gone_51 : decode cL_gone 51 = .ok (.iaload, 1) := by decide +kernel
theorem dL_gone_52 : decode cL_gone 52 = .ok (.aload 7, 2) := by decide +kernel
theorem dL_gone_54 : decode cL_gone 54 = .ok (.bipush 16, 2) := by decide +kernel
theorem dL_gone_56 : decode cL_gone 56 = .ok (.iload_n 0, 1) := by decide +kernel
theorem dL_gone_57 : decode cL_gone 57 = .ok (.imul, 1) := by decide +kernel
theorem dL_gone_58 : decode cL_gone 58 = .ok (.iconst 4, 1) := by decide +kernel
theorem dL_gone_59 : decode cL_gone 59 = .ok (.iload_n 1, 1) := by decide +kernel
theorem dL_gone_60 : decode cL_gone 60 = .ok (.imul, 1) := by decide +kernel
theorem dL_gone_61 : decode cL_gone 61 = .ok (.iadd, 1) := by decide +kernel
theorem dL_gone_62 : decode cL_gone 62 = .ok (.aload 4, 2) := by decide +kernel
theorem dL_gone_64 : decode cL_gone 64 = .ok (.iload 9, 2) := by decide +kernel
theorem dL_gone_66 : decode cL_gone 66 = .ok (.iaload, 1) := by decide +kernel
theorem dL_gone_67 : decode cL_gone 67 = .ok (.iconst 4, 1) := by decide +kernel
theorem dL_gone_68 : decode cL_gone 68 = .ok (.irem, 1) := by decide +kernel
theorem dL_gone_69 : decode cL_gone 69 = .ok (.iadd, 1) := by decide +kernel
theorem dL_gone_70 : decode cL_gone 70 = .ok (.iaload, 1) := by decide +kernel
theorem dL_gone_71 : decode cL_gone 71 = .ok (.if_icmp .ge 7, 3) := by decide +kernel
theorem dL_gone_74 : decode cL_gone 74 = .ok (.iconst 1, 1) := by decide +kernel
theorem dL_gone_75 : decode cL_gone 75 = .ok (.goto 4, 3) := by decide +kernel
theorem dL_gone_78 : decode cL_gone 78 = .ok (.iconst 0, 1) := by decide +kernel
theorem dL_gone_79 : decode cL_gone 79 = .ok (.istore 8, 2) := by decide +kernel
theorem dL_gone_81 : decode cL_gone 81 = .ok (.iinc 9 1, 3) := by decide +kernel
theorem dL_gone_84 : decode cL_gone 84 = .ok (.goto (-78), 3) := by decide +kernel
theorem dL_gone_87 : decode cL_gone 87 = .ok (.iload 8, 2) := by decide +kernel
theorem dL_gone_89 : decode cL_gone 89 = .ok (.ireturn, 1) := by decide +kernel
theorem dL_marks_0 : decode cL_marks 0 = .ok (.iconst 0, 1) := by decide +kernel
theorem dL_marks_1 : decode cL_marks 1 = .ok (.istore 6, 2) := by decide +kernel
theorem dL_marks_3 : decode cL_marks 3 = .ok (.iconst 1, 1) := by decide +kernel
theorem dL_marks_4 : decode cL_marks 4 = .ok (.istore 7, 2) := by decide +kernel
theorem dL_marks_6 : decode cL_marks 6 = .ok (.iload 7, 2) := by decide +kernel
theorem dL_marks_8 : decode cL_marks 8 = .ok (.aload_n 1, 1) := by decide +kernel
theorem dL_marks_9 : decode cL_marks 9 = .ok (.iconst 0, 1) := by decide +kernel
theorem dL_marks_10 : decode cL_marks 10 = .ok (.iaload, 1) := by decide +kernel
theorem dL_marks_11 : decode cL_marks 11 = .ok (.if_icmp .ge 50, 3) := by decide +kernel
theorem dL_marks_14 : decode cL_marks 14 = .ok (.iload 6, 2) := by decide +kernel
theorem dL_marks_16 : decode cL_marks 16 = .ok (.iload_n 0, 1) := by decide +kernel
theorem dL_marks_17 : decode cL_marks 17 = .ok (.iload_n 0, 1) := by decide +kernel
theorem dL_marks_18 : decode cL_marks 18 = .ok (.iload 7, 2) := by decide +kernel
theorem dL_marks_20 : decode cL_marks 20 = .ok (.aload_n 1, 1) := by decide +kernel
theorem dL_marks_21 : decode cL_marks 21 = .ok (.aload_n 2, 1) := by decide +kernel
theorem dL_marks_22 : decode cL_marks 22 = .ok (.aload_n 3, 1) := by decide +kernel
theorem dL_marks_23 : decode cL_marks 23 = .ok (.aload 4, 2) := by decide +kernel
theorem dL_marks_25 : decode cL_marks 25 = .ok (.aload 5, 2) := by decide +kernel
theorem dL_marks_27 : decode cL_marks 27 = .ok (.invokestatic 146, 3) := by decide +kernel
theorem dL_marks_30 : decode cL_marks 30 = .ok (.ifCond .eq 21, 3) := by decide +kernel
theorem dL_marks_33 : decode cL_marks 33 = .ok (.aload_n 1, 1) := by decide +kernel
theorem dL_marks_34 : decode cL_marks 34 = .ok (.bipush 16, 2) := by decide +kernel
theorem dL_marks_36 : decode cL_marks 36 = .ok (.iload_n 0, 1) := by decide +kernel
theorem dL_marks_37 : decode cL_marks 37 = .ok (.iadd, 1) := by decide +kernel
theorem dL_marks_38 : decode cL_marks 38 = .ok (.iaload, 1) := by decide +kernel
theorem dL_marks_39 : decode cL_marks 39 = .ok (.iload 7, 2) := by decide +kernel
theorem dL_marks_41 : decode cL_marks 41 = .ok (.ishr, 1) := by decide +kernel
theorem dL_marks_42 : decode cL_marks 42 = .ok (.iconst 1, 1) := by decide +kernel
theorem dL_marks_43 : decode cL_marks 43 = .ok (.iand, 1) := by decide +kernel
theorem dL_marks_44 : decode cL_marks 44 = .ok (.ifCond .ne 7, 3) := by decide +kernel
theorem dL_marks_47 : decode cL_marks 47 = .ok (.iconst 1, 1) := by decide +kernel
theorem dL_marks_48 : decode cL_marks 48 = .ok (.goto 4, 3) := by decide +kernel
theorem dL_marks_51 : decode cL_marks 51 = .ok (.iconst 0, 1) := by decide +kernel
theorem dL_marks_52 : decode cL_marks 52 = .ok (.iadd, 1) := by decide +kernel
theorem dL_marks_53 : decode cL_marks 53 = .ok (.istore 6, 2) := by decide +kernel
theorem dL_marks_55 : decode cL_marks 55 = .ok (.iinc 7 1, 3) := by decide +kernel
theorem dL_marks_58 : decode cL_marks 58 = .ok (.goto (-52), 3) := by decide +kernel
theorem dL_marks_61 : decode cL_marks 61 = .ok (.iload 6, 2) := by decide +kernel
theorem dL_marks_63 : decode cL_marks 63 = .ok (.ireturn, 1) := by decide +kernel
theorem dL_deletes_0 : decode cL_deletes 0 = .ok (.iload_n 2, 1) := by decide +kernel
theorem dL_deletes_1 : decode cL_deletes 1 = .ok (.aload_n 3, 1) := by decide +kernel
theorem dL_deletes_2 : decode cL_deletes 2 = .ok (.iconst 0, 1) := by decide +kernel
theorem dL_deletes_3 : decode cL_deletes 3 = .ok (.iaload, 1) := by decide +kernel
theorem dL_deletes_4 : decode cL_deletes 4 = .ok (.invokestatic 119, 3) := by decide +kernel
theorem dL_deletes_7 : decode cL_deletes 7 = .ok (.istore 13, 2) := by decide +kernel
theorem dL_deletes_9 : decode cL_deletes 9 = .ok (.iload 13, 2) := by decide +kernel
theorem dL_deletes_11 : decode cL_deletes 11 = .ok (.ifCond .le 18, 3) := by decide +kernel
theorem dL_deletes_14 : decode cL_deletes 14 = .ok (.aload 11, 2) := by decide +kernel
theorem dL_deletes_16 : decode cL_deletes 16 = .ok (.iconst 3, 1) := by decide +kernel
theorem dL_deletes_17 : decode cL_deletes 17 = .ok (.iload 13, 2) := by decide +kernel
theorem dL_deletes_19 : decode cL_deletes 19 = .ok (.imul, 1) := by decide +kernel
theorem dL_deletes_20 : decode cL_deletes 20 = .ok (.iaload, 1) := by decide +kernel
theorem dL_deletes_21 : decode cL_deletes 21 = .ok (.iconst 1, 1) := by decide +kernel
theorem dL_deletes_22 : decode cL_deletes 22 = .ok (.if_icmp .ne 7, 3) := by decide +kernel
theorem dL_deletes_25 : decode cL_deletes 25 = .ok (.iconst 1, 1) := by decide +kernel
theorem dL_deletes_26 : decode cL_deletes 26 = .ok (.goto 4, 3) := by decide +kernel
theorem dL_deletes_29 : decode cL_deletes 29 = .ok (.iconst 0, 1) := by decide +kernel
theorem dL_deletes_30 : decode cL_deletes 30 = .ok (.istore 14, 2) := by decide +kernel
theorem dL_deletes_32 : decode cL_deletes 32 = .ok (.iload 14, 2) := by decide +kernel
theorem dL_deletes_34 : decode cL_deletes 34 = .ok (.ifCond .eq 39, 3) := by decide +kernel
theorem dL_deletes_37 : decode cL_deletes 37 = .ok (.iload_n 1, 1) := by decide +kernel
theorem dL_deletes_38 : decode cL_deletes 38 = .ok (.aload_n 3, 1) := by decide +kernel
theorem dL_deletes_39 : decode cL_deletes 39 = .ok (.iconst 4, 1) := by decide +kernel
theorem dL_deletes_40 : decode cL_deletes 40 = .ok (.iload_n 1, 1) := by decide +kernel
theorem dL_deletes_41 : decode cL_deletes 41 = .ok (.iadd, 1) := by decide +kernel
theorem dL_deletes_42 : decode cL_deletes 42 = .ok (.iaload, 1) := by decide +kernel
theorem dL_deletes_43 : decode cL_deletes 43 = .ok (.iload 13, 2) := by decide +kernel
theorem dL_deletes_45 : decode cL_deletes 45 = .ok (.iconst 1, 1) := by decide +kernel
theorem dL_deletes_46 : decode cL_deletes 46 = .ok (.aload_n 3, 1) := by decide +kernel
theorem dL_deletes_47 : decode cL_deletes 47 = .ok (.aload 4, 2) := by decide +kernel
theorem dL_deletes_49 : decode cL_deletes 49 = .ok (.aload 5, 2) := by decide +kernel
theorem dL_deletes_51 : decode cL_deletes 51 = .ok (.aload 6, 2) := by decide +kernel
theorem dL_deletes_53 : decode cL_deletes 53 = .ok (.aload 7, 2) := by decide +kernel
theorem dL_deletes_55 : decode cL_deletes 55 = .ok (.aload 8, 2) := by decide +kernel
theorem dL_deletes_57 : decode cL_deletes 57 = .ok (.aload 10, 2) := by decide +kernel
theorem dL_deletes_59 : decode cL_deletes 59 = .ok (.aload 11, 2) := by decide +kernel
theorem dL_deletes_61 : decode cL_deletes 61 = .ok (.aload 12, 2) := by decide +kernel
theorem dL_deletes_63 : decode cL_deletes 63 = .ok (.invokestatic 122, 3) := by decide +kernel
theorem dL_deletes_66 : decode cL_deletes 66 = .ok (.ifCond .eq 7, 3) := by decide +kernel
theorem dL_deletes_69 : decode cL_deletes 69 = .ok (.iconst 1, 1) := by decide +kernel
theorem dL_deletes_70 : decode cL_deletes 70 = .ok (.goto 4, 3) := by decide +kernel
theorem dL_deletes_73 : decode cL_deletes 73 = .ok (.iconst 0, 1) := by decide +kernel
theorem dL_deletes_74 : decode cL_deletes 74 = .ok (.istore 15, 2) := by decide +kernel
theorem dL_deletes_76 : decode cL_deletes 76 = .ok (.iconst 1, 1) := by decide +kernel
theorem dL_deletes_77 : decode cL_deletes 77 = .ok (.istore 16, 2) := by decide +kernel
theorem dL_deletes_79 : decode cL_deletes 79 = .ok (.iload 16, 2) := by decide +kernel
theorem dL_deletes_81 : decode cL_deletes 81 = .ok (.aload_n 3, 1) := by decide +kernel
theorem dL_deletes_82 : decode cL_deletes 82 = .ok (.iconst 0, 1) := by decide +kernel
theorem dL_deletes_83 : decode cL_deletes 83 = .ok (.iaload, 1) := by decide +kernel
theorem dL_deletes_84 : decode cL_deletes 84 = .ok (.if_icmp .ge 44, 3) := by decide +kernel
theorem dL_deletes_87 : decode cL_deletes 87 = .ok (.iload 15, 2) := by decide +kernel
theorem dL_deletes_89 : decode cL_deletes 89 = .ok (.ifCond .eq 30, 3) := by decide +kernel
theorem dL_deletes_92 : decode cL_deletes 92 = .ok (.aload 11, 2) := by decide +kernel
theorem dL_deletes_94 : decode cL_deletes 94 = .ok (.iconst 3, 1) := by decide +kernel
theorem dL_deletes_95 : decode cL_deletes 95 = .ok (.iload 16, 2) := by decide +kernel
theorem dL_deletes_97 : decode cL_deletes 97 = .ok (.imul, 1) := by decide +kernel
theorem dL_deletes_98 : decode cL_deletes 98 = .ok (.iaload, 1) := by decide +kernel
theorem dL_deletes_99 : decode cL_deletes 99 = .ok (.iconst 1, 1) := by decide +kernel
theorem dL_deletes_100 : decode cL_deletes 100 = .ok (.if_icmp .ne 15, 3) := by decide +kernel
theorem dL_deletes_103 : decode cL_deletes 103 = .ok (.iload 16, 2) := by decide +kernel
theorem dL_deletes_105 : decode cL_deletes 105 = .ok (.aload 11, 2) := by decide +kernel
theorem dL_deletes_107 : decode cL_deletes 107 = .ok (.invokestatic 93, 3) := by decide +kernel
theorem dL_deletes_110 : decode cL_deletes 110 = .ok (.iload 13, 2) := by decide +kernel
theorem dL_deletes_112 : decode cL_deletes 112 = .ok (.if_icmp .eq 7, 3) := by decide +kernel
theorem dL_deletes_115 : decode cL_deletes 115 = .ok (.iconst 1, 1) := by decide +kernel
theorem dL_deletes_116 : decode cL_deletes 116 = .ok (.goto 4, 3) := by decide +kernel
theorem dL_deletes_119 : decode cL_deletes 119 = .ok (.iconst 0, 1) := by decide +kernel
theorem dL_deletes_120 : decode cL_deletes 120 = .ok (.istore 15, 2) := by decide +kernel
theorem dL_deletes_122 : decode cL_deletes 122 = .ok (.iinc 16 1, 3) := by decide +kernel
theorem dL_deletes_125 : decode cL_deletes 125 = .ok (.goto (-46), 3) := by decide +kernel
theorem dL_deletes_128 : decode cL_deletes 128 = .ok (.iload 15, 2) := by decide +kernel
theorem dL_deletes_130 : decode cL_deletes 130 = .ok (.ifCond .eq 29, 3) := by decide +kernel
theorem dL_deletes_133 : decode cL_deletes 133 = .ok (.iload_n 1, 1) := by decide +kernel
theorem dL_deletes_134 : decode cL_deletes 134 = .ok (.bipush 8, 2) := by decide +kernel
theorem dL_deletes_136 : decode cL_deletes 136 = .ok (.iload 13, 2) := by decide +kernel
theorem dL_deletes_138 : decode cL_deletes 138 = .ok (.iconst 0, 1) := by decide +kernel
theorem dL_deletes_139 : decode cL_deletes 139 = .ok (.iconst 0, 1) := by decide +kernel
theorem dL_deletes_140 : decode cL_deletes 140 = .ok (.lconst 0, 1) := by decide +kernel
theorem dL_deletes_141 : decode cL_deletes 141 = .ok (.aload_n 3, 1) := by decide +kernel
theorem dL_deletes_142 : decode cL_deletes 142 = .ok (.aload 4, 2) := by decide +kernel
theorem dL_deletes_144 : decode cL_deletes 144 = .ok (.aload 5, 2) := by decide +kernel
theorem dL_deletes_146 : decode cL_deletes 146 = .ok (.aload 6, 2) := by decide +kernel
theorem dL_deletes_148 : decode cL_deletes 148 = .ok (.aload 7, 2) := by decide +kernel
theorem dL_deletes_150 : decode cL_deletes 150 = .ok (.aload 8, 2) := by decide +kernel
theorem dL_deletes_152 : decode cL_deletes 152 = .ok (.aload 9, 2) := by decide +kernel
theorem dL_deletes_154 : decode cL_deletes 154 = .ok (.aload 10, 2) := by decide +kernel
theorem dL_deletes_156 : decode cL_deletes 156 = .ok (.invokestatic 134, 3) := by decide +kernel
theorem dL_deletes_159 : decode cL_deletes 159 = .ok (.aload_n 0, 1) := by decide +kernel
theorem dL_deletes_160 : decode cL_deletes 160 = .ok (.bipush 8, 2) := by decide +kernel
theorem dL_deletes_162 : decode cL_deletes 162 = .ok (.iload_n 1, 1) := by decide +kernel
theorem dL_deletes_163 : decode cL_deletes 163 = .ok (.iload 13, 2) := by decide +kernel
theorem dL_deletes_165 : decode cL_deletes 165 = .ok (.iconst 0, 1) := by decide +kernel
theorem dL_deletes_166 : decode cL_deletes 166 = .ok (.iconst 0, 1) := by decide +kernel
theorem dL_deletes_167 : decode cL_deletes 167 = .ok (.invokestatic 138, 3) := by decide +kernel
theorem dL_deletes_170 : decode cL_deletes 170 = .ok (.iload 14, 2) := by decide +kernel
theorem dL_deletes_172 : decode cL_deletes 172 = .ok (.ifCond .ne 8, 3) := by decide +kernel
theorem dL_deletes_175 : decode cL_deletes 175 = .ok (.bipush (-9), 2) := by decide +kernel
theorem dL_deletes_177 : decode cL_deletes 177 = .ok (.goto 26, 3) := by decide +kernel
theorem dL_deletes_180 : decode cL_deletes 180 = .ok (.iload 15, 2) := by decide +kernel
theorem dL_deletes_182 : decode cL_deletes 182 = .ok (.ifCond .eq 19, 3) := by decide +kernel
theorem dL_deletes_185 : decode cL_deletes 185 = .ok (.iload_n 1, 1) := by decide +kernel
theorem dL_deletes_186 : decode cL_deletes 186 = .ok (.aload_n 3, 1) := by decide +kernel
theorem dL_deletes_187 : decode cL_deletes 187 = .ok (.aload 4, 2) := by decide +kernel
theorem dL_deletes_189 : decode cL_deletes 189 = .ok (.aload 5, 2) := by decide +kernel
theorem dL_deletes_191 : decode cL_deletes 191 = .ok (.aload 6, 2) := by decide +kernel
theorem dL_deletes_193 : decode cL_deletes 193 = .ok (.aload 10, 2) := by decide +kernel
theorem dL_deletes_195 : decode cL_deletes 195 = .ok (.invokestatic 150, 3) := by decide +kernel
theorem dL_deletes_198 : decode cL_deletes 198 = .ok (.goto 5, 3) := by decide +kernel
theorem dL_deletes_201 : decode cL_deletes 201 = .ok (.bipush (-7), 2) := by decide +kernel
theorem dL_deletes_203 : decode cL_deletes 203 = .ok (.if_icmp .ne 7, 3) := by decide +kernel
theorem dL_deletes_206 : decode cL_deletes 206 = .ok (.iconst 1, 1) := by decide +kernel
theorem dL_deletes_207 : decode cL_deletes 207 = .ok (.goto 4, 3) := by decide +kernel
theorem dL_deletes_210 : decode cL_deletes 210 = .ok (.iconst 0, 1) := by decide +kernel
theorem dL_deletes_211 : decode cL_deletes 211 = .ok (.ireturn, 1) := by decide +kernel
theorem dL_links_0 : decode cL_links 0 = .ok (.iload_n 2, 1) := by decide +kernel
theorem dL_links_1 : decode cL_links 1 = .ok (.aload_n 3, 1) := by decide +kernel
theorem dL_links_2 : decode cL_links 2 = .ok (.iconst 0, 1) := by decide +kernel
theorem dL_links_3 : decode cL_links 3 = .ok (.iaload, 1) := by decide +kernel
theorem dL_links_4 : decode cL_links 4 = .ok (.invokestatic 119, 3) := by decide +kernel
theorem dL_links_7 : decode cL_links 7 = .ok (.istore 13, 2) := by decide +kernel
theorem dL_links_9 : decode cL_links 9 = .ok (.iload_n 2, 1) := by decide +kernel
theorem dL_links_10 : decode cL_links 10 = .ok (.iconst 4, 1) := by decide +kernel
theorem dL_links_11 : decode cL_links 11 = .ok (.ishr, 1) := by decide +kernel
theorem dL_links_12 : decode cL_links 12 = .ok (.iconst 4, 1) := by decide +kernel
theorem dL_links_13 : decode cL_links 13 = .ok (.invokestatic 119, 3) := by decide +kernel
theorem dL_links_16 : decode cL_links 16 = .ok (.istore 14, 2) := by decide +kernel
theorem dL_links_18 : decode cL_links 18 = .ok (.iload 14, 2) := by decide +kernel
theorem dL_links_20 : decode cL_links 20 = .ok (.ifCond .ne 7, 3) := by decide +kernel
theorem dL_links_23 : decode cL_links 23 = .ok (.iconst (-1), 1) := by decide +kernel
theorem dL_links_24 : decode cL_links 24 = .ok (.goto 33, 3) := by decide +kernel
theorem dL_links_27 : decode cL_links 27 = .ok (.iload 14, 2) := by decide +kernel
theorem dL_links_29 : decode cL_links 29 = .ok (.iconst 1, 1) := by decide +kernel
theorem dL_links_30 : decode cL_links 30 = .ok (.if_icmp .ne 17, 3) := by decide +kernel
theorem dL_links_33 : decode cL_links 33 = .ok (.bipush 100, 2) := by decide +kernel
theorem dL_links_35 : decode cL_links 35 = .ok (.iload_n 2, 1) := by decide +kernel
theorem dL_links_36 : decode cL_links 36 = .ok (.bipush 6, 2) := by decide +kernel
theorem dL_links_38 : decode cL_links 38 = .ok (.ishr, 1) := by decide +kernel
theorem dL_links_39 : decode cL_links 39 = .ok (.iconst 4, 1) := by decide +kernel
theorem dL_links_40 : decode cL_links 40 = .ok (.invokestatic 119, 3) := by decide +kernel
theorem dL_links_43 : decode cL_links 43 = .ok (.iadd, 1) := by decide +kernel
theorem dL_links_44 : decode cL_links 44 = .ok (.goto 13, 3) := by decide +kernel
theorem dL_links_47 : decode cL_links 47 = .ok (.iload_n 2, 1) := by decide +kernel
theorem dL_links_48 : decode cL_links 48 = .ok (.bipush 6, 2) := by decide +kernel
theorem dL_links_50 : decode cL_links 50 = .ok (.ishr, 1) := by decide +kernel
theorem dL_links_51 : decode cL_links 51 = .ok (.aload_n 3, 1) := by decide +kernel
theorem dL_links_52 : decode cL_links 52 = .ok (.iconst 0, 1) := by decide +kernel
theorem dL_links_53 : decode cL_links 53 = .ok (.iaload, 1) := by decide +kernel
theorem dL_links_54 : decode cL_links 54 = .ok (.invokestatic 119, 3) := by decide +kernel
theorem dL_links_57 : decode cL_links 57 = .ok (.istore 15, 2) := by decide +kernel
theorem dL_links_59 : decode cL_links 59 = .ok (.iload 13, 2) := by decide +kernel
theorem dL_links_61 : decode cL_links 61 = .ok (.ifCond .le 41, 3) := by decide +kernel
theorem dL_links_64 : decode cL_links 64 = .ok (.aload 11, 2) := by decide +kernel
theorem dL_links_66 : decode cL_links 66 = .ok (.iconst 3, 1) := by decide +kernel
theorem dL_links_67 : decode cL_links 67 = .ok (.iload 13, 2) := by decide +kernel
theorem dL_links_69 : decode cL_links 69 = .ok (.imul, 1) := by decide +kernel
theorem dL_links_70 : decode cL_links 70 = .ok (.iaload, 1) := by decide +kernel
theorem dL_links_71 : decode cL_links 71 = .ok (.iconst 1, 1) := by decide +kernel
theorem dL_links_72 : decode cL_links 72 = .ok (.if_icmp .ne 30, 3) := by decide +kernel
theorem dL_links_75 : decode cL_links 75 = .ok (.iload 15, 2) := by decide +kernel
theorem dL_links_77 : decode cL_links 77 = .ok (.ifCond .lt 21, 3) := by decide +kernel
theorem dL_links_80 : decode cL_links 80 = .ok (.iload 15, 2) := by decide +kernel
theorem dL_links_82 : decode cL_links 82 = .ok (.bipush 99, 2) := by decide +kernel
theorem dL_links_84 : decode cL_links 84 = .ok (.if_icmp .gt 14, 3) := by decide +kernel
theorem dL_links_87 : decode cL_links 87 = .ok (.aload 11, 2) := by decide +kernel
theorem dL_links_89 : decode cL_links 89 = .ok (.iconst 3, 1) := by decide +kernel
theorem dL_links_90 : decode cL_links 90 = .ok (.iload 15, 2) := by decide +kernel
theorem dL_links_92 : decode cL_links 92 = .ok (.imul, 1) := by decide +kernel
theorem dL_links_93 : decode cL_links 93 = .ok (.iaload, 1) := by decide +kernel
theorem dL_links_94 : decode cL_links 94 = .ok (.iconst 1, 1) := by decide +kernel
theorem dL_links_95 : decode cL_links 95 = .ok (.if_icmp .ne 7, 3) := by decide +kernel
theorem dL_links_98 : decode cL_links 98 = .ok (.iconst 1, 1) := by decide +kernel
theorem dL_links_99 : decode cL_links 99 = .ok (.goto 4, 3) := by decide +kernel
theorem dL_links_102 : decode cL_links 102 = .ok (.iconst 0, 1) := by decide +kernel
theorem dL_links_103 : decode cL_links 103 = .ok (.istore 16, 2) := by decide +kernel
theorem dL_links_105 : decode cL_links 105 = .ok (.iload 16, 2) := by decide +kernel
theorem dL_links_107 : decode cL_links 107 = .ok (.ifCond .ne 8, 3) := by decide +kernel
theorem dL_links_110 : decode cL_links 110 = .ok (.bipush (-9), 2) := by decide +kernel
theorem dL_links_112 : decode cL_links 112 = .ok (.goto 64, 3) := by decide +kernel
theorem dL_links_115 : decode cL_links 115 = .ok (.iload 15, 2) := by decide +kernel
theorem dL_links_117 : decode cL_links 117 = .ok (.iload 13, 2) := by decide +kernel
theorem dL_links_119 : decode cL_links 119 = .ok (.if_icmp .eq 35, 3) := by decide +kernel
theorem dL_links_122 : decode cL_links 122 = .ok (.iload_n 1, 1) := by decide +kernel
theorem dL_links_123 : decode cL_links 123 = .ok (.aload_n 3, 1) := by decide +kernel
theorem dL_links_124 : decode cL_links 124 = .ok (.iconst 4, 1) := by decide +kernel
theorem dL_links_125 : decode cL_links 125 = .ok (.iload_n 1, 1) := by decide +kernel
theorem dL_links_126 : decode cL_links 126 = .ok (.iadd, 1) := by decide +kernel
theorem dL_links_127 : decode cL_links 127 = .ok (.iaload, 1) := by decide +kernel
theorem dL_links_128 : decode cL_links 128 = .ok (.iload 13, 2) := by decide +kernel
theorem dL_links_130 : decode cL_links 130 = .ok (.iconst 1, 1) := by decide +kernel
theorem dL_links_131 : decode cL_links 131 = .ok (.aload_n 3, 1) := by decide +kernel
theorem dL_links_132 : decode cL_links 132 = .ok (.aload 4, 2) := by decide +kernel
theorem dL_links_134 : decode cL_links 134 = .ok (.aload 5, 2) := by decide +kernel
theorem dL_links_136 : decode cL_links 136 = .ok (.aload 6, 2) := by decide +kernel
theorem dL_links_138 : decode cL_links 138 = .ok (.aload 7, 2) := by decide +kernel
theorem dL_links_140 : decode cL_links 140 = .ok (.aload 8, 2) := by decide +kernel
theorem dL_links_142 : decode cL_links 142 = .ok (.aload 10, 2) := by decide +kernel
theorem dL_links_144 : decode cL_links 144 = .ok (.aload 11, 2) := by decide +kernel
theorem dL_links_146 : decode cL_links 146 = .ok (.aload 12, 2) := by decide +kernel
theorem dL_links_148 : decode cL_links 148 = .ok (.invokestatic 122, 3) := by decide +kernel
theorem dL_links_151 : decode cL_links 151 = .ok (.ifCond .ne 8, 3) := by decide +kernel
theorem dL_links_154 : decode cL_links 154 = .ok (.bipush (-7), 2) := by decide +kernel
theorem dL_links_156 : decode cL_links 156 = .ok (.goto 20, 3) := by decide +kernel
theorem dL_links_159 : decode cL_links 159 = .ok (.iload_n 1, 1) := by decide +kernel
theorem dL_links_160 : decode cL_links 160 = .ok (.iload 13, 2) := by decide +kernel
theorem dL_links_162 : decode cL_links 162 = .ok (.aload_n 3, 1) := by decide +kernel
theorem dL_links_163 : decode cL_links 163 = .ok (.aload 4, 2) := by decide +kernel
theorem dL_links_165 : decode cL_links 165 = .ok (.aload 5, 2) := by decide +kernel
theorem dL_links_167 : decode cL_links 167 = .ok (.aload 6, 2) := by decide +kernel
theorem dL_links_169 : decode cL_links 169 = .ok (.aload 7, 2) := by decide +kernel
theorem dL_links_171 : decode cL_links 171 = .ok (.aload 10, 2) := by decide +kernel
theorem dL_links_173 : decode cL_links 173 = .ok (.invokestatic 154, 3) := by decide +kernel
theorem dL_links_176 : decode cL_links 176 = .ok (.istore 17, 2) := by decide +kernel
theorem dL_links_178 : decode cL_links 178 = .ok (.iload 17, 2) := by decide +kernel
theorem dL_links_180 : decode cL_links 180 = .ok (.bipush (-9), 2) := by decide +kernel
theorem dL_links_182 : decode cL_links 182 = .ok (.if_icmp .eq 14, 3) := by decide +kernel
theorem dL_links_185 : decode cL_links 185 = .ok (.iload 17, 2) := by decide +kernel
theorem dL_links_187 : decode cL_links 187 = .ok (.bipush (-7), 2) := by decide +kernel
theorem dL_links_189 : decode cL_links 189 = .ok (.if_icmp .eq 7, 3) := by decide +kernel
theorem dL_links_192 : decode cL_links 192 = .ok (.iconst 1, 1) := by decide +kernel
theorem dL_links_193 : decode cL_links 193 = .ok (.goto 4, 3) := by decide +kernel
theorem dL_links_196 : decode cL_links 196 = .ok (.iconst 0, 1) := by decide +kernel
theorem dL_links_197 : decode cL_links 197 = .ok (.istore 18, 2) := by decide +kernel
theorem dL_links_199 : decode cL_links 199 = .ok (.iload 18, 2) := by decide +kernel
theorem dL_links_201 : decode cL_links 201 = .ok (.ifCond .eq 29, 3) := by decide +kernel
theorem dL_links_204 : decode cL_links 204 = .ok (.iload_n 1, 1) := by decide +kernel
theorem dL_links_205 : decode cL_links 205 = .ok (.iconst 5, 1) := by decide +kernel
theorem dL_links_206 : decode cL_links 206 = .ok (.iload 13, 2) := by decide +kernel
theorem dL_links_208 : decode cL_links 208 = .ok (.iload 15, 2) := by decide +kernel
theorem dL_links_210 : decode cL_links 210 = .ok (.iconst 0, 1) := by decide +kernel
theorem dL_links_211 : decode cL_links 211 = .ok (.lconst 0, 1) := by decide +kernel
theorem dL_links_212 : decode cL_links 212 = .ok (.aload_n 3, 1) := by decide +kernel
theorem dL_links_213 : decode cL_links 213 = .ok (.aload 4, 2) := by decide +kernel
theorem dL_links_215 : decode cL_links 215 = .ok (.aload 5, 2) := by decide +kernel
theorem dL_links_217 : decode cL_links 217 = .ok (.aload 6, 2) := by decide +kernel
theorem dL_links_219 : decode cL_links 219 = .ok (.aload 7, 2) := by decide +kernel
theorem dL_links_221 : decode cL_links 221 = .ok (.aload 8, 2) := by decide +kernel
theorem dL_links_223 : decode cL_links 223 = .ok (.aload 9, 2) := by decide +kernel
theorem dL_links_225 : decode cL_links 225 = .ok (.aload 10, 2) := by decide +kernel
theorem dL_links_227 : decode cL_links 227 = .ok (.invokestatic 134, 3) := by decide +kernel
theorem dL_links_230 : decode cL_links 230 = .ok (.aload_n 0, 1) := by decide +kernel
theorem dL_links_231 : decode cL_links 231 = .ok (.iconst 5, 1) := by decide +kernel
theorem dL_links_232 : decode cL_links 232 = .ok (.iload_n 1, 1) := by decide +kernel
theorem dL_links_233 : decode cL_links 233 = .ok (.iload 13, 2) := by decide +kernel
theorem dL_links_235 : decode cL_links 235 = .ok (.iload 15, 2) := by decide +kernel
theorem dL_links_237 : decode cL_links 237 = .ok (.iconst 0, 1) := by decide +kernel
theorem dL_links_238 : decode cL_links 238 = .ok (.invokestatic 138, 3) := by decide +kernel
theorem dL_links_241 : decode cL_links 241 = .ok (.iload 17, 2) := by decide +kernel
theorem dL_links_243 : decode cL_links 243 = .ok (.if_icmp .ne 7, 3) := by decide +kernel
theorem dL_links_246 : decode cL_links 246 = .ok (.iconst 1, 1) := by decide +kernel
theorem dL_links_247 : decode cL_links 247 = .ok (.goto 4, 3) := by decide +kernel
theorem dL_links_250 : decode cL_links 250 = .ok (.iconst 0, 1) := by decide +kernel
theorem dL_links_251 : decode cL_links 251 = .ok (.ireturn, 1) := by decide +kernel
theorem dL_rule_0 : decode cL_rule 0 = .ok (.iload_n 2, 1) := by decide +kernel
theorem dL_rule_1 : decode cL_rule 1 = .ok (.aload_n 3, 1) := by decide +kernel
theorem dL_rule_2 : decode cL_rule 2 = .ok (.iconst 0, 1) := by decide +kernel
theorem dL_rule_3 : decode cL_rule 3 = .ok (.iaload, 1) := by decide +kernel
theorem dL_rule_4 : decode cL_rule 4 = .ok (.invokestatic 119, 3) := by decide +kernel
theorem dL_rule_7 : decode cL_rule 7 = .ok (.istore 13, 2) := by decide +kernel
theorem dL_rule_9 : decode cL_rule 9 = .ok (.iload_n 2, 1) := by decide +kernel
theorem dL_rule_10 : decode cL_rule 10 = .ok (.iconst 3, 1) := by decide +kernel
theorem dL_rule_11 : decode cL_rule 11 = .ok (.ishr, 1) := by decide +kernel
theorem dL_rule_12 : decode cL_rule 12 = .ok (.iconst 4, 1) := by decide +kernel
theorem dL_rule_13 : decode cL_rule 13 = .ok (.invokestatic 119, 3) := by decide +kernel
theorem dL_rule_16 : decode cL_rule 16 = .ok (.istore 14, 2) := by decide +kernel
theorem dL_rule_18 : decode cL_rule 18 = .ok (.iload 14, 2) := by decide +kernel
theorem dL_rule_20 : decode cL_rule 20 = .ok (.ifCond .ne 7, 3) := by decide +kernel
theorem dL_rule_23 : decode cL_rule 23 = .ok (.iconst (-1), 1) := by decide +kernel
theorem dL_rule_24 : decode cL_rule 24 = .ok (.goto 31, 3) := by decide +kernel
theorem dL_rule_27 : decode cL_rule 27 = .ok (.iload 14, 2) := by decide +kernel
theorem dL_rule_29 : decode cL_rule 29 = .ok (.iconst 1, 1) := by decide +kernel
theorem dL_rule_30 : decode cL_rule 30 = .ok (.if_icmp .ne 18, 3) := by decide +kernel
theorem dL_rule_33 : decode cL_rule 33 = .ok (.bipush 100, 2) := by decide +kernel
theorem dL_rule_35 : decode cL_rule 35 = .ok (.iload_n 2, 1) := by decide +kernel
theorem dL_rule_36 : decode cL_rule 36 = .ok (.iconst 5, 1) := by decide +kernel
theorem dL_rule_37 : decode cL_rule 37 = .ok (.ishr, 1) := by decide +kernel
theorem dL_rule_38 : decode cL_rule 38 = .ok (.aload_n 3, 1) := by decide +kernel
theorem dL_rule_39 : decode cL_rule 39 = .ok (.iconst 0, 1) := by decide +kernel
theorem dL_rule_40 : decode cL_rule 40 = .ok (.iaload, 1) := by decide +kernel
theorem dL_rule_41 : decode cL_rule 41 = .ok (.invokestatic 119, 3) := by decide +kernel
theorem dL_rule_44 : decode cL_rule 44 = .ok (.iadd, 1) := by decide +kernel
theorem dL_rule_45 : decode cL_rule 45 = .ok (.goto 10, 3) := by decide +kernel
theorem dL_rule_48 : decode cL_rule 48 = .ok (.iload_n 2, 1) := by decide +kernel
theorem dL_rule_49 : decode cL_rule 49 = .ok (.iconst 5, 1) := by decide +kernel
theorem dL_rule_50 : decode cL_rule 50 = .ok (.ishr, 1) := by decide +kernel
theorem dL_rule_51 : decode cL_rule 51 = .ok (.iconst 4, 1) := by decide +kernel
theorem dL_rule_52 : decode cL_rule 52 = .ok (.invokestatic 119, 3) := by decide +kernel
theorem dL_rule_55 : decode cL_rule 55 = .ok (.istore 15, 2) := by decide +kernel
theorem dL_rule_57 : decode cL_rule 57 = .ok (.iload_n 2, 1) := by decide +kernel
theorem dL_rule_58 : decode cL_rule 58 = .ok (.bipush 7, 2) := by decide +kernel
theorem dL_rule_60 : decode cL_rule 60 = .ok (.ishr, 1) := by decide +kernel
theorem dL_rule_61 : decode cL_rule 61 = .ok (.iconst 3, 1) := by decide +kernel
theorem dL_rule_62 : decode cL_rule 62 = .ok (.invokestatic 119, 3) := by decide +kernel
theorem dL_rule_65 : decode cL_rule 65 = .ok (.istore 16, 2) := by decide +kernel
theorem dL_rule_67 : decode cL_rule 67 = .ok (.iload_n 2, 1) := by decide +kernel
theorem dL_rule_68 : decode cL_rule 68 = .ok (.bipush 9, 2) := by decide +kernel
theorem dL_rule_70 : decode cL_rule 70 = .ok (.ishr, 1) := by decide +kernel
theorem dL_rule_71 : decode cL_rule 71 = .ok (.iconst 2, 1) := by decide +kernel
theorem dL_rule_72 : decode cL_rule 72 = .ok (.invokestatic 119, 3) := by decide +kernel
theorem dL_rule_75 : decode cL_rule 75 = .ok (.istore 17, 2) := by decide +kernel
theorem dL_rule_77 : decode cL_rule 77 = .ok (.iload_n 2, 1) := by decide +kernel
theorem dL_rule_78 : decode cL_rule 78 = .ok (.bipush 10, 2) := by decide +kernel
theorem dL_rule_80 : decode cL_rule 80 = .ok (.ishr, 1) := by decide +kernel
theorem dL_rule_81 : decode cL_rule 81 = .ok (.iconst 3, 1) := by decide +kernel
theorem dL_rule_82 : decode cL_rule 82 = .ok (.invokestatic 119, 3) := by decide +kernel
theorem dL_rule_85 : decode cL_rule 85 = .ok (.istore 18, 2) := by decide +kernel
theorem dL_rule_87 : decode cL_rule 87 = .ok (.iload 15, 2) := by decide +kernel
theorem dL_rule_89 : decode cL_rule 89 = .ok (.ifCond .ge 8, 3) := by decide +kernel
theorem dL_rule_92 : decode cL_rule 92 = .ok (.bipush 18, 2) := by decide +kernel
theorem dL_rule_94 : decode cL_rule 94 = .ok (.goto 20, 3) := by decide +kernel
theorem dL_rule_97 : decode cL_rule 97 = .ok (.iload 15, 2) := by decide +kernel
theorem dL_rule_99 : decode cL_rule 99 = .ok (.bipush 99, 2) := by decide +kernel
theorem dL_rule_101 : decode cL_rule 101 = .ok (.if_icmp .le 11, 3) := by decide +kernel
theorem dL_rule_104 : decode cL_rule 104 = .ok (.iload 15, 2) := by decide +kernel
theorem dL_rule_106 : decode cL_rule 106 = .ok (.bipush 94, 2) := by decide +kernel
theorem dL_rule_108 : decode cL_rule 108 = .ok (.isub, 1) := by decide +kernel
theorem dL_rule_109 : decode cL_rule 109 = .ok (.goto 5, 3) := by decide +kernel
theorem dL_rule_112 : decode cL_rule 112 = .ok (.iload 15, 2) := by decide +kernel
theorem dL_rule_114 : decode cL_rule 114 = .ok (.istore 19, 2) := by decide +kernel
theorem dL_rule_116 : decode cL_rule 116 = .ok (.aload 11, 2) := by decide +kernel
theorem dL_rule_118 : decode cL_rule 118 = .ok (.iconst 3, 1) := by decide +kernel
theorem dL_rule_119 : decode cL_rule 119 = .ok (.iload 13, 2) := by decide +kernel
theorem dL_rule_121 : decode cL_rule 121 = .ok (.imul, 1) := by decide +kernel
theorem dL_rule_122 : decode cL_rule 122 = .ok (.iaload, 1) := by decide +kernel
theorem dL_rule_123 : decode cL_rule 123 = .ok (.iconst 1, 1) := by decide +kernel
theorem dL_rule_124 : decode cL_rule 124 = .ok (.if_icmp .ne 28, 3) := by decide +kernel
theorem dL_rule_127 : decode cL_rule 127 = .ok (.iload 15, 2) := by decide +kernel
theorem dL_rule_129 : decode cL_rule 129 = .ok (.bipush 100, 2) := by decide +kernel
theorem dL_rule_131 : decode cL_rule 131 = .ok (.if_icmp .lt 17, 3) := by decide +kernel
theorem dL_rule_134 : decode cL_rule 134 = .ok (.aload 11, 2) := by decide +kernel
theorem dL_rule_136 : decode cL_rule 136 = .ok (.iconst 3, 1) := by decide +kernel
theorem dL_rule_137 : decode cL_rule 137 = .ok (.iload 15, 2) := by decide +kernel
theorem dL_rule_139 : decode cL_rule 139 = .ok (.bipush 100, 2) := by decide +kernel
theorem dL_rule_141 : decode cL_rule 141 = .ok (.isub, 1) := by decide +kernel
theorem dL_rule_142 : decode cL_rule 142 = .ok (.imul, 1) := by decide +kernel
theorem dL_rule_143 : decode cL_rule 143 = .ok (.iaload, 1) := by decide +kernel
theorem dL_rule_144 : decode cL_rule 144 = .ok (.iconst 1, 1) := by decide +kernel
theorem dL_rule_145 : decode cL_rule 145 = .ok (.if_icmp .ne 7, 3) := by decide +kernel
theorem dL_rule_148 : decode cL_rule 148 = .ok (.iconst 1, 1) := by decide +kernel
theorem dL_rule_149 : decode cL_rule 149 = .ok (.goto 4, 3) := by decide +kernel
theorem dL_rule_152 : decode cL_rule 152 = .ok (.iconst 0, 1) := by decide +kernel
theorem dL_rule_153 : decode cL_rule 153 = .ok (.istore 20, 2) := by decide +kernel
theorem dL_rule_155 : decode cL_rule 155 = .ok (.iload 20, 2) := by decide +kernel
theorem dL_rule_157 : decode cL_rule 157 = .ok (.ifCond .ne 8, 3) := by decide +kernel
theorem dL_rule_160 : decode cL_rule 160 = .ok (.bipush (-9), 2) := by decide +kernel
theorem dL_rule_162 : decode cL_rule 162 = .ok (.goto 65, 3) := by decide +kernel
theorem dL_rule_165 : decode cL_rule 165 = .ok (.iload_n 1, 1) := by decide +kernel
theorem dL_rule_166 : decode cL_rule 166 = .ok (.aload_n 3, 1) := by decide +kernel
theorem dL_rule_167 : decode cL_rule 167 = .ok (.iconst 4, 1) := by decide +kernel
theorem dL_rule_168 : decode cL_rule 168 = .ok (.iload_n 1, 1) := by decide +kernel
theorem dL_rule_169 : decode cL_rule 169 = .ok (.iadd, 1) := by decide +kernel
theorem dL_rule_170 : decode cL_rule 170 = .ok (.iaload, 1) := by decide +kernel
theorem dL_rule_171 : decode cL_rule 171 = .ok (.iload 13, 2) := by decide +kernel
theorem dL_rule_173 : decode cL_rule 173 = .ok (.iconst 1, 1) := by decide +kernel
theorem dL_rule_174 : decode cL_rule 174 = .ok (.aload_n 3, 1) := by decide +kernel
theorem dL_rule_175 : decode cL_rule 175 = .ok (.aload 4, 2) := by decide +kernel
theorem dL_rule_177 : decode cL_rule 177 = .ok (.aload 5, 2) := by decide +kernel
theorem dL_rule_179 : decode cL_rule 179 = .ok (.aload 6, 2) := by decide +kernel
theorem dL_rule_181 : decode cL_rule 181 = .ok (.aload 7, 2) := by decide +kernel
theorem dL_rule_183 : decode cL_rule 183 = .ok (.aload 8, 2) := by decide +kernel
theorem dL_rule_185 : decode cL_rule 185 = .ok (.aload 10, 2) := by decide +kernel
theorem dL_rule_187 : decode cL_rule 187 = .ok (.aload 11, 2) := by decide +kernel
theorem dL_rule_189 : decode cL_rule 189 = .ok (.aload 12, 2) := by decide +kernel
theorem dL_rule_191 : decode cL_rule 191 = .ok (.invokestatic 122, 3) := by decide +kernel
theorem dL_rule_194 : decode cL_rule 194 = .ok (.ifCond .eq 31, 3) := by decide +kernel
theorem dL_rule_197 : decode cL_rule 197 = .ok (.iload_n 1, 1) := by decide +kernel
theorem dL_rule_198 : decode cL_rule 198 = .ok (.iload 13, 2) := by decide +kernel
theorem dL_rule_200 : decode cL_rule 200 = .ok (.iload 19, 2) := by decide +kernel
theorem dL_rule_202 : decode cL_rule 202 = .ok (.iload 16, 2) := by decide +kernel
theorem dL_rule_204 : decode cL_rule 204 = .ok (.iload 17, 2) := by decide +kernel
theorem dL_rule_206 : decode cL_rule 206 = .ok (.aload_n 3, 1) := by decide +kernel
theorem dL_rule_207 : decode cL_rule 207 = .ok (.aload 4, 2) := by decide +kernel
theorem dL_rule_209 : decode cL_rule 209 = .ok (.aload 5, 2) := by decide +kernel
theorem dL_rule_211 : decode cL_rule 211 = .ok (.aload 6, 2) := by decide +kernel
theorem dL_rule_213 : decode cL_rule 213 = .ok (.aload 7, 2) := by decide +kernel
theorem dL_rule_215 : decode cL_rule 215 = .ok (.aload 8, 2) := by decide +kernel
theorem dL_rule_217 : decode cL_rule 217 = .ok (.aload 10, 2) := by decide +kernel
theorem dL_rule_219 : decode cL_rule 219 = .ok (.invokestatic 105, 3) := by decide +kernel
theorem dL_rule_222 : decode cL_rule 222 = .ok (.goto 5, 3) := by decide +kernel
theorem dL_rule_225 : decode cL_rule 225 = .ok (.bipush (-7), 2) := by decide +kernel
theorem dL_rule_227 : decode cL_rule 227 = .ok (.istore 21, 2) := by decide +kernel
theorem dL_rule_229 : decode cL_rule 229 = .ok (.iload 21, 2) := by decide +kernel
theorem dL_rule_231 : decode cL_rule 231 = .ok (.ifCond .lt 42, 3) := by decide +kernel
theorem dL_rule_234 : decode cL_rule 234 = .ok (.iload_n 1, 1) := by decide +kernel
theorem dL_rule_235 : decode cL_rule 235 = .ok (.bipush 6, 2) := by decide +kernel
theorem dL_rule_237 : decode cL_rule 237 = .ok (.iload 13, 2) := by decide +kernel
theorem dL_rule_239 : decode cL_rule 239 = .ok (.bipush 6, 2) := by decide +kernel
theorem dL_rule_241 : decode cL_rule 241 = .ok (.iload 19, 2) := by decide +kernel
theorem dL_rule_243 : decode cL_rule 243 = .ok (.imul, 1) := by decide +kernel
theorem dL_rule_244 : decode cL_rule 244 = .ok (.iconst 2, 1) := by decide +kernel
theorem dL_rule_245 : decode cL_rule 245 = .ok (.iload 16, 2) := by decide +kernel
theorem dL_rule_247 : decode cL_rule 247 = .ok (.imul, 1) := by decide +kernel
theorem dL_rule_248 : decode cL_rule 248 = .ok (.iadd, 1) := by decide +kernel
theorem dL_rule_249 : decode cL_rule 249 = .ok (.iload 17, 2) := by decide +kernel
theorem dL_rule_251 : decode cL_rule 251 = .ok (.iadd, 1) := by decide +kernel
theorem dL_rule_252 : decode cL_rule 252 = .ok (.iload 18, 2) := by decide +kernel
theorem dL_rule_254 : decode cL_rule 254 = .ok (.lconst 0, 1) := by decide +kernel
theorem dL_rule_255 : decode cL_rule 255 = .ok (.aload_n 3, 1) := by decide +kernel
theorem dL_rule_256 : decode cL_rule 256 = .ok (.aload 4, 2) := by decide +kernel
theorem dL_rule_258 : decode cL_rule 258 = .ok (.aload 5, 2) := by decide +kernel
theorem dL_rule_260 : decode cL_rule 260 = .ok (.aload 6, 2) := by decide +kernel
theorem dL_rule_262 : decode cL_rule 262 = .ok (.aload 7, 2) := by decide +kernel
theorem dL_rule_264 : decode cL_rule 264 = .ok (.aload 8, 2) := by decide +kernel
theorem dL_rule_266 : decode cL_rule 266 = .ok (.aload 9, 2) := by decide +kernel
theorem dL_rule_268 : decode cL_rule 268 = .ok (.aload 10, 2) := by decide +kernel
theorem dL_rule_270 : decode cL_rule 270 = .ok (.invokestatic 134, 3) := by decide +kernel
theorem dL_rule_273 : decode cL_rule 273 = .ok (.aload_n 0, 1) := by decide +kernel
theorem dL_rule_274 : decode cL_rule 274 = .ok (.iload_n 1, 1) := by decide +kernel
theorem dL_rule_275 : decode cL_rule 275 = .ok (.iload 13, 2) := by decide +kernel
theorem dL_rule_277 : decode cL_rule 277 = .ok (.iload 15, 2) := by decide +kernel
theorem dL_rule_279 : decode cL_rule 279 = .ok (.iload 16, 2) := by decide +kernel
theorem dL_rule_281 : decode cL_rule 281 = .ok (.iload 17, 2) := by decide +kernel
theorem dL_rule_283 : decode cL_rule 283 = .ok (.iload 18, 2) := by decide +kernel
theorem dL_rule_285 : decode cL_rule 285 = .ok (.invokestatic 156, 3) := by decide +kernel
theorem dL_rule_288 : decode cL_rule 288 = .ok (.iload 21, 2) := by decide +kernel
theorem dL_rule_290 : decode cL_rule 290 = .ok (.if_icmp .ne 7, 3) := by decide +kernel
theorem dL_rule_293 : decode cL_rule 293 = .ok (.iconst 1, 1) := by decide +kernel
theorem dL_rule_294 : decode cL_rule 294 = .ok (.goto 4, 3) := by decide +kernel
theorem dL_rule_297 : decode cL_rule 297 = .ok (.iconst 0, 1) := by decide +kernel
theorem dL_rule_298 : decode cL_rule 298 = .ok (.ireturn, 1) := by decide +kernel
theorem dL_exchanges_0 : decode cL_exchanges 0 = .ok (.iload_n 1, 1) := by decide +kernel
theorem dL_exchanges_1 : decode cL_exchanges 1 = .ok (.iconst 4, 1) := by decide +kernel
theorem dL_exchanges_2 : decode cL_exchanges 2 = .ok (.invokestatic 119, 3) := by decide +kernel
theorem dL_exchanges_5 : decode cL_exchanges 5 = .ok (.istore 6, 2) := by decide +kernel
theorem dL_exchanges_7 : decode cL_exchanges 7 = .ok (.iload 6, 2) := by decide +kernel
theorem dL_exchanges_9 : decode cL_exchanges 9 = .ok (.iconst 1, 1) := by decide +kernel
theorem dL_exchanges_10 : decode cL_exchanges 10 = .ok (.iadd, 1) := by decide +kernel
theorem dL_exchanges_11 : decode cL_exchanges 11 = .ok (.iload_n 1, 1) := by decide +kernel
theorem dL_exchanges_12 : decode cL_exchanges 12 = .ok (.iconst 2, 1) := by decide +kernel
theorem dL_exchanges_13 : decode cL_exchanges 13 = .ok (.ishr, 1) := by decide +kernel
theorem dL_exchanges_14 : decode cL_exchanges 14 = .ok (.iconst 3, 1) := by decide +kernel
theorem dL_exchanges_15 : decode cL_exchanges 15 = .ok (.invokestatic 119, 3) := by decide +kernel
theorem dL_exchanges_18 : decode cL_exchanges 18 = .ok (.iadd, 1) := by decide +kernel
theorem dL_exchanges_19 : decode cL_exchanges 19 = .ok (.iconst 4, 1) := by decide +kernel
theorem dL_exchanges_20 : decode cL_exchanges 20 = .ok (.irem, 1) := by decide +kernel
theorem dL_exchanges_21 : decode cL_exchanges 21 = .ok (.istore 7, 2) := by decide +kernel
theorem dL_exchanges_23 : decode cL_exchanges 23 = .ok (.iload_n 1, 1) := by decide +kernel
theorem dL_exchanges_24 : decode cL_exchanges 24 = .ok (.iconst 4, 1) := by decide +kernel
theorem dL_exchanges_25 : decode cL_exchanges 25 = .ok (.ishr, 1) := by decide +kernel
theorem dL_exchanges_26 : decode cL_exchanges 26 = .ok (.iload_n 1, 1) := by decide +kernel
theorem dL_exchanges_27 : decode cL_exchanges 27 = .ok (.bipush 9, 2) := by decide +kernel
theorem dL_exchanges_29 : decode cL_exchanges 29 = .ok (.ishr, 1) := by decide +kernel
theorem dL_exchanges_30 : decode cL_exchanges 30 = .ok (.iconst 2, 1) := by decide +kernel
theorem dL_exchanges_31 : decode cL_exchanges 31 = .ok (.invokestatic 119, 3) := by decide +kernel
theorem dL_exchanges_34 : decode cL_exchanges 34 = .ok (.ifCond .ne 9, 3) := by decide +kernel
theorem dL_exchanges_37 : decode cL_exchanges 37 = .ok (.sipush 251, 3) := by decide +kernel
theorem dL_exchanges_40 : decode cL_exchanges 40 = .ok (.goto 4, 3) := by decide +kernel
theorem dL_exchanges_43 : decode cL_exchanges 43 = .ok (.iconst 4, 1) := by decide +kernel
theorem dL_exchanges_44 : decode cL_exchanges 44 = .ok (.invokestatic 119, 3) := by decide +kernel
theorem dL_exchanges_47 : decode cL_exchanges 47 = .ok (.istore 8, 2) := by decide +kernel
theorem dL_exchanges_49 : decode cL_exchanges 49 = .ok (.iconst 0, 1) := by decide +kernel
theorem dL_exchanges_50 : decode cL_exchanges 50 = .ok (.istore 9, 2) := by decide +kernel
theorem dL_exchanges_52 : decode cL_exchanges 52 = .ok (.iconst 0, 1) := by decide +kernel
theorem dL_exchanges_53 : decode cL_exchanges 53 = .ok (.istore 10, 2) := by decide +kernel
theorem dL_exchanges_55 : decode cL_exchanges 55 = .ok (.iload 10, 2) := by decide +kernel
theorem dL_exchanges_57 : decode cL_exchanges 57 = .ok (.aload_n 2, 1) := by decide +kernel
theorem dL_exchanges_58 : decode cL_exchanges 58 = .ok (.iconst 1, 1) := by decide +kernel
theorem dL_exchanges_59 : decode cL_exchanges 59 = .ok (.iaload, 1) := by decide +kernel
theorem dL_exchanges_60 : decode cL_exchanges 60 = .ok (.if_icmp .ge 68, 3) := by decide +kernel
theorem dL_exchanges_63 : decode cL_exchanges 63 = .ok (.iload 9, 2) := by decide +kernel
theorem dL_exchanges_65 : decode cL_exchanges 65 = .ok (.iload 8, 2) := by decide +kernel
theorem dL_exchanges_67 : decode cL_exchanges 67 = .ok (.if_icmp .ge 61, 3) := by decide +kernel
theorem dL_exchanges_70 : decode cL_exchanges 70 = .ok (.iload 6, 2) := by decide +kernel
theorem dL_exchanges_72 : decode cL_exchanges 72 = .ok (.iload 10, 2) := by decide +kernel
theorem dL_exchanges_74 : decode cL_exchanges 74 = .ok (.aload_n 3, 1) := by decide +kernel
theorem dL_exchanges_75 : decode cL_exchanges 75 = .ok (.aload 4, 2) := by decide +kernel
theorem dL_exchanges_77 : decode cL_exchanges 77 = .ok (.aload 5, 2) := by decide +kernel
theorem dL_exchanges_79 : decode cL_exchanges 79 = .ok (.invokestatic 73, 3) := by decide +kernel
theorem dL_exchanges_82 : decode cL_exchanges 82 = .ok (.ifCond .eq 40, 3) := by decide +kernel
theorem dL_exchanges_85 : decode cL_exchanges 85 = .ok (.iload 7, 2) := by decide +kernel
theorem dL_exchanges_87 : decode cL_exchanges 87 = .ok (.iload 10, 2) := by decide +kernel
theorem dL_exchanges_89 : decode cL_exchanges 89 = .ok (.aload_n 3, 1) := by decide +kernel
theorem dL_exchanges_90 : decode cL_exchanges 90 = .ok (.aload 4, 2) := by decide +kernel
theorem dL_exchanges_92 : decode cL_exchanges 92 = .ok (.aload 5, 2) := by decide +kernel
theorem dL_exchanges_94 : decode cL_exchanges 94 = .ok (.invokestatic 73, 3) := by decide +kernel
theorem dL_exchanges_97 : decode cL_exchanges 97 = .ok (.ifCond .ne 25, 3) := by decide +kernel
theorem dL_exchanges_100 : decode cL_exchanges 100 = .ok (.aload 5, 2) := by decide +kernel
theorem dL_exchanges_102 : decode cL_exchanges 102 = .ok (.bipush 20, 2) := by decide +kernel
theorem dL_exchanges_104 : decode cL_exchanges 104 = .ok (.iload 7, 2) := by decide +kernel
theorem dL_exchanges_106 : decode cL_exchanges 106 = .ok (.imul, 1) := by decide +kernel
theorem dL_exchanges_107 : decode cL_exchanges 107 = .ok (.aload_n 3, 1) := by decide +kernel
theorem dL_exchanges_108 : decode cL_exchanges 108 = .ok (.iload 10, 2) := by decide +kernel
theorem dL_exchanges_110 : decode cL_exchanges 110 = .ok (.iaload, 1) := by decide +kernel
theorem dL_exchanges_111 : decode cL_exchanges 111 = .ok (.iconst 4, 1) := by decide +kernel
theorem dL_exchanges_112 : decode cL_exchanges 112 = .ok (.irem, 1) := by decide +kernel
theorem dL_exchanges_113 : decode cL_exchanges 113 = .ok (.iadd, 1) := by decide +kernel
theorem dL_exchanges_114 : decode cL_exchanges 114 = .ok (.dup2, 1) := by decide +kernel
theorem dL_exchanges_115 : decode cL_exchanges 115 = .ok (.iaload, 1) := by decide +kernel
theorem dL_exchanges_116 : decode cL_exchanges 116 = .ok (.iconst 1, 1) := by decide +kernel
theorem dL_exchanges_117 : decode cL_exchanges 117 = .ok (.iadd, 1) := by decide +kernel
theorem dL_exchanges_118 : decode cL_exchanges 118 = .ok (.iastore, 1) := by decide +kernel
theorem dL_exchanges_119 : decode cL_exchanges 119 = .ok (.iinc 9 1, 3) := by decide +kernel
theorem dL_exchanges_122 : decode cL_exchanges 122 = .ok (.iinc 10 1, 3) := by decide +kernel
theorem dL_exchanges_125 : decode cL_exchanges 125 = .ok (.goto (-70), 3) := by decide +kernel
theorem dL_exchanges_128 : decode cL_exchanges 128 = .ok (.iconst 0, 1) := by decide +kernel
theorem dL_exchanges_129 : decode cL_exchanges 129 = .ok (.istore 10, 2) := by decide +kernel
theorem dL_exchanges_131 : decode cL_exchanges 131 = .ok (.iload 10, 2) := by decide +kernel
theorem dL_exchanges_133 : decode cL_exchanges 133 = .ok (.bipush 16, 2) := by decide +kernel
theorem dL_exchanges_135 : decode cL_exchanges 135 = .ok (.if_icmp .ge 92, 3) := by decide +kernel
theorem dL_exchanges_138 : decode cL_exchanges 138 = .ok (.aload 5, 2) := by decide +kernel
theorem dL_exchanges_140 : decode cL_exchanges 140 = .ok (.bipush 16, 2) := by decide +kernel
theorem dL_exchanges_142 : decode cL_exchanges 142 = .ok (.iload 6, 2) := by decide +kernel
theorem dL_exchanges_144 : decode cL_exchanges 144 = .ok (.imul, 1) := by decide +kernel
theorem dL_exchanges_145 : decode cL_exchanges 145 = .ok (.iload 10, 2) := by decide +kernel
theorem dL_exchanges_147 : decode cL_exchanges 147 = .ok (.iadd, 1) := by decide +kernel
theorem dL_exchanges_148 : decode cL_exchanges 148 = .ok (.aload 5, 2) := by decide +kernel
theorem dL_exchanges_150 : decode cL_exchanges 150 = .ok (.bipush 16, 2) := by decide +kernel
theorem dL_exchanges_152 : decode cL_exchanges 152 = .ok (.iload 6, 2) := by decide +kernel
theorem dL_exchanges_154 : decode cL_exchanges 154 = .ok (.imul, 1) := by decide +kernel
theorem dL_exchanges_155 : decode cL_exchanges 155 = .ok (.iload 10, 2) := by decide +kernel
theorem dL_exchanges_157 : decode cL_exchanges 157 = .ok (.iadd, 1) := by decide +kernel
theorem dL_exchanges_158 : decode cL_exchanges 158 = .ok (.iaload, 1) := by decide +kernel
theorem dL_exchanges_159 : decode cL_exchanges 159 = .ok (.aload 5, 2) := by decide +kernel
theorem dL_exchanges_161 : decode cL_exchanges 161 = .ok (.bipush 16, 2) := by decide +kernel
theorem dL_exchanges_163 : decode cL_exchanges 163 = .ok (.iload 7, 2) := by decide +kernel
theorem dL_exchanges_165 : decode cL_exchanges 165 = .ok (.imul, 1) := by decide +kernel
theorem dL_exchanges_166 : decode cL_exchanges 166 = .ok (.iload 10, 2) := by decide +kernel
theorem dL_exchanges_168 : decode cL_exchanges 168 = .ok (.iadd, 1) := by decide +kernel
theorem dL_exchanges_169 : decode cL_exchanges 169 = .ok (.iaload, 1) := by decide +kernel
theorem dL_exchanges_170 : decode cL_exchanges 170 = .ok (.if_icmp .ge 17, 3) := by decide +kernel
theorem dL_exchanges_173 : decode cL_exchanges 173 = .ok (.aload 5, 2) := by decide +kernel
theorem dL_exchanges_175 : decode cL_exchanges 175 = .ok (.bipush 16, 2) := by decide +kernel
theorem dL_exchanges_177 : decode cL_exchanges 177 = .ok (.iload 7, 2) := by decide +kernel
theorem dL_exchanges_179 : decode cL_exchanges 179 = .ok (.imul, 1) := by decide +kernel
theorem dL_exchanges_180 : decode cL_exchanges 180 = .ok (.iload 10, 2) := by decide +kernel
theorem dL_exchanges_182 : decode cL_exchanges 182 = .ok (.iadd, 1) := by decide +kernel
theorem dL_exchanges_183 : decode cL_exchanges 183 = .ok (.iaload, 1) := by decide +kernel
theorem dL_exchanges_184 : decode cL_exchanges 184 = .ok (.goto 14, 3) := by decide +kernel
theorem dL_exchanges_187 : decode cL_exchanges 187 = .ok (.aload 5, 2) := by decide +kernel
theorem dL_exchanges_189 : decode cL_exchanges 189 = .ok (.bipush 16, 2) := by decide +kernel
theorem dL_exchanges_191 : decode cL_exchanges 191 = .ok (.iload 6, 2) := by decide +kernel
theorem dL_exchanges_193 : decode cL_exchanges 193 = .ok (.imul, 1) := by decide +kernel
theorem dL_exchanges_194 : decode cL_exchanges 194 = .ok (.iload 10, 2) := by decide +kernel
theorem dL_exchanges_196 : decode cL_exchanges 196 = .ok (.iadd, 1) := by decide +kernel
theorem dL_exchanges_197 : decode cL_exchanges 197 = .ok (.iaload, 1) := by decide +kernel
theorem dL_exchanges_198 : decode cL_exchanges 198 = .ok (.iastore, 1) := by decide +kernel
theorem dL_exchanges_199 : decode cL_exchanges 199 = .ok (.aload 5, 2) := by decide +kernel
theorem dL_exchanges_201 : decode cL_exchanges 201 = .ok (.bipush 16, 2) := by decide +kernel
theorem dL_exchanges_203 : decode cL_exchanges 203 = .ok (.iload 7, 2) := by decide +kernel
theorem dL_exchanges_205 : decode cL_exchanges 205 = .ok (.imul, 1) := by decide +kernel
theorem dL_exchanges_206 : decode cL_exchanges 206 = .ok (.iload 10, 2) := by decide +kernel
theorem dL_exchanges_208 : decode cL_exchanges 208 = .ok (.iadd, 1) := by decide +kernel
theorem dL_exchanges_209 : decode cL_exchanges 209 = .ok (.aload 5, 2) := by decide +kernel
theorem dL_exchanges_211 : decode cL_exchanges 211 = .ok (.bipush 16, 2) := by decide +kernel
theorem dL_exchanges_213 : decode cL_exchanges 213 = .ok (.iload 6, 2) := by decide +kernel
theorem dL_exchanges_215 : decode cL_exchanges 215 = .ok (.imul, 1) := by decide +kernel
theorem dL_exchanges_216 : decode cL_exchanges 216 = .ok (.iload 10, 2) := by decide +kernel
theorem dL_exchanges_218 : decode cL_exchanges 218 = .ok (.iadd, 1) := by decide +kernel
theorem dL_exchanges_219 : decode cL_exchanges 219 = .ok (.iaload, 1) := by decide +kernel
theorem dL_exchanges_220 : decode cL_exchanges 220 = .ok (.iastore, 1) := by decide +kernel
theorem dL_exchanges_221 : decode cL_exchanges 221 = .ok (.iinc 10 1, 3) := by decide +kernel
theorem dL_exchanges_224 : decode cL_exchanges 224 = .ok (.goto (-93), 3) := by decide +kernel
theorem dL_exchanges_227 : decode cL_exchanges 227 = .ok (.aload_n 0, 1) := by decide +kernel
theorem dL_exchanges_228 : decode cL_exchanges 228 = .ok (.iload 6, 2) := by decide +kernel
theorem dL_exchanges_230 : decode cL_exchanges 230 = .ok (.iload 7, 2) := by decide +kernel
theorem dL_exchanges_232 : decode cL_exchanges 232 = .ok (.iload 8, 2) := by decide +kernel
theorem dL_exchanges_234 : decode cL_exchanges 234 = .ok (.invokevirtual 160, 3) := by decide +kernel
theorem dL_exchanges_237 : decode cL_exchanges 237 = .ok (.iload 9, 2) := by decide +kernel
theorem dL_exchanges_239 : decode cL_exchanges 239 = .ok (.if_icmp .ne 7, 3) := by decide +kernel
theorem dL_exchanges_242 : decode cL_exchanges 242 = .ok (.iconst 1, 1) := by decide +kernel
theorem dL_exchanges_243 : decode cL_exchanges 243 = .ok (.goto 4, 3) := by decide +kernel
theorem dL_exchanges_246 : decode cL_exchanges 246 = .ok (.iconst 0, 1) := by decide +kernel
theorem dL_exchanges_247 : decode cL_exchanges 247 = .ok (.ireturn, 1) := by decide +kernel
theorem dL_sweeps_0 : decode cL_sweeps 0 = .ok (.iconst 0, 1) := by decide +kernel
theorem dL_sweeps_1 : decode cL_sweeps 1 = .ok (.istore 7, 2) := by decide +kernel
theorem dL_sweeps_3 : decode cL_sweeps 3 = .ok (.iconst 1, 1) := by decide +kernel
theorem dL_sweeps_4 : decode cL_sweeps 4 = .ok (.istore 8, 2) := by decide +kernel
theorem dL_sweeps_6 : decode cL_sweeps 6 = .ok (.iload 8, 2) := by decide +kernel
theorem dL_sweeps_8 : decode cL_sweeps 8 = .ok (.aload_n 2, 1) := by decide +kernel
theorem dL_sweeps_9 : decode cL_sweeps 9 = .ok (.iconst 0, 1) := by decide +kernel
theorem dL_sweeps_10 : decode cL_sweeps 10 = .ok (.iaload, 1) := by decide +kernel
theorem dL_sweeps_11 : decode cL_sweeps 11 = .ok (.if_icmp .ge 113, 3) := by decide +kernel
theorem dL_sweeps_14 : decode cL_sweeps 14 = .ok (.aload_n 2, 1) := by decide +kernel
theorem dL_sweeps_15 : decode cL_sweeps 15 = .ok (.bipush 16, 2) := by decide +kernel
theorem dL_sweeps_17 : decode cL_sweeps 17 = .ok (.iload_n 1, 1) := by decide +kernel
theorem dL_sweeps_18 : decode cL_sweeps 18 = .ok (.iadd, 1) := by decide +kernel
theorem dL_sweeps_19 : decode cL_sweeps 19 = .ok (.iaload, 1) := by decide +kernel
theorem dL_sweeps_20 : decode cL_sweeps 20 = .ok (.iload 8, 2) := by decide +kernel
theorem dL_sweeps_22 : decode cL_sweeps 22 = .ok (.ishr, 1) := by decide +kernel
theorem dL_sweeps_23 : decode cL_sweeps 23 = .ok (.iconst 1, 1) := by decide +kernel
theorem dL_sweeps_24 : decode cL_sweeps 24 = .ok (.iand, 1) := by decide +kernel
theorem dL_sweeps_25 : decode cL_sweeps 25 = .ok (.ifCond .ne 7, 3) := by decide +kernel
theorem dL_sweeps_28 : decode cL_sweeps 28 = .ok (.iconst 1, 1) := by decide +kernel
theorem dL_sweeps_29 : decode cL_sweeps 29 = .ok (.goto 4, 3) := by decide +kernel
theorem dL_sweeps_32 : decode cL_sweeps 32 = .ok (.iconst 0, 1) := by decide +kernel
theorem dL_sweeps_33 : decode cL_sweeps 33 = .ok (.istore 9, 2) := by decide +kernel
theorem dL_sweeps_35 : decode cL_sweeps 35 = .ok (.iconst 0, 1) := by decide +kernel
theorem dL_sweeps_36 : decode cL_sweeps 36 = .ok (.istore 10, 2) := by decide +kernel
theorem dL_sweeps_38 : decode cL_sweeps 38 = .ok (.iload 10, 2) := by decide +kernel
theorem dL_sweeps_40 : decode cL_sweeps 40 = .ok (.iconst 4, 1) := by decide +kernel
theorem dL_sweeps_41 : decode cL_sweeps 41 = .ok (.if_icmp .ge 40, 3) := by decide +kernel
theorem dL_sweeps_44 : decode cL_sweeps 44 = .ok (.iload 9, 2) := by decide +kernel
theorem dL_sweeps_46 : decode cL_sweeps 46 = .ok (.ifCond .eq 26, 3) := by decide +kernel
theorem dL_sweeps_49 : decode cL_sweeps 49 = .ok (.iload_n 1, 1) := by decide +kernel
theorem dL_sweeps_50 : decode cL_sweeps 50 = .ok (.iload 10, 2) := by decide +kernel
theorem dL_sweeps_52 : decode cL_sweeps 52 = .ok (.iload 8, 2) := by decide +kernel
theorem dL_sweeps_54 : decode cL_sweeps 54 = .ok (.aload_n 2, 1) := by decide +kernel
theorem dL_sweeps_55 : decode cL_sweeps 55 = .ok (.aload_n 3, 1) := by decide +kernel
theorem dL_sweeps_56 : decode cL_sweeps 56 = .ok (.aload 4, 2) := by decide +kernel
theorem dL_sweeps_58 : decode cL_sweeps 58 = .ok (.aload 5, 2) := by decide +kernel
theorem dL_sweeps_60 : decode cL_sweeps 60 = .ok (.aload 6, 2) := by decide +kernel
theorem dL_sweeps_62 : decode cL_sweeps 62 = .ok (.invokestatic 146, 3) := by decide +kernel
theorem dL_sweeps_65 : decode cL_sweeps 65 = .ok (.ifCond .eq 7, 3) := by decide +kernel
theorem dL_sweeps_68 : decode cL_sweeps 68 = .ok (.iconst 1, 1) := by decide +kernel
theorem dL_sweeps_69 : decode cL_sweeps 69 = .ok (.goto 4, 3) := by decide +kernel
theorem dL_sweeps_72 : decode cL_sweeps 72 = .ok (.iconst 0, 1) := by decide +kernel
theorem dL_sweeps_73 : decode cL_sweeps 73 = .ok (.istore 9, 2) := by decide +kernel
theorem dL_sweeps_75 : decode cL_sweeps 75 = .ok (.iinc 10 1, 3) := by decide +kernel
theorem dL_sweeps_78 : decode cL_sweeps 78 = .ok (.goto (-40), 3) := by decide +kernel
theorem dL_sweeps_81 : decode cL_sweeps 81 = .ok (.aload_n 2, 1) := by decide +kernel
theorem dL_sweeps_82 : decode cL_sweeps 82 = .ok (.bipush 16, 2) := by decide +kernel
theorem dL_sweeps_84 : decode cL_sweeps 84 = .ok (.iload_n 1, 1) := by decide +kernel
theorem dL_sweeps_85 : decode cL_sweeps 85 = .ok (.iadd, 1) := by decide +kernel
theorem dL_sweeps_86 : decode cL_sweeps 86 = .ok (.dup2, 1) := by decide +kernel
theorem dL_sweeps_87 : decode cL_sweeps 87 = .ok (.iaload, 1) := by decide +kernel
theorem dL_sweeps_88 : decode cL_sweeps 88 = .ok (.iload 9, 2) := by decide +kernel
theorem dL_sweeps_90 : decode cL_sweeps 90 = .ok (.ifCond .eq 10, 3) := by decide +kernel
theorem dL_sweeps_93 : decode cL_sweeps 93 = .ok (.iconst 1, 1) := by decide +kernel
theorem dL_sweeps_94 : decode cL_sweeps 94 = .ok (.iload 8, 2) := by decide +kernel
theorem dL_sweeps_96 : decode cL_sweeps 96 = .ok (.ishl, 1) := by decide +kernel
theorem dL_sweeps_97 : decode cL_sweeps 97 = .ok (.goto 4, 3) := by decide +kernel
theorem dL_sweeps_100 : decode cL_sweeps 100 = .ok (.iconst 0, 1) := by decide +kernel
theorem dL_sweeps_101 : decode cL_sweeps 101 = .ok (.ior, 1) := by decide +kernel
theorem dL_sweeps_102 : decode cL_sweeps 102 = .ok (.iastore, 1) := by decide +kernel
theorem dL_sweeps_103 : decode cL_sweeps 103 = .ok (.iload 7, 2) := by decide +kernel
theorem dL_sweeps_105 : decode cL_sweeps 105 = .ok (.iload 9, 2) := by decide +kernel
theorem dL_sweeps_107 : decode cL_sweeps 107 = .ok (.ifCond .eq 7, 3) := by decide +kernel
theorem dL_sweeps_110 : decode cL_sweeps 110 = .ok (.iconst 1, 1) := by decide +kernel
theorem dL_sweeps_111 : decode cL_sweeps 111 = .ok (.goto 4, 3) := by decide +kernel
theorem dL_sweeps_114 : decode cL_sweeps 114 = .ok (.iconst 0, 1) := by decide +kernel
theorem dL_sweeps_115 : decode cL_sweeps 115 = .ok (.iadd, 1) := by decide +kernel
theorem dL_sweeps_116 : decode cL_sweeps 116 = .ok (.istore 7, 2) := by decide +kernel
theorem dL_sweeps_118 : decode cL_sweeps 118 = .ok (.iinc 8 1, 3) := by decide +kernel
theorem dL_sweeps_121 : decode cL_sweeps 121 = .ok (.goto (-115), 3) := by decide +kernel
theorem dL_sweeps_124 : decode cL_sweeps 124 = .ok (.aload_n 0, 1) := by decide +kernel
theorem dL_sweeps_125 : decode cL_sweeps 125 = .ok (.iload_n 1, 1) := by decide +kernel
theorem dL_sweeps_126 : decode cL_sweeps 126 = .ok (.invokevirtual 163, 3) := by decide +kernel
theorem dL_sweeps_129 : decode cL_sweeps 129 = .ok (.iload 7, 2) := by decide +kernel
theorem dL_sweeps_131 : decode cL_sweeps 131 = .ok (.if_icmp .ne 7, 3) := by decide +kernel
theorem dL_sweeps_134 : decode cL_sweeps 134 = .ok (.iconst 1, 1) := by decide +kernel
theorem dL_sweeps_135 : decode cL_sweeps 135 = .ok (.goto 4, 3) := by decide +kernel
theorem dL_sweeps_138 : decode cL_sweeps 138 = .ok (.iconst 0, 1) := by decide +kernel
theorem dL_sweeps_139 : decode cL_sweeps 139 = .ok (.ireturn, 1) := by decide +kernel
theorem dL_fits_0 : decode cL_fits 0 = .ok (.aload 8, 2) := by decide +kernel
theorem dL_fits_2 : decode cL_fits 2 = .ok (.iconst 3, 1) := by decide +kernel
theorem dL_fits_3 : decode cL_fits 3 = .ok (.iload 4, 2) := by decide +kernel
theorem dL_fits_5 : decode cL_fits 5 = .ok (.imul, 1) := by decide +kernel
theorem dL_fits_6 : decode cL_fits 6 = .ok (.iload_n 1, 1) := by decide +kernel
theorem dL_fits_7 : decode cL_fits 7 = .ok (.iadd, 1) := by decide +kernel
theorem dL_fits_8 : decode cL_fits 8 = .ok (.laload, 1) := by decide +kernel
theorem dL_fits_9 : decode cL_fits 9 = .ok (.lstore 9, 2) := by decide +kernel
theorem dL_fits_11 : decode cL_fits 11 = .ok (.aload 5, 2) := by decide +kernel
theorem dL_fits_13 : decode cL_fits 13 = .ok (.bipush 13, 2) := by decide +kernel
theorem dL_fits_15 : decode cL_fits 15 = .ok (.iload_n 1, 1) := by decide +kernel
theorem dL_fits_16 : decode cL_fits 16 = .ok (.iadd, 1) := by decide +kernel
theorem dL_fits_17 : decode cL_fits 17 = .ok (.iaload, 1) := by decide +kernel
theorem dL_fits_18 : decode cL_fits 18 = .ok (.iconst 1, 1) := by decide +kernel
theorem dL_fits_19 : decode cL_fits 19 = .ok (.if_icmp .le 13, 3) := by decide +kernel
theorem dL_fits_22 : decode cL_fits 22 = .ok (.iload_n 2, 1) := by decide +kernel
theorem dL_fits_23 : decode cL_fits 23 = .ok (.bipush 10, 2) := by decide +kernel
theorem dL_fits_25 : decode cL_fits 25 = .ok (.idiv, 1) := by decide +kernel
theorem dL_fits_26 : decode cL_fits 26 = .ok (.bipush 10, 2) := by decide +kernel
theorem dL_fits_28 : decode cL_fits 28 = .ok (.imul, 1) := by decide +kernel
theorem dL_fits_29 : decode cL_fits 29 = .ok (.goto 4, 3) := by decide +kernel
theorem dL_fits_32 : decode cL_fits 32 = .ok (.iload_n 2, 1) := by decide +kernel
theorem dL_fits_33 : decode cL_fits 33 = .ok (.istore 11, 2) := by decide +kernel
theorem dL_fits_35 : decode cL_fits 35 = .ok (.lload 9, 2) := by decide +kernel
theorem dL_fits_37 : decode cL_fits 37 = .ok (.iload_n 1, 1) := by decide +kernel
theorem dL_fits_38 : decode cL_fits 38 = .ok (.iload_n 2, 1) := by decide +kernel
theorem dL_fits_39 : decode cL_fits 39 = .ok (.aload 5, 2) := by decide +kernel
theorem dL_fits_41 : decode cL_fits 41 = .ok (.invokestatic 65, 3) := by decide +kernel
theorem dL_fits_44 : decode cL_fits 44 = .ok (.land, 1) := by decide +kernel
theorem dL_fits_45 : decode cL_fits 45 = .ok (.lconst 0, 1) := by decide +kernel
theorem dL_fits_46 : decode cL_fits 46 = .ok (.lcmp, 1) := by decide +kernel
theorem dL_fits_47 : decode cL_fits 47 = .ok (.ifCond .eq 7, 3) := by decide +kernel
theorem dL_fits_50 : decode cL_fits 50 = .ok (.iconst 1, 1) := by decide +kernel
theorem dL_fits_51 : decode cL_fits 51 = .ok (.goto 4, 3) := by decide +kernel
theorem dL_fits_54 : decode cL_fits 54 = .ok (.iconst 0, 1) := by decide +kernel
theorem dL_fits_55 : decode cL_fits 55 = .ok (.istore 12, 2) := by decide +kernel
theorem dL_fits_57 : decode cL_fits 57 = .ok (.lload 9, 2) := by decide +kernel
theorem dL_fits_59 : decode cL_fits 59 = .ok (.iload 11, 2) := by decide +kernel
theorem dL_fits_61 : decode cL_fits 61 = .ok (.lshr, 1) := by decide +kernel
theorem dL_fits_62 : decode cL_fits 62 = .ok (.lconst 0, 1) := by decide +kernel
theorem dL_fits_63 : decode cL_fits 63 = .ok (.lcmp, 1) := by decide +kernel
theorem dL_fits_64 : decode cL_fits 64 = .ok (.ifCond .eq 7, 3) := by decide +kernel
theorem dL_fits_67 : decode cL_fits 67 = .ok (.iconst 1, 1) := by decide +kernel
theorem dL_fits_68 : decode cL_fits 68 = .ok (.goto 4, 3) := by decide +kernel
theorem dL_fits_71 : decode cL_fits 71 = .ok (.iconst 0, 1) := by decide +kernel
theorem dL_fits_72 : decode cL_fits 72 = .ok (.istore 13, 2) := by decide +kernel
theorem dL_fits_74 : decode cL_fits 74 = .ok (.aload 7, 2) := by decide +kernel
theorem dL_fits_76 : decode cL_fits 76 = .ok (.iconst 3, 1) := by decide +kernel
theorem dL_fits_77 : decode cL_fits 77 = .ok (.iload 4, 2) := by decide +kernel
theorem dL_fits_79 : decode cL_fits 79 = .ok (.imul, 1) := by decide +kernel
theorem dL_fits_80 : decode cL_fits 80 = .ok (.iconst 1, 1) := by decide +kernel
theorem dL_fits_81 : decode cL_fits 81 = .ok (.iadd, 1) := by decide +kernel
theorem dL_fits_82 : decode cL_fits 82 = .ok (.iaload, 1) := by decide +kernel
theorem dL_fits_83 : decode cL_fits 83 = .ok (.istore 14, 2) := by decide +kernel
theorem dL_fits_85 : decode cL_fits 85 = .ok (.iload 14, 2) := by decide +kernel
theorem dL_fits_87 : decode cL_fits 87 = .ok (.ifCond .lt 21, 3) := by decide +kernel
theorem dL_fits_90 : decode cL_fits 90 = .ok (.iload 14, 2) := by decide +kernel
theorem dL_fits_92 : decode cL_fits 92 = .ok (.iload_n 3, 1) := by decide +kernel
theorem dL_fits_93 : decode cL_fits 93 = .ok (.if_icmp .eq 15, 3) := by decide +kernel
theorem dL_fits_96 : decode cL_fits 96 = .ok (.aload 6, 2) := by decide +kernel
theorem dL_fits_98 : decode cL_fits 98 = .ok (.iconst 3, 1) := by decide +kernel
theorem dL_fits_99 : decode cL_fits 99 = .ok (.iload 14, 2) := by decide +kernel
theorem dL_fits_101 : decode cL_fits 101 = .ok (.imul, 1) := by decide +kernel
theorem dL_fits_102 : decode cL_fits 102 = .ok (.iaload, 1) := by decide +kernel
theorem dL_fits_103 : decode cL_fits 103 = .ok (.istore 14, 2) := by decide +kernel
theorem dL_fits_105 : decode cL_fits 105 = .ok (.goto (-20), 3) := by decide +kernel
theorem dL_fits_108 : decode cL_fits 108 = .ok (.iload 14, 2) := by decide +kernel
theorem dL_fits_110 : decode cL_fits 110 = .ok (.iload_n 3, 1) := by decide +kernel
theorem dL_fits_111 : decode cL_fits 111 = .ok (.if_icmp .ne 7, 3) := by decide +kernel
theorem dL_fits_114 : decode cL_fits 114 = .ok (.iconst 1, 1) := by decide +kernel
theorem dL_fits_115 : decode cL_fits 115 = .ok (.goto 4, 3) := by decide +kernel
theorem dL_fits_118 : decode cL_fits 118 = .ok (.iconst 0, 1) := by decide +kernel
theorem dL_fits_119 : decode cL_fits 119 = .ok (.istore 15, 2) := by decide +kernel
theorem dL_fits_121 : decode cL_fits 121 = .ok (.iload_n 0, 1) := by decide +kernel
theorem dL_fits_122 : decode cL_fits 122 = .ok (.ifCond .ne 8, 3) := by decide +kernel
theorem dL_fits_125 : decode cL_fits 125 = .ok (.iload 12, 2) := by decide +kernel
theorem dL_fits_127 : decode cL_fits 127 = .ok (.goto 103, 3) := by decide +kernel
theorem dL_fits_130 : decode cL_fits 130 = .ok (.iload_n 0, 1) := by decide +kernel
theorem dL_fits_131 : decode cL_fits 131 = .ok (.iconst 1, 1) := by decide +kernel
theorem dL_fits_132 : decode cL_fits 132 = .ok (.if_icmp .ne 8, 3) := by decide +kernel
theorem dL_fits_135 : decode cL_fits 135 = .ok (.iload 13, 2) := by decide +kernel
theorem dL_fits_137 : decode cL_fits 137 = .ok (.goto 93, 3) := by decide +kernel
theorem dL_fits_140 : decode cL_fits 140 = .ok (.iload_n 0, 1) := by decide +kernel
theorem dL_fits_141 : decode cL_fits 141 = .ok (.iconst 2, 1) := by decide +kernel
theorem dL_fits_142 : decode cL_fits 142 = .ok (.if_icmp .ne 18, 3) := by decide +kernel
theorem dL_fits_145 : decode cL_fits 145 = .ok (.lload 9, 2) := by decide +kernel
theorem dL_fits_147 : decode cL_fits 147 = .ok (.lconst 0, 1) := by decide +kernel
theorem dL_fits_148 : decode cL_fits 148 = .ok (.lcmp, 1) := by decide +kernel
theorem dL_fits_149 : decode cL_fits 149 = .ok (.ifCond .eq 7, 3) := by decide +kernel
theorem dL_fits_152 : decode cL_fits 152 = .ok (.iconst 1, 1) := by decide +kernel
theorem dL_fits_153 : decode cL_fits 153 = .ok (.goto 77, 3) := by decide +kernel
theorem dL_fits_156 : decode cL_fits 156 = .ok (.iconst 0, 1) := by decide +kernel
theorem dL_fits_157 : decode cL_fits 157 = .ok (.goto 73, 3) := by decide +kernel
theorem dL_fits_160 : decode cL_fits 160 = .ok (.iload_n 0, 1) := by decide +kernel
theorem dL_fits_161 : decode cL_fits 161 = .ok (.iconst 3, 1) := by decide +kernel
theorem dL_fits_162 : decode cL_fits 162 = .ok (.if_icmp .ne 8, 3) := by decide +kernel
theorem dL_fits_165 : decode cL_fits 165 = .ok (.iload 15, 2) := by decide +kernel
theorem dL_fits_167 : decode cL_fits 167 = .ok (.goto 63, 3) := by decide +kernel
theorem dL_fits_170 : decode cL_fits 170 = .ok (.iload_n 0, 1) := by decide +kernel
theorem dL_fits_171 : decode cL_fits 171 = .ok (.iconst 4, 1) := by decide +kernel
theorem dL_fits_172 : decode cL_fits 172 = .ok (.if_icmp .ne 16, 3) := by decide +kernel
theorem dL_fits_175 : decode cL_fits 175 = .ok (.iload 12, 2) := by decide +kernel
theorem dL_fits_177 : decode cL_fits 177 = .ok (.ifCond .ne 7, 3) := by decide +kernel
theorem dL_fits_180 : decode cL_fits 180 = .ok (.iconst 1, 1) := by decide +kernel
theorem dL_fits_181 : decode cL_fits 181 = .ok (.goto 49, 3) := by decide +kernel
theorem dL_fits_184 : decode cL_fits 184 = .ok (.iconst 0, 1) := by decide +kernel
theorem dL_fits_185 : decode cL_fits 185 = .ok (.goto 45, 3) := by decide +kernel
theorem dL_fits_188 : decode cL_fits 188 = .ok (.iload_n 0, 1) := by decide +kernel
theorem dL_fits_189 : decode cL_fits 189 = .ok (.iconst 5, 1) := by decide +kernel
theorem dL_fits_190 : decode cL_fits 190 = .ok (.if_icmp .ne 23, 3) := by decide +kernel
theorem dL_fits_193 : decode cL_fits 193 = .ok (.lload 9, 2) := by decide +kernel
theorem dL_fits_195 : decode cL_fits 195 = .ok (.lconst 0, 1) := by decide +kernel
theorem dL_fits_196 : decode cL_fits 196 = .ok (.lcmp, 1) := by decide +kernel
theorem dL_fits_197 : decode cL_fits 197 = .ok (.ifCond .eq 12, 3) := by decide +kernel
theorem dL_fits_200 : decode cL_fits 200 = .ok (.iload 15, 2) := by decide +kernel
theorem dL_fits_202 : decode cL_fits 202 = .ok (.ifCond .eq 7, 3) := by decide +kernel
theorem dL_fits_205 : decode cL_fits 205 = .ok (.iconst 1, 1) := by decide +kernel
theorem dL_fits_206 : decode cL_fits 206 = .ok (.goto 24, 3) := by decide +kernel
theorem dL_fits_209 : decode cL_fits 209 = .ok (.iconst 0, 1) := by decide +kernel
theorem dL_fits_210 : decode cL_fits 210 = .ok (.goto 20, 3) := by decide +kernel
theorem dL_fits_213 : decode cL_fits 213 = .ok (.iload 12, 2) := by decide +kernel
theorem dL_fits_215 : decode cL_fits 215 = .ok (.ifCond .ne 10, 3) := by decide +kernel
theorem dL_fits_218 : decode cL_fits 218 = .ok (.lload 9, 2) := by decide +kernel
theorem dL_fits_220 : decode cL_fits 220 = .ok (.lconst 0, 1) := by decide +kernel
theorem dL_fits_221 : decode cL_fits 221 = .ok (.lcmp, 1) := by decide +kernel
theorem dL_fits_222 : decode cL_fits 222 = .ok (.ifCond .ne 7, 3) := by decide +kernel
theorem dL_fits_225 : decode cL_fits 225 = .ok (.iconst 1, 1) := by decide +kernel
theorem dL_fits_226 : decode cL_fits 226 = .ok (.goto 4, 3) := by decide +kernel
theorem dL_fits_229 : decode cL_fits 229 = .ok (.iconst 0, 1) := by decide +kernel
theorem dL_fits_230 : decode cL_fits 230 = .ok (.ireturn, 1) := by decide +kernel
theorem dL_draws_0 : decode cL_draws 0 = .ok (.aload_n 0, 1) := by decide +kernel
theorem dL_draws_1 : decode cL_draws 1 = .ok (.invokevirtual 166, 3) := by decide +kernel
theorem dL_draws_4 : decode cL_draws 4 = .ok (.ifCond .lt 7, 3) := by decide +kernel
theorem dL_draws_7 : decode cL_draws 7 = .ok (.iconst 1, 1) := by decide +kernel
theorem dL_draws_8 : decode cL_draws 8 = .ok (.goto 4, 3) := by decide +kernel
theorem dL_draws_11 : decode cL_draws 11 = .ok (.iconst 0, 1) := by decide +kernel
theorem dL_draws_12 : decode cL_draws 12 = .ok (.istore 5, 2) := by decide +kernel
theorem dL_draws_14 : decode cL_draws 14 = .ok (.iload_n 1, 1) := by decide +kernel
theorem dL_draws_15 : decode cL_draws 15 = .ok (.ifCond .eq 14, 3) := by decide +kernel
theorem dL_draws_18 : decode cL_draws 18 = .ok (.iload_n 1, 1) := by decide +kernel
theorem dL_draws_19 : decode cL_draws 19 = .ok (.iconst 4, 1) := by decide +kernel
theorem dL_draws_20 : decode cL_draws 20 = .ok (.if_icmp .eq 9, 3) := by decide +kernel
theorem dL_draws_23 : decode cL_draws 23 = .ok (.iload_n 1, 1) := by decide +kernel
theorem dL_draws_24 : decode cL_draws 24 = .ok (.bipush 6, 2) := by decide +kernel
theorem dL_draws_26 : decode cL_draws 26 = .ok (.if_icmp .ne 12, 3) := by decide +kernel
theorem dL_draws_29 : decode cL_draws 29 = .ok (.aload_n 0, 1) := by decide +kernel
theorem dL_draws_30 : decode cL_draws 30 = .ok (.iload_n 2, 1) := by decide +kernel
theorem dL_draws_31 : decode cL_draws 31 = .ok (.iload_n 3, 1) := by decide +kernel
theorem dL_draws_32 : decode cL_draws 32 = .ok (.invokevirtual 170, 3) := by decide +kernel
theorem dL_draws_35 : decode cL_draws 35 = .ok (.goto 36, 3) := by decide +kernel
theorem dL_draws_38 : decode cL_draws 38 = .ok (.iload_n 1, 1) := by decide +kernel
theorem dL_draws_39 : decode cL_draws 39 = .ok (.iconst 1, 1) := by decide +kernel
theorem dL_draws_40 : decode cL_draws 40 = .ok (.if_icmp .ne 12, 3) := by decide +kernel
theorem dL_draws_43 : decode cL_draws 43 = .ok (.aload_n 0, 1) := by decide +kernel
theorem dL_draws_44 : decode cL_draws 44 = .ok (.iload_n 2, 1) := by decide +kernel
theorem dL_draws_45 : decode cL_draws 45 = .ok (.iload_n 3, 1) := by decide +kernel
theorem dL_draws_46 : decode cL_draws 46 = .ok (.invokevirtual 173, 3) := by decide +kernel
theorem dL_draws_49 : decode cL_draws 49 = .ok (.goto 22, 3) := by decide +kernel
theorem dL_draws_52 : decode cL_draws 52 = .ok (.iload_n 1, 1) := by decide +kernel
theorem dL_draws_53 : decode cL_draws 53 = .ok (.iconst 3, 1) := by decide +kernel
theorem dL_draws_54 : decode cL_draws 54 = .ok (.if_icmp .ne 12, 3) := by decide +kernel
theorem dL_draws_57 : decode cL_draws 57 = .ok (.aload_n 0, 1) := by decide +kernel
theorem dL_draws_58 : decode cL_draws 58 = .ok (.iload 4, 2) := by decide +kernel
theorem dL_draws_60 : decode cL_draws 60 = .ok (.invokevirtual 176, 3) := by decide +kernel
theorem dL_draws_63 : decode cL_draws 63 = .ok (.goto 8, 3) := by decide +kernel
theorem dL_draws_66 : decode cL_draws 66 = .ok (.aload_n 0, 1) := by decide +kernel
theorem dL_draws_67 : decode cL_draws 67 = .ok (.iload_n 2, 1) := by decide +kernel
theorem dL_draws_68 : decode cL_draws 68 = .ok (.invokevirtual 179, 3) := by decide +kernel
theorem dL_draws_71 : decode cL_draws 71 = .ok (.istore 6, 2) := by decide +kernel
theorem dL_draws_73 : decode cL_draws 73 = .ok (.iload 5, 2) := by decide +kernel
theorem dL_draws_75 : decode cL_draws 75 = .ok (.ifCond .eq 50, 3) := by decide +kernel
theorem dL_draws_78 : decode cL_draws 78 = .ok (.iload 6, 2) := by decide +kernel
theorem dL_draws_80 : decode cL_draws 80 = .ok (.iconst 1, 1) := by decide +kernel
theorem dL_draws_81 : decode cL_draws 81 = .ok (.if_icmp .ne 44, 3) := by decide +kernel
theorem dL_draws_84 : decode cL_draws 84 = .ok (.iload_n 1, 1) := by decide +kernel
theorem dL_draws_85 : decode cL_draws 85 = .ok (.iconst 4, 1) := by decide +kernel
theorem dL_draws_86 : decode cL_draws 86 = .ok (.if_icmp .ne 11, 3) := by decide +kernel
theorem dL_draws_89 : decode cL_draws 89 = .ok (.aload_n 0, 1) := by decide +kernel
theorem dL_draws_90 : decode cL_draws 90 = .ok (.invokevirtual 182, 3) := by decide +kernel
theorem dL_draws_93 : decode cL_draws 93 = .ok (.iconst 1, 1) := by decide +kernel
theorem dL_draws_94 : decode cL_draws 94 = .ok (.if_icmp .ne 31, 3) := by decide +kernel
theorem dL_draws_97 : decode cL_draws 97 = .ok (.iload_n 1, 1) := by decide +kernel
theorem dL_draws_98 : decode cL_draws 98 = .ok (.iconst 5, 1) := by decide +kernel
theorem dL_draws_99 : decode cL_draws 99 = .ok (.if_icmp .ne 22, 3) := by decide +kernel
theorem dL_draws_102 : decode cL_draws 102 = .ok (.aload_n 0, 1) := by decide +kernel
theorem dL_draws_103 : decode cL_draws 103 = .ok (.iload 4, 2) := by decide +kernel
theorem dL_draws_105 : decode cL_draws 105 = .ok (.invokevirtual 176, 3) := by decide +kernel
theorem dL_draws_108 : decode cL_draws 108 = .ok (.iconst 2, 1) := by decide +kernel
theorem dL_draws_109 : decode cL_draws 109 = .ok (.if_icmp .ne 16, 3) := by decide +kernel
theorem dL_draws_112 : decode cL_draws 112 = .ok (.aload_n 0, 1) := by decide +kernel
theorem dL_draws_113 : decode cL_draws 113 = .ok (.iconst 1, 1) := by decide +kernel
theorem dL_draws_114 : decode cL_draws 114 = .ok (.invokevirtual 185, 3) := by decide +kernel
theorem dL_draws_117 : decode cL_draws 117 = .ok (.iconst 1, 1) := by decide +kernel
theorem dL_draws_118 : decode cL_draws 118 = .ok (.if_icmp .ne 7, 3) := by decide +kernel
theorem dL_draws_121 : decode cL_draws 121 = .ok (.iconst 1, 1) := by decide +kernel
theorem dL_draws_122 : decode cL_draws 122 = .ok (.goto 4, 3) := by decide +kernel
theorem dL_draws_125 : decode cL_draws 125 = .ok (.iconst 0, 1) := by decide +kernel
theorem dL_draws_126 : decode cL_draws 126 = .ok (.istore 5, 2) := by decide +kernel
theorem dL_draws_128 : decode cL_draws 128 = .ok (.iload 5, 2) := by decide +kernel
theorem dL_draws_130 : decode cL_draws 130 = .ok (.ifCond .eq 39, 3) := by decide +kernel
theorem dL_draws_133 : decode cL_draws 133 = .ok (.iload_n 1, 1) := by decide +kernel
theorem dL_draws_134 : decode cL_draws 134 = .ok (.bipush 6, 2) := by decide +kernel
theorem dL_draws_136 : decode cL_draws 136 = .ok (.if_icmp .ne 29, 3) := by decide +kernel
theorem dL_draws_139 : decode cL_draws 139 = .ok (.aload_n 0, 1) := by decide +kernel
theorem dL_draws_140 : decode cL_draws 140 = .ok (.iload_n 2, 1) := by decide +kernel
theorem dL_draws_141 : decode cL_draws 141 = .ok (.invokevirtual 179, 3) := by decide +kernel
theorem dL_draws_144 : decode cL_draws 144 = .ok (.iconst 2, 1) := by decide +kernel
theorem dL_draws_145 : decode cL_draws 145 = .ok (.if_icmp .ne 24, 3) := by decide +kernel
theorem dL_draws_148 : decode cL_draws 148 = .ok (.aload_n 0, 1) := by decide +kernel
theorem dL_draws_149 : decode cL_draws 149 = .ok (.invokevirtual 182, 3) := by decide +kernel
theorem dL_draws_152 : decode cL_draws 152 = .ok (.iconst 2, 1) := by decide +kernel
theorem dL_draws_153 : decode cL_draws 153 = .ok (.if_icmp .ne 16, 3) := by decide +kernel
theorem dL_draws_156 : decode cL_draws 156 = .ok (.aload_n 0, 1) := by decide +kernel
theorem dL_draws_157 : decode cL_draws 157 = .ok (.iconst 0, 1) := by decide +kernel
theorem dL_draws_158 : decode cL_draws 158 = .ok (.invokevirtual 185, 3) := by decide +kernel
theorem dL_draws_161 : decode cL_draws 161 = .ok (.iconst 1, 1) := by decide +kernel
theorem dL_draws_162 : decode cL_draws 162 = .ok (.if_icmp .ne 7, 3) := by decide +kernel
theorem dL_draws_165 : decode cL_draws 165 = .ok (.iconst 1, 1) := by decide +kernel
theorem dL_draws_166 : decode cL_draws 166 = .ok (.goto 4, 3) := by decide +kernel
theorem dL_draws_169 : decode cL_draws 169 = .ok (.iconst 0, 1) := by decide +kernel
theorem dL_draws_170 : decode cL_draws 170 = .ok (.ireturn, 1) := by decide +kernel
theorem dL_searches_0 : decode cL_searches 0 = .ok (.iload_n 2, 1) := by decide +kernel
theorem dL_searches_1 : decode cL_searches 1 = .ok (.bipush 7, 2) := by decide +kernel
theorem dL_searches_3 : decode cL_searches 3 = .ok (.invokestatic 119, 3) := by decide +kernel
theorem dL_searches_6 : decode cL_searches 6 = .ok (.istore 13, 2) := by decide +kernel
theorem dL_searches_8 : decode cL_searches 8 = .ok (.iload_n 2, 1) := by decide +kernel
theorem dL_searches_9 : decode cL_searches 9 = .ok (.iconst 3, 1) := by decide +kernel
theorem dL_searches_10 : decode cL_searches 10 = .ok (.ishr, 1) := by decide +kernel
theorem dL_searches_11 : decode cL_searches 11 = .ok (.aload_n 3, 1) := by decide +kernel
theorem dL_searches_12 : decode cL_searches 12 = .ok (.iconst 2, 1) := by decide +kernel
theorem dL_searches_13 : decode cL_searches 13 = .ok (.iaload, 1) := by decide +kernel
theorem dL_searches_14 : decode cL_searches 14 = .ok (.invokestatic 119, 3) := by decide +kernel
theorem dL_searches_17 : decode cL_searches 17 = .ok (.istore 14, 2) := by decide +kernel
theorem dL_searches_19 : decode cL_searches 19 = .ok (.iload_n 2, 1) := by decide +kernel
theorem dL_searches_20 : decode cL_searches 20 = .ok (.iconst 5, 1) := by decide +kernel
theorem dL_searches_21 : decode cL_searches 21 = .ok (.ishr, 1) := by decide +kernel
theorem dL_searches_22 : decode cL_searches 22 = .ok (.iload_n 2, 1) := by decide +kernel
theorem dL_searches_23 : decode cL_searches 23 = .ok (.bipush 10, 2) := by decide +kernel
theorem dL_searches_25 : decode cL_searches 25 = .ok (.ishr, 1) := by decide +kernel
theorem dL_searches_26 : decode cL_searches 26 = .ok (.iconst 2, 1) := by decide +kernel
theorem dL_searches_27 : decode cL_searches 27 = .ok (.invokestatic 119, 3) := by decide +kernel
theorem dL_searches_30 : decode cL_searches 30 = .ok (.ifCond .ne 8, 3) := by decide +kernel
theorem dL_searches_33 : decode cL_searches 33 = .ok (.bipush 60, 2) := by decide +kernel
theorem dL_searches_35 : decode cL_searches 35 = .ok (.goto 4, 3) := by decide +kernel
theorem dL_searches_38 : decode cL_searches 38 = .ok (.iconst 5, 1) := by decide +kernel
theorem dL_searches_39 : decode cL_searches 39 = .ok (.invokestatic 119, 3) := by decide +kernel
theorem dL_searches_42 : decode cL_searches 42 = .ok (.istore 15, 2) := by decide +kernel
theorem dL_searches_44 : decode cL_searches 44 = .ok (.iload_n 2, 1) := by decide +kernel
theorem dL_searches_45 : decode cL_searches 45 = .ok (.bipush 7, 2) := by decide +kernel
theorem dL_searches_47 : decode cL_searches 47 = .ok (.ishr, 1) := by decide +kernel
theorem dL_searches_48 : decode cL_searches 48 = .ok (.aload_n 3, 1) := by decide +kernel
theorem dL_searches_49 : decode cL_searches 49 = .ok (.iconst 3, 1) := by decide +kernel
theorem dL_searches_50 : decode cL_searches 50 = .ok (.iaload, 1) := by decide +kernel
theorem dL_searches_51 : decode cL_searches 51 = .ok (.invokestatic 119, 3) := by decide +kernel
theorem dL_searches_54 : decode cL_searches 54 = .ok (.istore 16, 2) := by decide +kernel
theorem dL_searches_56 : decode cL_searches 56 = .ok (.iload_n 2, 1) := by decide +kernel
theorem dL_searches_57 : decode cL_searches 57 = .ok (.bipush 9, 2) := by decide +kernel
theorem dL_searches_59 : decode cL_searches 59 = .ok (.ishr, 1) := by decide +kernel
theorem dL_searches_60 : decode cL_searches 60 = .ok (.iconst 3, 1) := by decide +kernel
theorem dL_searches_61 : decode cL_searches 61 = .ok (.invokestatic 119, 3) := by decide +kernel
theorem dL_searches_64 : decode cL_searches 64 = .ok (.ifCond .le 7, 3) := by decide +kernel
theorem dL_searches_67 : decode cL_searches 67 = .ok (.iconst 0, 1) := by decide +kernel
theorem dL_searches_68 : decode cL_searches 68 = .ok (.goto 13, 3) := by decide +kernel
theorem dL_searches_71 : decode cL_searches 71 = .ok (.iload_n 2, 1) := by decide +kernel
theorem dL_searches_72 : decode cL_searches 72 = .ok (.bipush 11, 2) := by decide +kernel
theorem dL_searches_74 : decode cL_searches 74 = .ok (.ishr, 1) := by decide +kernel
theorem dL_searches_75 : decode cL_searches 75 = .ok (.aload_n 3, 1) := by decide +kernel
theorem dL_searches_76 : decode cL_searches 76 = .ok (.iconst 0, 1) := by decide +kernel
theorem dL_searches_77 : decode cL_searches 77 = .ok (.iaload, 1) := by decide +kernel
theorem dL_searches_78 : decode cL_searches 78 = .ok (.invokestatic 119, 3) := by decide +kernel
theorem dL_searches_81 : decode cL_searches 81 = .ok (.istore 17, 2) := by decide +kernel
theorem dL_searches_83 : decode cL_searches 83 = .ok (.iload_n 2, 1) := by decide +kernel
theorem dL_searches_84 : decode cL_searches 84 = .ok (.bipush 13, 2) := by decide +kernel
theorem dL_searches_86 : decode cL_searches 86 = .ok (.ishr, 1) := by decide +kernel
theorem dL_searches_87 : decode cL_searches 87 = .ok (.iconst 3, 1) := by decide +kernel
theorem dL_searches_88 : decode cL_searches 88 = .ok (.invokestatic 119, 3) := by decide +kernel
theorem dL_searches_91 : decode cL_searches 91 = .ok (.istore 18, 2) := by decide +kernel
theorem dL_searches_93 : decode cL_searches 93 = .ok (.aload_n 0, 1) := by decide +kernel
theorem dL_searches_94 : decode cL_searches 94 = .ok (.iload 13, 2) := by decide +kernel
theorem dL_searches_96 : decode cL_searches 96 = .ok (.iload 14, 2) := by decide +kernel
theorem dL_searches_98 : decode cL_searches 98 = .ok (.iload 15, 2) := by decide +kernel
theorem dL_searches_100 : decode cL_searches 100 = .ok (.iload 16, 2) := by decide +kernel
theorem dL_searches_102 : decode cL_searches 102 = .ok (.invokestatic 189, 3) := by decide +kernel
theorem dL_searches_105 : decode cL_searches 105 = .ok (.ifCond .ne 5, 3) := by decide +kernel
theorem dL_searches_108 : decode cL_searches 108 = .ok (.iconst 0, 1) := by decide +kernel
theorem dL_searches_109 : decode cL_searches 109 = .ok (.ireturn, 1) := by decide +kernel
theorem dL_searches_110 : decode cL_searches 110 = .ok (.aload 11, 2) := by decide +kernel
theorem dL_searches_112 : decode cL_searches 112 = .ok (.iconst 3, 1) := by decide +kernel
theorem dL_searches_113 : decode cL_searches 113 = .ok (.iload 17, 2) := by decide +kernel
theorem dL_searches_115 : decode cL_searches 115 = .ok (.imul, 1) := by decide +kernel
theorem dL_searches_116 : decode cL_searches 116 = .ok (.iaload, 1) := by decide +kernel
theorem dL_searches_117 : decode cL_searches 117 = .ok (.iconst 1, 1) := by decide +kernel
theorem dL_searches_118 : decode cL_searches 118 = .ok (.if_icmp .eq 43, 3) := by decide +kernel
theorem dL_searches_121 : decode cL_searches 121 = .ok (.aload_n 0, 1) := by decide +kernel
theorem dL_searches_122 : decode cL_searches 122 = .ok (.bipush 10, 2) := by decide +kernel
theorem dL_searches_124 : decode cL_searches 124 = .ok (.iload_n 1, 1) := by decide +kernel
theorem dL_searches_125 : decode cL_searches 125 = .ok (.iload 17, 2) := by decide +kernel
theorem dL_searches_127 : decode cL_searches 127 = .ok (.iload 18, 2) := by decide +kernel
theorem dL_searches_129 : decode cL_searches 129 = .ok (.iconst 0, 1) := by decide +kernel
theorem dL_searches_130 : decode cL_searches 130 = .ok (.invokestatic 138, 3) := by decide +kernel
theorem dL_searches_133 : decode cL_searches 133 = .ok (.bipush (-9), 2) := by decide +kernel
theorem dL_searches_135 : decode cL_searches 135 = .ok (.if_icmp .ne 24, 3) := by decide +kernel
theorem dL_searches_138 : decode cL_searches 138 = .ok (.aload_n 0, 1) := by decide +kernel
theorem dL_searches_139 : decode cL_searches 139 = .ok (.bipush 12, 2) := by decide +kernel
theorem dL_searches_141 : decode cL_searches 141 = .ok (.iload_n 1, 1) := by decide +kernel
theorem dL_searches_142 : decode cL_searches 142 = .ok (.iload 17, 2) := by decide +kernel
theorem dL_searches_144 : decode cL_searches 144 = .ok (.iload 18, 2) := by decide +kernel
theorem dL_searches_146 : decode cL_searches 146 = .ok (.iconst 0, 1) := by decide +kernel
theorem dL_searches_147 : decode cL_searches 147 = .ok (.invokestatic 138, 3) := by decide +kernel
theorem dL_searches_150 : decode cL_searches 150 = .ok (.bipush (-9), 2) := by decide +kernel
theorem dL_searches_152 : decode cL_searches 152 = .ok (.if_icmp .ne 7, 3) := by decide +kernel
theorem dL_searches_155 : decode cL_searches 155 = .ok (.iconst 1, 1) := by decide +kernel
theorem dL_searches_156 : decode cL_searches 156 = .ok (.goto 4, 3) := by decide +kernel
theorem dL_searches_159 : decode cL_searches 159 = .ok (.iconst 0, 1) := by decide +kernel
theorem dL_searches_160 : decode cL_searches 160 = .ok (.ireturn, 1) := by decide +kernel
theorem dL_searches_161 : decode cL_searches 161 = .ok (.iconst 0, 1) := by decide +kernel
theorem dL_searches_162 : decode cL_searches 162 = .ok (.istore 19, 2) := by decide +kernel
theorem dL_searches_164 : decode cL_searches 164 = .ok (.aload_n 0, 1) := by decide +kernel
theorem dL_searches_165 : decode cL_searches 165 = .ok (.bipush 12, 2) := by decide +kernel
theorem dL_searches_167 : decode cL_searches 167 = .ok (.iload_n 1, 1) := by decide +kernel
theorem dL_searches_168 : decode cL_searches 168 = .ok (.iload 17, 2) := by decide +kernel
theorem dL_searches_170 : decode cL_searches 170 = .ok (.iload 18, 2) := by decide +kernel
theorem dL_searches_172 : decode cL_searches 172 = .ok (.iconst 0, 1) := by decide +kernel
theorem dL_searches_173 : decode cL_searches 173 = .ok (.invokestatic 138, 3) := by decide +kernel
theorem dL_searches_176 : decode cL_searches 176 = .ok (.istore 20, 2) := by decide +kernel
theorem dL_searches_178 : decode cL_searches 178 = .ok (.aload_n 0, 1) := by decide +kernel
theorem dL_searches_179 : decode cL_searches 179 = .ok (.bipush 10, 2) := by decide +kernel
theorem dL_searches_181 : decode cL_searches 181 = .ok (.iload_n 1, 1) := by decide +kernel
theorem dL_searches_182 : decode cL_searches 182 = .ok (.iload 17, 2) := by decide +kernel
theorem dL_searches_184 : decode cL_searches 184 = .ok (.iload 18, 2) := by decide +kernel
theorem dL_searches_186 : decode cL_searches 186 = .ok (.iconst 0, 1) := by decide +kernel
theorem dL_searches_187 : decode cL_searches 187 = .ok (.invokestatic 138, 3) := by decide +kernel
theorem dL_searches_190 : decode cL_searches 190 = .ok (.istore 21, 2) := by decide +kernel
theorem dL_searches_192 : decode cL_searches 192 = .ok (.iconst 1, 1) := by decide +kernel
theorem dL_searches_193 : decode cL_searches 193 = .ok (.istore 22, 2) := by decide +kernel
theorem dL_searches_195 : decode cL_searches 195 = .ok (.iconst 0, 1) := by decide +kernel
theorem dL_searches_196 : decode cL_searches 196 = .ok (.istore 23, 2) := by decide +kernel
theorem dL_searches_198 : decode cL_searches 198 = .ok (.iload 23, 2) := by decide +kernel
theorem dL_searches_200 : decode cL_searches 200 = .ok (.aload_n 3, 1) := by decide +kernel
theorem dL_searches_201 : decode cL_searches 201 = .ok (.iconst 0, 1) := by decide +kernel
theorem dL_searches_202 : decode cL_searches 202 = .ok (.iaload, 1) := by decide +kernel
theorem dL_searches_203 : decode cL_searches 203 = .ok (.if_icmp .ge 210, 3) := by decide +kernel
theorem dL_searches_206 : decode cL_searches 206 = .ok (.iload 22, 2) := by decide +kernel
theorem dL_searches_208 : decode cL_searches 208 = .ok (.ifCond .eq 205, 3) := by decide +kernel
theorem dL_searches_211 : decode cL_searches 211 = .ok (.iload 23, 2) := by decide +kernel
theorem dL_searches_213 : decode cL_searches 213 = .ok (.istore 24, 2) := by decide +kernel
theorem dL_searches_215 : decode cL_searches 215 = .ok (.iload 18, 2) := by decide +kernel
theorem dL_searches_217 : decode cL_searches 217 = .ok (.iconst 2, 1) := by decide +kernel
theorem dL_searches_218 : decode cL_searches 218 = .ok (.if_icmp .ne 27, 3) := by decide +kernel
theorem dL_searches_221 : decode cL_searches 221 = .ok (.iload 24, 2) := by decide +kernel
theorem dL_searches_223 : decode cL_searches 223 = .ok (.ifCond .lt 22, 3) := by decide +kernel
theorem dL_searches_226 : decode cL_searches 226 = .ok (.iload 24, 2) := by decide +kernel
theorem dL_searches_228 : decode cL_searches 228 = .ok (.iload 17, 2) := by decide +kernel
theorem dL_searches_230 : decode cL_searches 230 = .ok (.if_icmp .eq 15, 3) := by decide +kernel
theorem dL_searches_233 : decode cL_searches 233 = .ok (.iload 24, 2) := by decide +kernel
theorem dL_searches_235 : decode cL_searches 235 = .ok (.aload 11, 2) := by decide +kernel
theorem dL_searches_237 : decode cL_searches 237 = .ok (.invokestatic 93, 3) := by decide +kernel
theorem dL_searches_240 : decode cL_searches 240 = .ok (.istore 24, 2) := by decide +kernel
theorem dL_searches_242 : decode cL_searches 242 = .ok (.goto (-27), 3) := by decide +kernel
theorem dL_searches_245 : decode cL_searches 245 = .ok (.iload 18, 2) := by decide +kernel
theorem dL_searches_247 : decode cL_searches 247 = .ok (.ifCond .ne 18, 3) := by decide +kernel
theorem dL_searches_250 : decode cL_searches 250 = .ok (.iload 23, 2) := by decide +kernel
theorem dL_searches_252 : decode cL_searches 252 = .ok (.iload 17, 2) := by decide +kernel
theorem dL_searches_254 : decode cL_searches 254 = .ok (.if_icmp .ne 7, 3) := by decide +kernel
theorem dL_searches_257 : decode cL_searches 257 = .ok (.iconst 1, 1) := by decide +kernel
theorem dL_searches_258 : decode cL_searches 258 = .ok (.goto 45, 3) := by decide +kernel
theorem dL_searches_261 : decode cL_searches 261 = .ok (.iconst 0, 1) := by decide +kernel
theorem dL_searches_262 : decode cL_searches 262 = .ok (.goto 41, 3) := by decide +kernel
theorem dL_searches_265 : decode cL_searches 265 = .ok (.iload 18, 2) := by decide +kernel
theorem dL_searches_267 : decode cL_searches 267 = .ok (.iconst 1, 1) := by decide +kernel
theorem dL_searches_268 : decode cL_searches 268 = .ok (.if_icmp .ne 23, 3) := by decide +kernel
theorem dL_searches_271 : decode cL_searches 271 = .ok (.iload 23, 2) := by decide +kernel
theorem dL_searches_273 : decode cL_searches 273 = .ok (.aload 11, 2) := by decide +kernel
theorem dL_searches_275 : decode cL_searches 275 = .ok (.invokestatic 93, 3) := by decide +kernel
theorem dL_searches_278 : decode cL_searches 278 = .ok (.iload 17, 2) := by decide +kernel
theorem dL_searches_280 : decode cL_searches 280 = .ok (.if_icmp .ne 7, 3) := by decide +kernel
theorem dL_searches_283 : decode cL_searches 283 = .ok (.iconst 1, 1) := by decide +kernel
theorem dL_searches_284 : decode cL_searches 284 = .ok (.goto 19, 3) := by decide +kernel
theorem dL_searches_287 : decode cL_searches 287 = .ok (.iconst 0, 1) := by decide +kernel
theorem dL_searches_288 : decode cL_searches 288 = .ok (.goto 15, 3) := by decide +kernel
theorem dL_searches_291 : decode cL_searches 291 = .ok (.iload 24, 2) := by decide +kernel
theorem dL_searches_293 : decode cL_searches 293 = .ok (.iload 17, 2) := by decide +kernel
theorem dL_searches_295 : decode cL_searches 295 = .ok (.if_icmp .ne 7, 3) := by decide +kernel
theorem dL_searches_298 : decode cL_searches 298 = .ok (.iconst 1, 1) := by decide +kernel
theorem dL_searches_299 : decode cL_searches 299 = .ok (.goto 4, 3) := by decide +kernel
theorem dL_searches_302 : decode cL_searches 302 = .ok (.iconst 0, 1) := by decide +kernel
theorem dL_searches_303 : decode cL_searches 303 = .ok (.istore 25, 2) := by decide +kernel
theorem dL_searches_305 : decode cL_searches 305 = .ok (.aload 11, 2) := by decide +kernel
theorem dL_searches_307 : decode cL_searches 307 = .ok (.iconst 3, 1) := by decide +kernel
theorem dL_searches_308 : decode cL_searches 308 = .ok (.iload 23, 2) := by decide +kernel
theorem dL_searches_310 : decode cL_searches 310 = .ok (.imul, 1) := by decide +kernel
theorem dL_searches_311 : decode cL_searches 311 = .ok (.iaload, 1) := by decide +kernel
theorem dL_searches_312 : decode cL_searches 312 = .ok (.iconst 1, 1) := by decide +kernel
theorem dL_searches_313 : decode cL_searches 313 = .ok (.if_icmp .ne 94, 3) := by decide +kernel
theorem dL_searches_316 : decode cL_searches 316 = .ok (.iload 25, 2) := by decide +kernel
theorem dL_searches_318 : decode cL_searches 318 = .ok (.ifCond .eq 89, 3) := by decide +kernel
theorem dL_searches_321 : decode cL_searches 321 = .ok (.iload 13, 2) := by decide +kernel
theorem dL_searches_323 : decode cL_searches 323 = .ok (.iload 14, 2) := by decide +kernel
theorem dL_searches_325 : decode cL_searches 325 = .ok (.iload 15, 2) := by decide +kernel
theorem dL_searches_327 : decode cL_searches 327 = .ok (.iload 16, 2) := by decide +kernel
theorem dL_searches_329 : decode cL_searches 329 = .ok (.iload 23, 2) := by decide +kernel
theorem dL_searches_331 : decode cL_searches 331 = .ok (.aload_n 3, 1) := by decide +kernel
theorem dL_searches_332 : decode cL_searches 332 = .ok (.aload 4, 2) := by decide +kernel
theorem dL_searches_334 : decode cL_searches 334 = .ok (.aload 11, 2) := by decide +kernel
theorem dL_searches_336 : decode cL_searches 336 = .ok (.aload 12, 2) := by decide +kernel
theorem dL_searches_338 : decode cL_searches 338 = .ok (.invokestatic 193, 3) := by decide +kernel
theorem dL_searches_341 : decode cL_searches 341 = .ok (.ifCond .eq 66, 3) := by decide +kernel
theorem dL_searches_344 : decode cL_searches 344 = .ok (.iload_n 1, 1) := by decide +kernel
theorem dL_searches_345 : decode cL_searches 345 = .ok (.aload_n 3, 1) := by decide +kernel
theorem dL_searches_346 : decode cL_searches 346 = .ok (.iconst 4, 1) := by decide +kernel
theorem dL_searches_347 : decode cL_searches 347 = .ok (.iload_n 1, 1) := by decide +kernel
theorem dL_searches_348 : decode cL_searches 348 = .ok (.iadd, 1) := by decide +kernel
theorem dL_searches_349 : decode cL_searches 349 = .ok (.iaload, 1) := by decide +kernel
theorem dL_searches_350 : decode cL_searches 350 = .ok (.iload 23, 2) := by decide +kernel
theorem dL_searches_352 : decode cL_searches 352 = .ok (.iconst 0, 1) := by decide +kernel
theorem dL_searches_353 : decode cL_searches 353 = .ok (.aload_n 3, 1) := by decide +kernel
theorem dL_searches_354 : decode cL_searches 354 = .ok (.aload 5, 2) := by decide +kernel
theorem dL_searches_356 : decode cL_searches 356 = .ok (.aload 6, 2) := by decide +kernel
theorem dL_searches_358 : decode cL_searches 358 = .ok (.aload 7, 2) := by decide +kernel
theorem dL_searches_360 : decode cL_searches 360 = .ok (.aload 8, 2) := by decide +kernel
theorem dL_searches_362 : decode cL_searches 362 = .ok (.aload 9, 2) := by decide +kernel
theorem dL_searches_364 : decode cL_searches 364 = .ok (.aload 10, 2) := by decide +kernel
theorem dL_searches_366 : decode cL_searches 366 = .ok (.aload 11, 2) := by decide +kernel
theorem dL_searches_368 : decode cL_searches 368 = .ok (.aload 12, 2) := by decide +kernel
theorem dL_searches_370 : decode cL_searches 370 = .ok (.invokestatic 122, 3) := by decide +kernel
theorem dL_searches_373 : decode cL_searches 373 = .ok (.ifCond .eq 34, 3) := by decide +kernel
theorem dL_searches_376 : decode cL_searches 376 = .ok (.aload_n 0, 1) := by decide +kernel
theorem dL_searches_377 : decode cL_searches 377 = .ok (.bipush 13, 2) := by decide +kernel
theorem dL_searches_379 : decode cL_searches 379 = .ok (.iload 19, 2) := by decide +kernel
theorem dL_searches_381 : decode cL_searches 381 = .ok (.iconst 0, 1) := by decide +kernel
theorem dL_searches_382 : decode cL_searches 382 = .ok (.iconst 0, 1) := by decide +kernel
theorem dL_searches_383 : decode cL_searches 383 = .ok (.iconst 0, 1) := by decide +kernel
theorem dL_searches_384 : decode cL_searches 384 = .ok (.invokestatic 138, 3) := by decide +kernel
theorem dL_searches_387 : decode cL_searches 387 = .ok (.bipush 100, 2) := by decide +kernel
theorem dL_searches_389 : decode cL_searches 389 = .ok (.iload_n 1, 1) := by decide +kernel
theorem dL_searches_390 : decode cL_searches 390 = .ok (.imul, 1) := by decide +kernel
theorem dL_searches_391 : decode cL_searches 391 = .ok (.iload 23, 2) := by decide +kernel
theorem dL_searches_393 : decode cL_searches 393 = .ok (.iadd, 1) := by decide +kernel
theorem dL_searches_394 : decode cL_searches 394 = .ok (.if_icmp .ne 7, 3) := by decide +kernel
theorem dL_searches_397 : decode cL_searches 397 = .ok (.iconst 1, 1) := by decide +kernel
theorem dL_searches_398 : decode cL_searches 398 = .ok (.goto 4, 3) := by decide +kernel
theorem dL_searches_401 : decode cL_searches 401 = .ok (.iconst 0, 1) := by decide +kernel
theorem dL_searches_402 : decode cL_searches 402 = .ok (.istore 22, 2) := by decide +kernel
theorem dL_searches_404 : decode cL_searches 404 = .ok (.iinc 19 1, 3) := by decide +kernel
theorem dL_searches_407 : decode cL_searches 407 = .ok (.iinc 23 1, 3) := by decide +kernel
theorem dL_searches_410 : decode cL_searches 410 = .ok (.goto (-212), 3) := by decide +kernel
theorem dL_searches_413 : decode cL_searches 413 = .ok (.iload 22, 2) := by decide +kernel
theorem dL_searches_415 : decode cL_searches 415 = .ok (.ifCond .eq 37, 3) := by decide +kernel
theorem dL_searches_418 : decode cL_searches 418 = .ok (.iload 21, 2) := by decide +kernel
theorem dL_searches_420 : decode cL_searches 420 = .ok (.iload 19, 2) := by decide +kernel
theorem dL_searches_422 : decode cL_searches 422 = .ok (.if_icmp .ne 30, 3) := by decide +kernel
theorem dL_searches_425 : decode cL_searches 425 = .ok (.iload 20, 2) := by decide +kernel
theorem dL_searches_427 : decode cL_searches 427 = .ok (.iload 19, 2) := by decide +kernel
theorem dL_searches_429 : decode cL_searches 429 = .ok (.if_icmp .ne 23, 3) := by decide +kernel
theorem dL_searches_432 : decode cL_searches 432 = .ok (.aload_n 0, 1) := by decide +kernel
theorem dL_searches_433 : decode cL_searches 433 = .ok (.bipush 13, 2) := by decide +kernel
theorem dL_searches_435 : decode cL_searches 435 = .ok (.iload 19, 2) := by decide +kernel
theorem dL_searches_437 : decode cL_searches 437 = .ok (.iconst 0, 1) := by decide +kernel
theorem dL_searches_438 : decode cL_searches 438 = .ok (.iconst 0, 1) := by decide +kernel
theorem dL_searches_439 : decode cL_searches 439 = .ok (.iconst 0, 1) := by decide +kernel
theorem dL_searches_440 : decode cL_searches 440 = .ok (.invokestatic 138, 3) := by decide +kernel
theorem dL_searches_443 : decode cL_searches 443 = .ok (.bipush (-9), 2) := by decide +kernel
theorem dL_searches_445 : decode cL_searches 445 = .ok (.if_icmp .ne 7, 3) := by decide +kernel
theorem dL_searches_448 : decode cL_searches 448 = .ok (.iconst 1, 1) := by decide +kernel
theorem dL_searches_449 : decode cL_searches 449 = .ok (.goto 4, 3) := by decide +kernel
theorem dL_searches_452 : decode cL_searches 452 = .ok (.iconst 0, 1) := by decide +kernel
theorem dL_searches_453 : decode cL_searches 453 = .ok (.ireturn, 1) := by decide +kernel
theorem dL_arrives_0 : decode cL_arrives 0 = .ok (.iload_n 0, 1) := by decide +kernel
theorem dL_arrives_1 : decode cL_arrives 1 = .ok (.bipush 100, 2) := by decide +kernel
theorem dL_arrives_3 : decode cL_arrives 3 = .ok (.idiv, 1) := by decide +kernel
theorem dL_arrives_4 : decode cL_arrives 4 = .ok (.istore 12, 2) := by decide +kernel
theorem dL_arrives_6 : decode cL_arrives 6 = .ok (.iload_n 0, 1) := by decide +kernel
theorem dL_arrives_7 : decode cL_arrives 7 = .ok (.bipush 100, 2) := by decide +kernel
theorem dL_arrives_9 : decode cL_arrives 9 = .ok (.irem, 1) := by decide +kernel
theorem dL_arrives_10 : decode cL_arrives 10 = .ok (.istore 13, 2) := by decide +kernel
theorem dL_arrives_12 : decode cL_arrives 12 = .ok (.iconst 1, 1) := by decide +kernel
theorem dL_arrives_13 : decode cL_arrives 13 = .ok (.istore 14, 2) := by decide +kernel
theorem dL_arrives_15 : decode cL_arrives 15 = .ok (.iload 14, 2) := by decide +kernel
theorem dL_arrives_17 : decode cL_arrives 17 = .ok (.ifCond .eq 137, 3) := by decide +kernel
theorem dL_arrives_20 : decode cL_arrives 20 = .ok (.iload 12, 2) := by decide +kernel
theorem dL_arrives_22 : decode cL_arrives 22 = .ok (.aload_n 2, 1) := by decide +kernel
theorem dL_arrives_23 : decode cL_arrives 23 = .ok (.aload_n 3, 1) := by decide +kernel
theorem dL_arrives_24 : decode cL_arrives 24 = .ok (.aload 4, 2) := by decide +kernel
theorem dL_arrives_26 : decode cL_arrives 26 = .ok (.aload 5, 2) := by decide +kernel
theorem dL_arrives_28 : decode cL_arrives 28 = .ok (.aload 6, 2) := by decide +kernel
theorem dL_arrives_30 : decode cL_arrives 30 = .ok (.aload 7, 2) := by decide +kernel
theorem dL_arrives_32 : decode cL_arrives 32 = .ok (.aload 8, 2) := by decide +kernel
theorem dL_arrives_34 : decode cL_arrives 34 = .ok (.aload 9, 2) := by decide +kernel
theorem dL_arrives_36 : decode cL_arrives 36 = .ok (.aload 10, 2) := by decide +kernel
theorem dL_arrives_38 : decode cL_arrives 38 = .ok (.aload 11, 2) := by decide +kernel
theorem dL_arrives_40 : decode cL_arrives 40 = .ok (.invokestatic 197, 3) := by decide +kernel
theorem dL_arrives_43 : decode cL_arrives 43 = .ok (.aload 10, 2) := by decide +kernel
theorem dL_arrives_45 : decode cL_arrives 45 = .ok (.iconst 3, 1) := by decide +kernel
theorem dL_arrives_46 : decode cL_arrives 46 = .ok (.iload 13, 2) := by decide +kernel
theorem dL_arrives_48 : decode cL_arrives 48 = .ok (.imul, 1) := by decide +kernel
theorem dL_arrives_49 : decode cL_arrives 49 = .ok (.iaload, 1) := by decide +kernel
theorem dL_arrives_50 : decode cL_arrives 50 = .ok (.iconst 1, 1) := by decide +kernel
theorem dL_arrives_51 : decode cL_arrives 51 = .ok (.if_icmp .ne 16, 3) := by decide +kernel
theorem dL_arrives_54 : decode cL_arrives 54 = .ok (.aload_n 1, 1) := by decide +kernel
theorem dL_arrives_55 : decode cL_arrives 55 = .ok (.iload 12, 2) := by decide +kernel
theorem dL_arrives_57 : decode cL_arrives 57 = .ok (.iaload, 1) := by decide +kernel
theorem dL_arrives_58 : decode cL_arrives 58 = .ok (.iload 13, 2) := by decide +kernel
theorem dL_arrives_60 : decode cL_arrives 60 = .ok (.ishr, 1) := by decide +kernel
theorem dL_arrives_61 : decode cL_arrives 61 = .ok (.iconst 1, 1) := by decide +kernel
theorem dL_arrives_62 : decode cL_arrives 62 = .ok (.iand, 1) := by decide +kernel
theorem dL_arrives_63 : decode cL_arrives 63 = .ok (.iconst 1, 1) := by decide +kernel
theorem dL_arrives_64 : decode cL_arrives 64 = .ok (.if_icmp .ne 5, 3) := by decide +kernel
theorem dL_arrives_67 : decode cL_arrives 67 = .ok (.iconst (-1), 1) := by decide +kernel
theorem dL_arrives_68 : decode cL_arrives 68 = .ok (.ireturn, 1) := by decide +kernel
theorem dL_arrives_69 : decode cL_arrives 69 = .ok (.aload_n 1, 1) := by decide +kernel
theorem dL_arrives_70 : decode cL_arrives 70 = .ok (.iload 12, 2) := by decide +kernel
theorem dL_arrives_72 : decode cL_arrives 72 = .ok (.dup2, 1) := by decide +kernel
theorem dL_arrives_73 : decode cL_arrives 73 = .ok (.iaload, 1) := by decide +kernel
theorem dL_arrives_74 : decode cL_arrives 74 = .ok (.iconst 1, 1) := by decide +kernel
theorem dL_arrives_75 : decode cL_arrives 75 = .ok (.iload 13, 2) := by decide +kernel
theorem dL_arrives_77 : decode cL_arrives 77 = .ok (.ishl, 1) := by decide +kernel
theorem dL_arrives_78 : decode cL_arrives 78 = .ok (.ior, 1) := by decide +kernel
theorem dL_arrives_79 : decode cL_arrives 79 = .ok (.iastore, 1) := by decide +kernel
theorem dL_arrives_80 : decode cL_arrives 80 = .ok (.iload 12, 2) := by decide +kernel
theorem dL_arrives_82 : decode cL_arrives 82 = .ok (.iload 13, 2) := by decide +kernel
theorem dL_arrives_84 : decode cL_arrives 84 = .ok (.aload_n 2, 1) := by decide +kernel
theorem dL_arrives_85 : decode cL_arrives 85 = .ok (.aload_n 3, 1) := by decide +kernel
theorem dL_arrives_86 : decode cL_arrives 86 = .ok (.aload 4, 2) := by decide +kernel
theorem dL_arrives_88 : decode cL_arrives 88 = .ok (.aload 5, 2) := by decide +kernel
theorem dL_arrives_90 : decode cL_arrives 90 = .ok (.aload 6, 2) := by decide +kernel
theorem dL_arrives_92 : decode cL_arrives 92 = .ok (.aload 9, 2) := by decide +kernel
theorem dL_arrives_94 : decode cL_arrives 94 = .ok (.invokestatic 154, 3) := by decide +kernel
theorem dL_arrives_97 : decode cL_arrives 97 = .ok (.istore 15, 2) := by decide +kernel
theorem dL_arrives_99 : decode cL_arrives 99 = .ok (.iload 15, 2) := by decide +kernel
theorem dL_arrives_101 : decode cL_arrives 101 = .ok (.ifCond .lt 7, 3) := by decide +kernel
theorem dL_arrives_104 : decode cL_arrives 104 = .ok (.iconst 1, 1) := by decide +kernel
theorem dL_arrives_105 : decode cL_arrives 105 = .ok (.goto 4, 3) := by decide +kernel
theorem dL_arrives_108 : decode cL_arrives 108 = .ok (.iconst 0, 1) := by decide +kernel
theorem dL_arrives_109 : decode cL_arrives 109 = .ok (.istore 14, 2) := by decide +kernel
theorem dL_arrives_111 : decode cL_arrives 111 = .ok (.iload 15, 2) := by decide +kernel
theorem dL_arrives_113 : decode cL_arrives 113 = .ok (.bipush 99, 2) := by decide +kernel
theorem dL_arrives_115 : decode cL_arrives 115 = .ok (.if_icmp .le 11, 3) := by decide +kernel
theorem dL_arrives_118 : decode cL_arrives 118 = .ok (.iload 15, 2) := by decide +kernel
theorem dL_arrives_120 : decode cL_arrives 120 = .ok (.bipush 100, 2) := by decide +kernel
theorem dL_arrives_122 : decode cL_arrives 122 = .ok (.isub, 1) := by decide +kernel
theorem dL_arrives_123 : decode cL_arrives 123 = .ok (.goto 5, 3) := by decide +kernel
theorem dL_arrives_126 : decode cL_arrives 126 = .ok (.iload 12, 2) := by decide +kernel
theorem dL_arrives_128 : decode cL_arrives 128 = .ok (.istore 12, 2) := by decide +kernel
theorem dL_arrives_130 : decode cL_arrives 130 = .ok (.iload 15, 2) := by decide +kernel
theorem dL_arrives_132 : decode cL_arrives 132 = .ok (.ifCond .lt 15, 3) := by decide +kernel
theorem dL_arrives_135 : decode cL_arrives 135 = .ok (.iload 15, 2) := by decide +kernel
theorem dL_arrives_137 : decode cL_arrives 137 = .ok (.bipush 100, 2) := by decide +kernel
theorem dL_arrives_139 : decode cL_arrives 139 = .ok (.if_icmp .ge 8, 3) := by decide +kernel
theorem dL_arrives_142 : decode cL_arrives 142 = .ok (.iload 15, 2) := by decide +kernel
theorem dL_arrives_144 : decode cL_arrives 144 = .ok (.goto 5, 3) := by decide +kernel
theorem dL_arrives_147 : decode cL_arrives 147 = .ok (.iload 13, 2) := by decide +kernel
theorem dL_arrives_149 : decode cL_arrives 149 = .ok (.istore 13, 2) := by decide +kernel
theorem dL_arrives_151 : decode cL_arrives 151 = .ok (.goto (-136), 3) := by decide +kernel
theorem dL_arrives_154 : decode cL_arrives 154 = .ok (.bipush 100, 2) := by decide +kernel
theorem dL_arrives_156 : decode cL_arrives 156 = .ok (.iload 12, 2) := by decide +kernel
theorem dL_arrives_158 : decode cL_arrives 158 = .ok (.imul, 1) := by decide +kernel
theorem dL_arrives_159 : decode cL_arrives 159 = .ok (.iload 13, 2) := by decide +kernel
theorem dL_arrives_161 : decode cL_arrives 161 = .ok (.iadd, 1) := by decide +kernel
theorem dL_arrives_162 : decode cL_arrives 162 = .ok (.ireturn, 1) := by decide +kernel
theorem dL_follows_0 : decode cL_follows 0 = .ok (.iload_n 2, 1) := by decide +kernel
theorem dL_follows_1 : decode cL_follows 1 = .ok (.bipush 7, 2) := by decide +kernel
theorem dL_follows_3 : decode cL_follows 3 = .ok (.invokestatic 119, 3) := by decide +kernel
theorem dL_follows_6 : decode cL_follows 6 = .ok (.istore 16, 2) := by decide +kernel
theorem dL_follows_8 : decode cL_follows 8 = .ok (.iload_n 2, 1) := by decide +kernel
theorem dL_follows_9 : decode cL_follows 9 = .ok (.iconst 3, 1) := by decide +kernel
theorem dL_follows_10 : decode cL_follows 10 = .ok (.ishr, 1) := by decide +kernel
theorem dL_follows_11 : decode cL_follows 11 = .ok (.aload_n 3, 1) := by decide +kernel
theorem dL_follows_12 : decode cL_follows 12 = .ok (.iconst 2, 1) := by decide +kernel
theorem dL_follows_13 : decode cL_follows 13 = .ok (.iaload, 1) := by decide +kernel
theorem dL_follows_14 : decode cL_follows 14 = .ok (.invokestatic 119, 3) := by decide +kernel
theorem dL_follows_17 : decode cL_follows 17 = .ok (.istore 17, 2) := by decide +kernel
theorem dL_follows_19 : decode cL_follows 19 = .ok (.iload_n 2, 1) := by decide +kernel
theorem dL_follows_20 : decode cL_follows 20 = .ok (.iconst 5, 1) := by decide +kernel
theorem dL_follows_21 : decode cL_follows 21 = .ok (.ishr, 1) := by decide +kernel
theorem dL_follows_22 : decode cL_follows 22 = .ok (.iconst 5, 1) := by decide +kernel
theorem dL_follows_23 : decode cL_follows 23 = .ok (.invokestatic 119, 3) := by decide +kernel
theorem dL_follows_26 : decode cL_follows 26 = .ok (.istore 18, 2) := by decide +kernel
theorem dL_follows_28 : decode cL_follows 28 = .ok (.iload_n 2, 1) := by decide +kernel
theorem dL_follows_29 : decode cL_follows 29 = .ok (.bipush 7, 2) := by decide +kernel
theorem dL_follows_31 : decode cL_follows 31 = .ok (.ishr, 1) := by decide +kernel
theorem dL_follows_32 : decode cL_follows 32 = .ok (.aload_n 3, 1) := by decide +kernel
theorem dL_follows_33 : decode cL_follows 33 = .ok (.iconst 3, 1) := by decide +kernel
theorem dL_follows_34 : decode cL_follows 34 = .ok (.iaload, 1) := by decide +kernel
theorem dL_follows_35 : decode cL_follows 35 = .ok (.invokestatic 119, 3) := by decide +kernel
theorem dL_follows_38 : decode cL_follows 38 = .ok (.istore 19, 2) := by decide +kernel
theorem dL_follows_40 : decode cL_follows 40 = .ok (.iload_n 2, 1) := by decide +kernel
theorem dL_follows_41 : decode cL_follows 41 = .ok (.bipush 9, 2) := by decide +kernel
theorem dL_follows_43 : decode cL_follows 43 = .ok (.ishr, 1) := by decide +kernel
theorem dL_follows_44 : decode cL_follows 44 = .ok (.iconst 2, 1) := by decide +kernel
theorem dL_follows_45 : decode cL_follows 45 = .ok (.invokestatic 119, 3) := by decide +kernel
theorem dL_follows_48 : decode cL_follows 48 = .ok (.ifCond .ne 7, 3) := by decide +kernel
theorem dL_follows_51 : decode cL_follows 51 = .ok (.iconst 0, 1) := by decide +kernel
theorem dL_follows_52 : decode cL_follows 52 = .ok (.goto 13, 3) := by decide +kernel
theorem dL_follows_55 : decode cL_follows 55 = .ok (.iload_n 2, 1) := by decide +kernel
theorem dL_follows_56 : decode cL_follows 56 = .ok (.bipush 11, 2) := by decide +kernel
theorem dL_follows_58 : decode cL_follows 58 = .ok (.ishr, 1) := by decide +kernel
theorem dL_follows_59 : decode cL_follows 59 = .ok (.aload_n 3, 1) := by decide +kernel
theorem dL_follows_60 : decode cL_follows 60 = .ok (.iconst 0, 1) := by decide +kernel
theorem dL_follows_61 : decode cL_follows 61 = .ok (.iaload, 1) := by decide +kernel
theorem dL_follows_62 : decode cL_follows 62 = .ok (.invokestatic 119, 3) := by decide +kernel
theorem dL_follows_65 : decode cL_follows 65 = .ok (.istore 20, 2) := by decide +kernel
theorem dL_follows_67 : decode cL_follows 67 = .ok (.iload_n 2, 1) := by decide +kernel
theorem dL_follows_68 : decode cL_follows 68 = .ok (.bipush 13, 2) := by decide +kernel
theorem dL_follows_70 : decode cL_follows 70 = .ok (.ishr, 1) := by decide +kernel
theorem dL_follows_71 : decode cL_follows 71 = .ok (.iconst 3, 1) := by decide +kernel
theorem dL_follows_72 : decode cL_follows 72 = .ok (.invokestatic 119, 3) := by decide +kernel
theorem dL_follows_75 : decode cL_follows 75 = .ok (.istore 21, 2) := by decide +kernel
theorem dL_follows_77 : decode cL_follows 77 = .ok (.aload_n 0, 1) := by decide +kernel
theorem dL_follows_78 : decode cL_follows 78 = .ok (.iload 16, 2) := by decide +kernel
theorem dL_follows_80 : decode cL_follows 80 = .ok (.iload 17, 2) := by decide +kernel
theorem dL_follows_82 : decode cL_follows 82 = .ok (.iload 18, 2) := by decide +kernel
theorem dL_follows_84 : decode cL_follows 84 = .ok (.iload 19, 2) := by decide +kernel
theorem dL_follows_86 : decode cL_follows 86 = .ok (.invokestatic 189, 3) := by decide +kernel
theorem dL_follows_89 : decode cL_follows 89 = .ok (.ifCond .ne 5, 3) := by decide +kernel
theorem dL_follows_92 : decode cL_follows 92 = .ok (.iconst 0, 1) := by decide +kernel
theorem dL_follows_93 : decode cL_follows 93 = .ok (.ireturn, 1) := by decide +kernel
theorem dL_follows_94 : decode cL_follows 94 = .ok (.aload_n 0, 1) := by decide +kernel
theorem dL_follows_95 : decode cL_follows 95 = .ok (.bipush 11, 2) := by decide +kernel
theorem dL_follows_97 : decode cL_follows 97 = .ok (.iload_n 1, 1) := by decide +kernel
theorem dL_follows_98 : decode cL_follows 98 = .ok (.iload 20, 2) := by decide +kernel
theorem dL_follows_100 : decode cL_follows 100 = .ok (.iload 21, 2) := by decide +kernel
theorem dL_follows_102 : decode cL_follows 102 = .ok (.iconst 0, 1) := by decide +kernel
theorem dL_follows_103 : decode cL_follows 103 = .ok (.invokestatic 138, 3) := by decide +kernel
theorem dL_follows_106 : decode cL_follows 106 = .ok (.istore 22, 2) := by decide +kernel
theorem dL_follows_108 : decode cL_follows 108 = .ok (.aload 12, 2) := by decide +kernel
theorem dL_follows_110 : decode cL_follows 110 = .ok (.iconst 3, 1) := by decide +kernel
theorem dL_follows_111 : decode cL_follows 111 = .ok (.iload 20, 2) := by decide +kernel
theorem dL_follows_113 : decode cL_follows 113 = .ok (.imul, 1) := by decide +kernel
theorem dL_follows_114 : decode cL_follows 114 = .ok (.iaload, 1) := by decide +kernel
theorem dL_follows_115 : decode cL_follows 115 = .ok (.iconst 1, 1) := by decide +kernel
theorem dL_follows_116 : decode cL_follows 116 = .ok (.if_icmp .eq 16, 3) := by decide +kernel
theorem dL_follows_119 : decode cL_follows 119 = .ok (.iload 22, 2) := by decide +kernel
theorem dL_follows_121 : decode cL_follows 121 = .ok (.bipush (-9), 2) := by decide +kernel
theorem dL_follows_123 : decode cL_follows 123 = .ok (.if_icmp .ne 7, 3) := by decide +kernel
theorem dL_follows_126 : decode cL_follows 126 = .ok (.iconst 1, 1) := by decide +kernel
theorem dL_follows_127 : decode cL_follows 127 = .ok (.goto 4, 3) := by decide +kernel
theorem dL_follows_130 : decode cL_follows 130 = .ok (.iconst 0, 1) := by decide +kernel
theorem dL_follows_131 : decode cL_follows 131 = .ok (.ireturn, 1) := by decide +kernel
theorem dL_follows_132 : decode cL_follows 132 = .ok (.iconst 0, 1) := by decide +kernel
theorem dL_follows_133 : decode cL_follows 133 = .ok (.istore 23, 2) := by decide +kernel
theorem dL_follows_135 : decode cL_follows 135 = .ok (.iload 23, 2) := by decide +kernel
theorem dL_follows_137 : decode cL_follows 137 = .ok (.iconst 4, 1) := by decide +kernel
theorem dL_follows_138 : decode cL_follows 138 = .ok (.if_icmp .ge 15, 3) := by decide +kernel
theorem dL_follows_141 : decode cL_follows 141 = .ok (.aload 14, 2) := by decide +kernel
theorem dL_follows_143 : decode cL_follows 143 = .ok (.iload 23, 2) := by decide +kernel
theorem dL_follows_145 : decode cL_follows 145 = .ok (.iconst 0, 1) := by decide +kernel
theorem dL_follows_146 : decode cL_follows 146 = .ok (.iastore, 1) := by decide +kernel
theorem dL_follows_147 : decode cL_follows 147 = .ok (.iinc 23 1, 3) := by decide +kernel
theorem dL_follows_150 : decode cL_follows 150 = .ok (.goto (-15), 3) := by decide +kernel
theorem dL_follows_153 : decode cL_follows 153 = .ok (.aload 15, 2) := by decide +kernel
theorem dL_follows_155 : decode cL_follows 155 = .ok (.iconst 0, 1) := by decide +kernel
theorem dL_follows_156 : decode cL_follows 156 = .ok (.bipush 100, 2) := by decide +kernel
theorem dL_follows_158 : decode cL_follows 158 = .ok (.iload_n 1, 1) := by decide +kernel
theorem dL_follows_159 : decode cL_follows 159 = .ok (.imul, 1) := by decide +kernel
theorem dL_follows_160 : decode cL_follows 160 = .ok (.iload 20, 2) := by decide +kernel
theorem dL_follows_162 : decode cL_follows 162 = .ok (.iadd, 1) := by decide +kernel
theorem dL_follows_163 : decode cL_follows 163 = .ok (.iastore, 1) := by decide +kernel
theorem dL_follows_164 : decode cL_follows 164 = .ok (.iconst 1, 1) := by decide +kernel
theorem dL_follows_165 : decode cL_follows 165 = .ok (.istore 23, 2) := by decide +kernel
theorem dL_follows_167 : decode cL_follows 167 = .ok (.iconst 0, 1) := by decide +kernel
theorem dL_follows_168 : decode cL_follows 168 = .ok (.istore 24, 2) := by decide +kernel
theorem dL_follows_170 : decode cL_follows 170 = .ok (.iconst 1, 1) := by decide +kernel
theorem dL_follows_171 : decode cL_follows 171 = .ok (.istore 25, 2) := by decide +kernel
theorem dL_follows_173 : decode cL_follows 173 = .ok (.iconst 1, 1) := by decide +kernel
theorem dL_follows_174 : decode cL_follows 174 = .ok (.istore 26, 2) := by decide +kernel
theorem dL_follows_176 : decode cL_follows 176 = .ok (.iload 23, 2) := by decide +kernel
theorem dL_follows_178 : decode cL_follows 178 = .ok (.ifCond .le 340, 3) := by decide +kernel
theorem dL_follows_181 : decode cL_follows 181 = .ok (.iload 26, 2) := by decide +kernel
theorem dL_follows_183 : decode cL_follows 183 = .ok (.ifCond .eq 335, 3) := by decide +kernel
theorem dL_follows_186 : decode cL_follows 186 = .ok (.iinc 23 (-1), 3) := by decide +kernel
theorem dL_follows_189 : decode cL_follows 189 = .ok (.aload 15, 2) := by decide +kernel
theorem dL_follows_191 : decode cL_follows 191 = .ok (.iload 23, 2) := by decide +kernel
theorem dL_follows_193 : decode cL_follows 193 = .ok (.iaload, 1) := by decide +kernel
theorem dL_follows_194 : decode cL_follows 194 = .ok (.aload 14, 2) := by decide +kernel
theorem dL_follows_196 : decode cL_follows 196 = .ok (.aload_n 3, 1) := by decide +kernel
theorem dL_follows_197 : decode cL_follows 197 = .ok (.aload 5, 2) := by decide +kernel
theorem dL_follows_199 : decode cL_follows 199 = .ok (.aload 6, 2) := by decide +kernel
theorem dL_follows_201 : decode cL_follows 201 = .ok (.aload 7, 2) := by decide +kernel
theorem dL_follows_203 : decode cL_follows 203 = .ok (.aload 8, 2) := by decide +kernel
theorem dL_follows_205 : decode cL_follows 205 = .ok (.aload 9, 2) := by decide +kernel
theorem dL_follows_207 : decode cL_follows 207 = .ok (.aload 10, 2) := by decide +kernel
theorem dL_follows_209 : decode cL_follows 209 = .ok (.aload 11, 2) := by decide +kernel
theorem dL_follows_211 : decode cL_follows 211 = .ok (.aload 12, 2) := by decide +kernel
theorem dL_follows_213 : decode cL_follows 213 = .ok (.aload 13, 2) := by decide +kernel
theorem dL_follows_215 : decode cL_follows 215 = .ok (.invokestatic 201, 3) := by decide +kernel
theorem dL_follows_218 : decode cL_follows 218 = .ok (.istore 27, 2) := by decide +kernel
theorem dL_follows_220 : decode cL_follows 220 = .ok (.iload 27, 2) := by decide +kernel
theorem dL_follows_222 : decode cL_follows 222 = .ok (.bipush 100, 2) := by decide +kernel
theorem dL_follows_224 : decode cL_follows 224 = .ok (.irem, 1) := by decide +kernel
theorem dL_follows_225 : decode cL_follows 225 = .ok (.istore 28, 2) := by decide +kernel
theorem dL_follows_227 : decode cL_follows 227 = .ok (.iload 27, 2) := by decide +kernel
theorem dL_follows_229 : decode cL_follows 229 = .ok (.ifCond .lt 99, 3) := by decide +kernel
theorem dL_follows_232 : decode cL_follows 232 = .ok (.iload 25, 2) := by decide +kernel
theorem dL_follows_234 : decode cL_follows 234 = .ok (.ifCond .eq 9, 3) := by decide +kernel
theorem dL_follows_237 : decode cL_follows 237 = .ok (.iload 21, 2) := by decide +kernel
theorem dL_follows_239 : decode cL_follows 239 = .ok (.iconst 1, 1) := by decide +kernel
theorem dL_follows_240 : decode cL_follows 240 = .ok (.if_icmp .eq 88, 3) := by decide +kernel
theorem dL_follows_243 : decode cL_follows 243 = .ok (.iload 16, 2) := by decide +kernel
theorem dL_follows_245 : decode cL_follows 245 = .ok (.iload 17, 2) := by decide +kernel
theorem dL_follows_247 : decode cL_follows 247 = .ok (.iload 18, 2) := by decide +kernel
theorem dL_follows_249 : decode cL_follows 249 = .ok (.iload 19, 2) := by decide +kernel
theorem dL_follows_251 : decode cL_follows 251 = .ok (.iload 28, 2) := by decide +kernel
theorem dL_follows_253 : decode cL_follows 253 = .ok (.aload_n 3, 1) := by decide +kernel
theorem dL_follows_254 : decode cL_follows 254 = .ok (.aload 4, 2) := by decide +kernel
theorem dL_follows_256 : decode cL_follows 256 = .ok (.aload 12, 2) := by decide +kernel
theorem dL_follows_258 : decode cL_follows 258 = .ok (.aload 13, 2) := by decide +kernel
theorem dL_follows_260 : decode cL_follows 260 = .ok (.invokestatic 193, 3) := by decide +kernel
theorem dL_follows_263 : decode cL_follows 263 = .ok (.ifCond .eq 65, 3) := by decide +kernel
theorem dL_follows_266 : decode cL_follows 266 = .ok (.iload 27, 2) := by decide +kernel
theorem dL_follows_268 : decode cL_follows 268 = .ok (.bipush 100, 2) := by decide +kernel
theorem dL_follows_270 : decode cL_follows 270 = .ok (.idiv, 1) := by decide +kernel
theorem dL_follows_271 : decode cL_follows 271 = .ok (.aload_n 3, 1) := by decide +kernel
theorem dL_follows_272 : decode cL_follows 272 = .ok (.iconst 4, 1) := by decide +kernel
theorem dL_follows_273 : decode cL_follows 273 = .ok (.iload_n 1, 1) := by decide +kernel
theorem dL_follows_274 : decode cL_follows 274 = .ok (.iadd, 1) := by decide +kernel
theorem dL_follows_275 : decode cL_follows 275 = .ok (.iaload, 1) := by decide +kernel
theorem dL_follows_276 : decode cL_follows 276 = .ok (.iload 28, 2) := by decide +kernel
theorem dL_follows_278 : decode cL_follows 278 = .ok (.iconst 0, 1) := by decide +kernel
theorem dL_follows_279 : decode cL_follows 279 = .ok (.aload_n 3, 1) := by decide +kernel
theorem dL_follows_280 : decode cL_follows 280 = .ok (.aload 5, 2) := by decide +kernel
theorem dL_follows_282 : decode cL_follows 282 = .ok (.aload 6, 2) := by decide +kernel
theorem dL_follows_284 : decode cL_follows 284 = .ok (.aload 7, 2) := by decide +kernel
theorem dL_follows_286 : decode cL_follows 286 = .ok (.aload 8, 2) := by decide +kernel
theorem dL_follows_288 : decode cL_follows 288 = .ok (.aload 9, 2) := by decide +kernel
theorem dL_follows_290 : decode cL_follows 290 = .ok (.aload 11, 2) := by decide +kernel
theorem dL_follows_292 : decode cL_follows 292 = .ok (.aload 12, 2) := by decide +kernel
theorem dL_follows_294 : decode cL_follows 294 = .ok (.aload 13, 2) := by decide +kernel
theorem dL_follows_296 : decode cL_follows 296 = .ok (.invokestatic 122, 3) := by decide +kernel
theorem dL_follows_299 : decode cL_follows 299 = .ok (.ifCond .eq 29, 3) := by decide +kernel
theorem dL_follows_302 : decode cL_follows 302 = .ok (.aload_n 0, 1) := by decide +kernel
theorem dL_follows_303 : decode cL_follows 303 = .ok (.bipush 13, 2) := by decide +kernel
theorem dL_follows_305 : decode cL_follows 305 = .ok (.iload 24, 2) := by decide +kernel
theorem dL_follows_307 : decode cL_follows 307 = .ok (.iconst 0, 1) := by decide +kernel
theorem dL_follows_308 : decode cL_follows 308 = .ok (.iconst 0, 1) := by decide +kernel
theorem dL_follows_309 : decode cL_follows 309 = .ok (.iconst 0, 1) := by decide +kernel
theorem dL_follows_310 : decode cL_follows 310 = .ok (.invokestatic 138, 3) := by decide +kernel
theorem dL_follows_313 : decode cL_follows 313 = .ok (.iload 27, 2) := by decide +kernel
theorem dL_follows_315 : decode cL_follows 315 = .ok (.if_icmp .ne 7, 3) := by decide +kernel
theorem dL_follows_318 : decode cL_follows 318 = .ok (.iconst 1, 1) := by decide +kernel
theorem dL_follows_319 : decode cL_follows 319 = .ok (.goto 4, 3) := by decide +kernel
theorem dL_follows_322 : decode cL_follows 322 = .ok (.iconst 0, 1) := by decide +kernel
theorem dL_follows_323 : decode cL_follows 323 = .ok (.istore 26, 2) := by decide +kernel
theorem dL_follows_325 : decode cL_follows 325 = .ok (.iinc 24 1, 3) := by decide +kernel
theorem dL_follows_328 : decode cL_follows 328 = .ok (.sipush 147, 3) := by decide +kernel
theorem dL_follows_331 : decode cL_follows 331 = .ok (.istore 29, 2) := by decide +kernel
theorem dL_follows_333 : decode cL_follows 333 = .ok (.iload 29, 2) := by decide +kernel
theorem dL_follows_335 : decode cL_follows 335 = .ok (.ifCond .lt 177, 3) := by decide +kernel
theorem dL_follows_338 : decode cL_follows 338 = .ok (.iload 27, 2) := by decide +kernel
theorem dL_follows_340 : decode cL_follows 340 = .ok (.ifCond .lt 172, 3) := by decide +kernel
theorem dL_follows_343 : decode cL_follows 343 = .ok (.iload 21, 2) := by decide +kernel
theorem dL_follows_345 : decode cL_follows 345 = .ok (.iconst 2, 1) := by decide +kernel
theorem dL_follows_346 : decode cL_follows 346 = .ok (.if_icmp .eq 14, 3) := by decide +kernel
theorem dL_follows_349 : decode cL_follows 349 = .ok (.iload 21, 2) := by decide +kernel
theorem dL_follows_351 : decode cL_follows 351 = .ok (.iconst 1, 1) := by decide +kernel
theorem dL_follows_352 : decode cL_follows 352 = .ok (.if_icmp .ne 160, 3) := by decide +kernel
theorem dL_follows_355 : decode cL_follows 355 = .ok (.iload 25, 2) := by decide +kernel
theorem dL_follows_357 : decode cL_follows 357 = .ok (.ifCond .eq 155, 3) := by decide +kernel
theorem dL_follows_360 : decode cL_follows 360 = .ok (.iconst 1, 1) := by decide +kernel
theorem dL_follows_361 : decode cL_follows 361 = .ok (.istore 30, 2) := by decide +kernel
theorem dL_follows_363 : decode cL_follows 363 = .ok (.iload 30, 2) := by decide +kernel
theorem dL_follows_365 : decode cL_follows 365 = .ok (.aload_n 3, 1) := by decide +kernel
theorem dL_follows_366 : decode cL_follows 366 = .ok (.iconst 0, 1) := by decide +kernel
theorem dL_follows_367 : decode cL_follows 367 = .ok (.iaload, 1) := by decide +kernel
theorem dL_follows_368 : decode cL_follows 368 = .ok (.if_icmp .ge 138, 3) := by decide +kernel
theorem dL_follows_371 : decode cL_follows 371 = .ok (.iload 29, 2) := by decide +kernel
theorem dL_follows_373 : decode cL_follows 373 = .ok (.bipush 100, 2) := by decide +kernel
theorem dL_follows_375 : decode cL_follows 375 = .ok (.if_icmp .lt 13, 3) := by decide +kernel
theorem dL_follows_378 : decode cL_follows 378 = .ok (.iload 29, 2) := by decide +kernel
theorem dL_follows_380 : decode cL_follows 380 = .ok (.bipush 100, 2) := by decide +kernel
theorem dL_follows_382 : decode cL_follows 382 = .ok (.iload 30, 2) := by decide +kernel
theorem dL_follows_384 : decode cL_follows 384 = .ok (.iadd, 1) := by decide +kernel
theorem dL_follows_385 : decode cL_follows 385 = .ok (.if_icmp .ne 58, 3) := by decide +kernel
theorem dL_follows_388 : decode cL_follows 388 = .ok (.aload 12, 2) := by decide +kernel
theorem dL_follows_390 : decode cL_follows 390 = .ok (.iconst 3, 1) := by decide +kernel
theorem dL_follows_391 : decode cL_follows 391 = .ok (.iload 30, 2) := by decide +kernel
theorem dL_follows_393 : decode cL_follows 393 = .ok (.imul, 1) := by decide +kernel
theorem dL_follows_394 : decode cL_follows 394 = .ok (.iaload, 1) := by decide +kernel
theorem dL_follows_395 : decode cL_follows 395 = .ok (.iconst 1, 1) := by decide +kernel
theorem dL_follows_396 : decode cL_follows 396 = .ok (.if_icmp .ne 47, 3) := by decide +kernel
theorem dL_follows_399 : decode cL_follows 399 = .ok (.iload 30, 2) := by decide +kernel
theorem dL_follows_401 : decode cL_follows 401 = .ok (.aload 12, 2) := by decide +kernel
theorem dL_follows_403 : decode cL_follows 403 = .ok (.invokestatic 93, 3) := by decide +kernel
theorem dL_follows_406 : decode cL_follows 406 = .ok (.iload 28, 2) := by decide +kernel
theorem dL_follows_408 : decode cL_follows 408 = .ok (.if_icmp .ne 35, 3) := by decide +kernel
theorem dL_follows_411 : decode cL_follows 411 = .ok (.iload 27, 2) := by decide +kernel
theorem dL_follows_413 : decode cL_follows 413 = .ok (.bipush 100, 2) := by decide +kernel
theorem dL_follows_415 : decode cL_follows 415 = .ok (.idiv, 1) := by decide +kernel
theorem dL_follows_416 : decode cL_follows 416 = .ok (.iload 30, 2) := by decide +kernel
theorem dL_follows_418 : decode cL_follows 418 = .ok (.aload_n 3, 1) := by decide +kernel
theorem dL_follows_419 : decode cL_follows 419 = .ok (.aload 5, 2) := by decide +kernel
theorem dL_follows_421 : decode cL_follows 421 = .ok (.aload 6, 2) := by decide +kernel
theorem dL_follows_423 : decode cL_follows 423 = .ok (.aload 7, 2) := by decide +kernel
theorem dL_follows_425 : decode cL_follows 425 = .ok (.aload 8, 2) := by decide +kernel
theorem dL_follows_427 : decode cL_follows 427 = .ok (.aload 11, 2) := by decide +kernel
theorem dL_follows_429 : decode cL_follows 429 = .ok (.aload 12, 2) := by decide +kernel
theorem dL_follows_431 : decode cL_follows 431 = .ok (.invokestatic 101, 3) := by decide +kernel
theorem dL_follows_434 : decode cL_follows 434 = .ok (.iload 29, 2) := by decide +kernel
theorem dL_follows_436 : decode cL_follows 436 = .ok (.if_icmp .ne 7, 3) := by decide +kernel
theorem dL_follows_439 : decode cL_follows 439 = .ok (.iconst 1, 1) := by decide +kernel
theorem dL_follows_440 : decode cL_follows 440 = .ok (.goto 4, 3) := by decide +kernel
theorem dL_follows_443 : decode cL_follows 443 = .ok (.iconst 0, 1) := by decide +kernel
theorem dL_follows_444 : decode cL_follows 444 = .ok (.istore 31, 2) := by decide +kernel
theorem dL_follows_446 : decode cL_follows 446 = .ok (.aload 15, 2) := by decide +kernel
theorem dL_follows_448 : decode cL_follows 448 = .ok (.iload 31, 2) := by decide +kernel
theorem dL_follows_450 : decode cL_follows 450 = .ok (.ifCond .eq 8, 3) := by decide +kernel
theorem dL_follows_453 : decode cL_follows 453 = .ok (.iload 23, 2) := by decide +kernel
theorem dL_follows_455 : decode cL_follows 455 = .ok (.goto 5, 3) := by decide +kernel
theorem dL_follows_458 : decode cL_follows 458 = .ok (.bipush 63, 2) := by decide +kernel
theorem dL_follows_460 : decode cL_follows 460 = .ok (.iload 31, 2) := by decide +kernel
theorem dL_follows_462 : decode cL_follows 462 = .ok (.ifCond .eq 17, 3) := by decide +kernel
theorem dL_follows_465 : decode cL_follows 465 = .ok (.iload 27, 2) := by decide +kernel
theorem dL_follows_467 : decode cL_follows 467 = .ok (.bipush 100, 2) := by decide +kernel
theorem dL_follows_469 : decode cL_follows 469 = .ok (.idiv, 1) := by decide +kernel
theorem dL_follows_470 : decode cL_follows 470 = .ok (.bipush 100, 2) := by decide +kernel
theorem dL_follows_472 : decode cL_follows 472 = .ok (.imul, 1) := by decide +kernel
theorem dL_follows_473 : decode cL_follows 473 = .ok (.iload 30, 2) := by decide +kernel
theorem dL_follows_475 : decode cL_follows 475 = .ok (.iadd, 1) := by decide +kernel
theorem dL_follows_476 : decode cL_follows 476 = .ok (.goto 8, 3) := by decide +kernel
theorem dL_follows_479 : decode cL_follows 479 = .ok (.aload 15, 2) := by decide +kernel
theorem dL_follows_481 : decode cL_follows 481 = .ok (.bipush 63, 2) := by decide +kernel
theorem dL_follows_483 : decode cL_follows 483 = .ok (.iaload, 1) := by decide +kernel
theorem dL_follows_484 : decode cL_follows 484 = .ok (.iastore, 1) := by decide +kernel
theorem dL_follows_485 : decode cL_follows 485 = .ok (.iload 23, 2) := by decide +kernel
theorem dL_follows_487 : decode cL_follows 487 = .ok (.iload 31, 2) := by decide +kernel
theorem dL_follows_489 : decode cL_follows 489 = .ok (.ifCond .eq 7, 3) := by decide +kernel
theorem dL_follows_492 : decode cL_follows 492 = .ok (.iconst 1, 1) := by decide +kernel
theorem dL_follows_493 : decode cL_follows 493 = .ok (.goto 4, 3) := by decide +kernel
theorem dL_follows_496 : decode cL_follows 496 = .ok (.iconst 0, 1) := by decide +kernel
theorem dL_follows_497 : decode cL_follows 497 = .ok (.iadd, 1) := by decide +kernel
theorem dL_follows_498 : decode cL_follows 498 = .ok (.istore 23, 2) := by decide +kernel
theorem dL_follows_500 : decode cL_follows 500 = .ok (.iinc 30 1, 3) := by decide +kernel
theorem dL_follows_503 : decode cL_follows 503 = .ok (.goto (-140), 3) := by decide +kernel
theorem dL_follows_506 : decode cL_follows 506 = .ok (.iinc 29 (-1), 3) := by decide +kernel
theorem dL_follows_509 : decode cL_follows 509 = .ok (.goto (-176), 3) := by decide +kernel
theorem dL_follows_512 : decode cL_follows 512 = .ok (.iconst 0, 1) := by decide +kernel
theorem dL_follows_513 : decode cL_follows 513 = .ok (.istore 25, 2) := by decide +kernel
theorem dL_follows_515 : decode cL_follows 515 = .ok (.goto (-339), 3) := by decide +kernel
theorem dL_follows_518 : decode cL_follows 518 = .ok (.iload 26, 2) := by decide +kernel
theorem dL_follows_520 : decode cL_follows 520 = .ok (.ifCond .eq 30, 3) := by decide +kernel
theorem dL_follows_523 : decode cL_follows 523 = .ok (.iload 22, 2) := by decide +kernel
theorem dL_follows_525 : decode cL_follows 525 = .ok (.iload 24, 2) := by decide +kernel
theorem dL_follows_527 : decode cL_follows 527 = .ok (.if_icmp .ne 23, 3) := by decide +kernel
theorem dL_follows_530 : decode cL_follows 530 = .ok (.aload_n 0, 1) := by decide +kernel
theorem dL_follows_531 : decode cL_follows 531 = .ok (.bipush 13, 2) := by decide +kernel
theorem dL_follows_533 : decode cL_follows 533 = .ok (.iload 24, 2) := by decide +kernel
theorem dL_follows_535 : decode cL_follows 535 = .ok (.iconst 0, 1) := by decide +kernel
theorem dL_follows_536 : decode cL_follows 536 = .ok (.iconst 0, 1) := by decide +kernel
theorem dL_follows_537 : decode cL_follows 537 = .ok (.iconst 0, 1) := by decide +kernel
theorem dL_follows_538 : decode cL_follows 538 = .ok (.invokestatic 138, 3) := by decide +kernel
theorem dL_follows_541 : decode cL_follows 541 = .ok (.bipush (-9), 2) := by decide +kernel
theorem dL_follows_543 : decode cL_follows 543 = .ok (.if_icmp .ne 7, 3) := by decide +kernel
theorem dL_follows_546 : decode cL_follows 546 = .ok (.iconst 1, 1) := by decide +kernel
theorem dL_follows_547 : decode cL_follows 547 = .ok (.goto 4, 3) := by decide +kernel
theorem dL_follows_550 : decode cL_follows 550 = .ok (.iconst 0, 1) := by decide +kernel
theorem dL_follows_551 : decode cL_follows 551 = .ok (.ireturn, 1) := by decide +kernel
theorem dL_entry_0 : decode cL_entry 0 = .ok (.aload 12, 2) := by decide +kernel
theorem dL_entry_2 : decode cL_entry 2 = .ok (.iconst 3, 1) := by decide +kernel
theorem dL_entry_3 : decode cL_entry 3 = .ok (.iload_n 2, 1) := by decide +kernel
theorem dL_entry_4 : decode cL_entry 4 = .ok (.imul, 1) := by decide +kernel
theorem dL_entry_5 : decode cL_entry 5 = .ok (.iaload, 1) := by decide +kernel
theorem dL_entry_6 : decode cL_entry 6 = .ok (.iconst 1, 1) := by decide +kernel
theorem dL_entry_7 : decode cL_entry 7 = .ok (.if_icmp .eq 24, 3) := by decide +kernel
theorem dL_entry_10 : decode cL_entry 10 = .ok (.aload_n 0, 1) := by decide +kernel
theorem dL_entry_11 : decode cL_entry 11 = .ok (.bipush 9, 2) := by decide +kernel
theorem dL_entry_13 : decode cL_entry 13 = .ok (.iload_n 1, 1) := by decide +kernel
theorem dL_entry_14 : decode cL_entry 14 = .ok (.iload_n 2, 1) := by decide +kernel
theorem dL_entry_15 : decode cL_entry 15 = .ok (.iconst 0, 1) := by decide +kernel
theorem dL_entry_16 : decode cL_entry 16 = .ok (.iconst 0, 1) := by decide +kernel
theorem dL_entry_17 : decode cL_entry 17 = .ok (.invokestatic 138, 3) := by decide +kernel
theorem dL_entry_20 : decode cL_entry 20 = .ok (.bipush (-9), 2) := by decide +kernel
theorem dL_entry_22 : decode cL_entry 22 = .ok (.if_icmp .ne 7, 3) := by decide +kernel
theorem dL_entry_25 : decode cL_entry 25 = .ok (.iconst 1, 1) := by decide +kernel
theorem dL_entry_26 : decode cL_entry 26 = .ok (.goto 4, 3) := by decide +kernel
theorem dL_entry_29 : decode cL_entry 29 = .ok (.iconst 0, 1) := by decide +kernel
theorem dL_entry_30 : decode cL_entry 30 = .ok (.ireturn, 1) := by decide +kernel
theorem dL_entry_31 : decode cL_entry 31 = .ok (.iload_n 2, 1) := by decide +kernel
theorem dL_entry_32 : decode cL_entry 32 = .ok (.aload 12, 2) := by decide +kernel
theorem dL_entry_34 : decode cL_entry 34 = .ok (.invokestatic 93, 3) := by decide +kernel
theorem dL_entry_37 : decode cL_entry 37 = .ok (.istore 14, 2) := by decide +kernel
theorem dL_entry_39 : decode cL_entry 39 = .ok (.aload_n 0, 1) := by decide +kernel
theorem dL_entry_40 : decode cL_entry 40 = .ok (.iload_n 1, 1) := by decide +kernel
theorem dL_entry_41 : decode cL_entry 41 = .ok (.iload_n 2, 1) := by decide +kernel
theorem dL_entry_42 : decode cL_entry 42 = .ok (.invokevirtual 39, 3) := by decide +kernel
theorem dL_entry_45 : decode cL_entry 45 = .ok (.iload 14, 2) := by decide +kernel
theorem dL_entry_47 : decode cL_entry 47 = .ok (.if_icmp .ne 72, 3) := by decide +kernel
theorem dL_entry_50 : decode cL_entry 50 = .ok (.aload_n 0, 1) := by decide +kernel
theorem dL_entry_51 : decode cL_entry 51 = .ok (.iload_n 1, 1) := by decide +kernel
theorem dL_entry_52 : decode cL_entry 52 = .ok (.iload_n 2, 1) := by decide +kernel
theorem dL_entry_53 : decode cL_entry 53 = .ok (.invokevirtual 205, 3) := by decide +kernel
theorem dL_entry_56 : decode cL_entry 56 = .ok (.iload 14, 2) := by decide +kernel
theorem dL_entry_58 : decode cL_entry 58 = .ok (.if_icmp .ne 61, 3) := by decide +kernel
theorem dL_entry_61 : decode cL_entry 61 = .ok (.aload_n 0, 1) := by decide +kernel
theorem dL_entry_62 : decode cL_entry 62 = .ok (.iload_n 1, 1) := by decide +kernel
theorem dL_entry_63 : decode cL_entry 63 = .ok (.iload_n 2, 1) := by decide +kernel
theorem dL_entry_64 : decode cL_entry 64 = .ok (.invokevirtual 208, 3) := by decide +kernel
theorem dL_entry_67 : decode cL_entry 67 = .ok (.iload_n 1, 1) := by decide +kernel
theorem dL_entry_68 : decode cL_entry 68 = .ok (.iload_n 2, 1) := by decide +kernel
theorem dL_entry_69 : decode cL_entry 69 = .ok (.aload 4, 2) := by decide +kernel
theorem dL_entry_71 : decode cL_entry 71 = .ok (.aload 6, 2) := by decide +kernel
theorem dL_entry_73 : decode cL_entry 73 = .ok (.aload 7, 2) := by decide +kernel
theorem dL_entry_75 : decode cL_entry 75 = .ok (.aload 8, 2) := by decide +kernel
theorem dL_entry_77 : decode cL_entry 77 = .ok (.aload 9, 2) := by decide +kernel
theorem dL_entry_79 : decode cL_entry 79 = .ok (.aload 11, 2) := by decide +kernel
theorem dL_entry_81 : decode cL_entry 81 = .ok (.aload 12, 2) := by decide +kernel
theorem dL_entry_83 : decode cL_entry 83 = .ok (.invokestatic 101, 3) := by decide +kernel
theorem dL_entry_86 : decode cL_entry 86 = .ok (.if_icmp .ne 33, 3) := by decide +kernel
theorem dL_entry_89 : decode cL_entry 89 = .ok (.aload_n 0, 1) := by decide +kernel
theorem dL_entry_90 : decode cL_entry 90 = .ok (.iload_n 1, 1) := by decide +kernel
theorem dL_entry_91 : decode cL_entry 91 = .ok (.iload_n 2, 1) := by decide +kernel
theorem dL_entry_92 : decode cL_entry 92 = .ok (.invokevirtual 211, 3) := by decide +kernel
theorem dL_entry_95 : decode cL_entry 95 = .ok (.iload_n 1, 1) := by decide +kernel
theorem dL_entry_96 : decode cL_entry 96 = .ok (.iload_n 2, 1) := by decide +kernel
theorem dL_entry_97 : decode cL_entry 97 = .ok (.aload 4, 2) := by decide +kernel
theorem dL_entry_99 : decode cL_entry 99 = .ok (.aload 6, 2) := by decide +kernel
theorem dL_entry_101 : decode cL_entry 101 = .ok (.aload 7, 2) := by decide +kernel
theorem dL_entry_103 : decode cL_entry 103 = .ok (.aload 8, 2) := by decide +kernel
theorem dL_entry_105 : decode cL_entry 105 = .ok (.aload 9, 2) := by decide +kernel
theorem dL_entry_107 : decode cL_entry 107 = .ok (.aload 11, 2) := by decide +kernel
theorem dL_entry_109 : decode cL_entry 109 = .ok (.invokestatic 154, 3) := by decide +kernel
theorem dL_entry_112 : decode cL_entry 112 = .ok (.if_icmp .ne 7, 3) := by decide +kernel
theorem dL_entry_115 : decode cL_entry 115 = .ok (.iconst 1, 1) := by decide +kernel
theorem dL_entry_116 : decode cL_entry 116 = .ok (.goto 4, 3) := by decide +kernel
theorem dL_entry_119 : decode cL_entry 119 = .ok (.iconst 0, 1) := by decide +kernel
theorem dL_entry_120 : decode cL_entry 120 = .ok (.istore 15, 2) := by decide +kernel
theorem dL_entry_122 : decode cL_entry 122 = .ok (.iconst 0, 1) := by decide +kernel
theorem dL_entry_123 : decode cL_entry 123 = .ok (.istore 16, 2) := by decide +kernel
theorem dL_entry_125 : decode cL_entry 125 = .ok (.iload 16, 2) := by decide +kernel
theorem dL_entry_127 : decode cL_entry 127 = .ok (.aload 4, 2) := by decide +kernel
theorem dL_entry_129 : decode cL_entry 129 = .ok (.iconst 2, 1) := by decide +kernel
theorem dL_entry_130 : decode cL_entry 130 = .ok (.iaload, 1) := by decide +kernel
theorem dL_entry_131 : decode cL_entry 131 = .ok (.if_icmp .ge 145, 3) := by decide +kernel
theorem dL_entry_134 : decode cL_entry 134 = .ok (.iload 15, 2) := by decide +kernel
theorem dL_entry_136 : decode cL_entry 136 = .ok (.ifCond .eq 140, 3) := by decide +kernel
theorem dL_entry_139 : decode cL_entry 139 = .ok (.iconst 0, 1) := by decide +kernel
theorem dL_entry_140 : decode cL_entry 140 = .ok (.istore 17, 2) := by decide +kernel
theorem dL_entry_142 : decode cL_entry 142 = .ok (.iconst 0, 1) := by decide +kernel
theorem dL_entry_143 : decode cL_entry 143 = .ok (.istore 18, 2) := by decide +kernel
theorem dL_entry_145 : decode cL_entry 145 = .ok (.iload 18, 2) := by decide +kernel
theorem dL_entry_147 : decode cL_entry 147 = .ok (.bipush 60, 2) := by decide +kernel
theorem dL_entry_149 : decode cL_entry 149 = .ok (.if_icmp .ge 82, 3) := by decide +kernel
theorem dL_entry_152 : decode cL_entry 152 = .ok (.aload 13, 2) := by decide +kernel
theorem dL_entry_154 : decode cL_entry 154 = .ok (.iconst 3, 1) := by decide +kernel
theorem dL_entry_155 : decode cL_entry 155 = .ok (.iload_n 2, 1) := by decide +kernel
theorem dL_entry_156 : decode cL_entry 156 = .ok (.imul, 1) := by decide +kernel
theorem dL_entry_157 : decode cL_entry 157 = .ok (.iload 16, 2) := by decide +kernel
theorem dL_entry_159 : decode cL_entry 159 = .ok (.iadd, 1) := by decide +kernel
theorem dL_entry_160 : decode cL_entry 160 = .ok (.laload, 1) := by decide +kernel
theorem dL_entry_161 : decode cL_entry 161 = .ok (.iload 18, 2) := by decide +kernel
theorem dL_entry_163 : decode cL_entry 163 = .ok (.lshr, 1) := by decide +kernel
theorem dL_entry_164 : decode cL_entry 164 = .ok (.lconst 1, 1) := by decide +kernel
theorem dL_entry_165 : decode cL_entry 165 = .ok (.land, 1) := by decide +kernel
theorem dL_entry_166 : decode cL_entry 166 = .ok (.lconst 1, 1) := by decide +kernel
theorem dL_entry_167 : decode cL_entry 167 = .ok (.lcmp, 1) := by decide +kernel
theorem dL_entry_168 : decode cL_entry 168 = .ok (.ifCond .ne 7, 3) := by decide +kernel
theorem dL_entry_171 : decode cL_entry 171 = .ok (.iconst 1, 1) := by decide +kernel
theorem dL_entry_172 : decode cL_entry 172 = .ok (.goto 4, 3) := by decide +kernel
theorem dL_entry_175 : decode cL_entry 175 = .ok (.iconst 0, 1) := by decide +kernel
theorem dL_entry_176 : decode cL_entry 176 = .ok (.istore 19, 2) := by decide +kernel
theorem dL_entry_178 : decode cL_entry 178 = .ok (.iload 15, 2) := by decide +kernel
theorem dL_entry_180 : decode cL_entry 180 = .ok (.ifCond .eq 27, 3) := by decide +kernel
theorem dL_entry_183 : decode cL_entry 183 = .ok (.iload 19, 2) := by decide +kernel
theorem dL_entry_185 : decode cL_entry 185 = .ok (.ifCond .eq 18, 3) := by decide +kernel
theorem dL_entry_188 : decode cL_entry 188 = .ok (.aload_n 0, 1) := by decide +kernel
theorem dL_entry_189 : decode cL_entry 189 = .ok (.iload_n 1, 1) := by decide +kernel
theorem dL_entry_190 : decode cL_entry 190 = .ok (.iload_n 2, 1) := by decide +kernel
theorem dL_entry_191 : decode cL_entry 191 = .ok (.iload 16, 2) := by decide +kernel
theorem dL_entry_193 : decode cL_entry 193 = .ok (.iload 17, 2) := by decide +kernel
theorem dL_entry_195 : decode cL_entry 195 = .ok (.invokevirtual 214, 3) := by decide +kernel
theorem dL_entry_198 : decode cL_entry 198 = .ok (.iload 18, 2) := by decide +kernel
theorem dL_entry_200 : decode cL_entry 200 = .ok (.if_icmp .ne 7, 3) := by decide +kernel
theorem dL_entry_203 : decode cL_entry 203 = .ok (.iconst 1, 1) := by decide +kernel
theorem dL_entry_204 : decode cL_entry 204 = .ok (.goto 4, 3) := by decide +kernel
theorem dL_entry_207 : decode cL_entry 207 = .ok (.iconst 0, 1) := by decide +kernel
theorem dL_entry_208 : decode cL_entry 208 = .ok (.istore 15, 2) := by decide +kernel
theorem dL_entry_210 : decode cL_entry 210 = .ok (.iload 17, 2) := by decide +kernel
theorem dL_entry_212 : decode cL_entry 212 = .ok (.iload 19, 2) := by decide +kernel
theorem dL_entry_214 : decode cL_entry 214 = .ok (.ifCond .eq 7, 3) := by decide +kernel
theorem dL_entry_217 : decode cL_entry 217 = .ok (.iconst 1, 1) := by decide +kernel
theorem dL_entry_218 : decode cL_entry 218 = .ok (.goto 4, 3) := by decide +kernel
theorem dL_entry_221 : decode cL_entry 221 = .ok (.iconst 0, 1) := by decide +kernel
theorem dL_entry_222 : decode cL_entry 222 = .ok (.iadd, 1) := by decide +kernel
theorem dL_entry_223 : decode cL_entry 223 = .ok (.istore 17, 2) := by decide +kernel
theorem dL_entry_225 : decode cL_entry 225 = .ok (.iinc 18 1, 3) := by decide +kernel
theorem dL_entry_228 : decode cL_entry 228 = .ok (.goto (-83), 3) := by decide +kernel
theorem dL_entry_231 : decode cL_entry 231 = .ok (.iload 15, 2) := by decide +kernel
theorem dL_entry_233 : decode cL_entry 233 = .ok (.ifCond .eq 34, 3) := by decide +kernel
theorem dL_entry_236 : decode cL_entry 236 = .ok (.aload_n 0, 1) := by decide +kernel
theorem dL_entry_237 : decode cL_entry 237 = .ok (.iload_n 1, 1) := by decide +kernel
theorem dL_entry_238 : decode cL_entry 238 = .ok (.iload_n 2, 1) := by decide +kernel
theorem dL_entry_239 : decode cL_entry 239 = .ok (.iload 16, 2) := by decide +kernel
theorem dL_entry_241 : decode cL_entry 241 = .ok (.invokevirtual 217, 3) := by decide +kernel
theorem dL_entry_244 : decode cL_entry 244 = .ok (.iload 17, 2) := by decide +kernel
theorem dL_entry_246 : decode cL_entry 246 = .ok (.if_icmp .ne 21, 3) := by decide +kernel
theorem dL_entry_249 : decode cL_entry 249 = .ok (.aload_n 0, 1) := by decide +kernel
theorem dL_entry_250 : decode cL_entry 250 = .ok (.iload_n 1, 1) := by decide +kernel
theorem dL_entry_251 : decode cL_entry 251 = .ok (.iload_n 2, 1) := by decide +kernel
theorem dL_entry_252 : decode cL_entry 252 = .ok (.iload 16, 2) := by decide +kernel
theorem dL_entry_254 : decode cL_entry 254 = .ok (.iload 17, 2) := by decide +kernel
theorem dL_entry_256 : decode cL_entry 256 = .ok (.invokevirtual 214, 3) := by decide +kernel
theorem dL_entry_259 : decode cL_entry 259 = .ok (.iconst (-1), 1) := by decide +kernel
theorem dL_entry_260 : decode cL_entry 260 = .ok (.if_icmp .ne 7, 3) := by decide +kernel
theorem dL_entry_263 : decode cL_entry 263 = .ok (.iconst 1, 1) := by decide +kernel
theorem dL_entry_264 : decode cL_entry 264 = .ok (.goto 4, 3) := by decide +kernel
theorem dL_entry_267 : decode cL_entry 267 = .ok (.iconst 0, 1) := by decide +kernel
theorem dL_entry_268 : decode cL_entry 268 = .ok (.istore 15, 2) := by decide +kernel
theorem dL_entry_270 : decode cL_entry 270 = .ok (.iinc 16 1, 3) := by decide +kernel
theorem dL_entry_273 : decode cL_entry 273 = .ok (.goto (-148), 3) := by decide +kernel
theorem dL_entry_276 : decode cL_entry 276 = .ok (.iload_n 3, 1) := by decide +kernel
theorem dL_entry_277 : decode cL_entry 277 = .ok (.iconst 4, 1) := by decide +kernel
theorem dL_entry_278 : decode cL_entry 278 = .ok (.invokestatic 119, 3) := by decide +kernel
theorem dL_entry_281 : decode cL_entry 281 = .ok (.istore 16, 2) := by decide +kernel
theorem dL_entry_283 : decode cL_entry 283 = .ok (.iload_n 3, 1) := by decide +kernel
theorem dL_entry_284 : decode cL_entry 284 = .ok (.iconst 2, 1) := by decide +kernel
theorem dL_entry_285 : decode cL_entry 285 = .ok (.ishr, 1) := by decide +kernel
theorem dL_entry_286 : decode cL_entry 286 = .ok (.iconst 2, 1) := by decide +kernel
theorem dL_entry_287 : decode cL_entry 287 = .ok (.invokestatic 119, 3) := by decide +kernel
theorem dL_entry_290 : decode cL_entry 290 = .ok (.istore 17, 2) := by decide +kernel
theorem dL_entry_292 : decode cL_entry 292 = .ok (.iload 15, 2) := by decide +kernel
theorem dL_entry_294 : decode cL_entry 294 = .ok (.ifCond .eq 47, 3) := by decide +kernel
theorem dL_entry_297 : decode cL_entry 297 = .ok (.aload_n 0, 1) := by decide +kernel
theorem dL_entry_298 : decode cL_entry 298 = .ok (.iload_n 1, 1) := by decide +kernel
theorem dL_entry_299 : decode cL_entry 299 = .ok (.iload 16, 2) := by decide +kernel
theorem dL_entry_301 : decode cL_entry 301 = .ok (.iload_n 2, 1) := by decide +kernel
theorem dL_entry_302 : decode cL_entry 302 = .ok (.iload 17, 2) := by decide +kernel
theorem dL_entry_304 : decode cL_entry 304 = .ok (.invokevirtual 220, 3) := by decide +kernel
theorem dL_entry_307 : decode cL_entry 307 = .ok (.iload_n 1, 1) := by decide +kernel
theorem dL_entry_308 : decode cL_entry 308 = .ok (.iload 16, 2) := by decide +kernel
theorem dL_entry_310 : decode cL_entry 310 = .ok (.iload_n 2, 1) := by decide +kernel
theorem dL_entry_311 : decode cL_entry 311 = .ok (.iload 17, 2) := by decide +kernel
theorem dL_entry_313 : decode cL_entry 313 = .ok (.aload 4, 2) := by decide +kernel
theorem dL_entry_315 : decode cL_entry 315 = .ok (.aload 6, 2) := by decide +kernel
theorem dL_entry_317 : decode cL_entry 317 = .ok (.aload 7, 2) := by decide +kernel
theorem dL_entry_319 : decode cL_entry 319 = .ok (.aload 8, 2) := by decide +kernel
theorem dL_entry_321 : decode cL_entry 321 = .ok (.aload 9, 2) := by decide +kernel
theorem dL_entry_323 : decode cL_entry 323 = .ok (.aload 10, 2) := by decide +kernel
theorem dL_entry_325 : decode cL_entry 325 = .ok (.aload 11, 2) := by decide +kernel
theorem dL_entry_327 : decode cL_entry 327 = .ok (.aload 12, 2) := by decide +kernel
theorem dL_entry_329 : decode cL_entry 329 = .ok (.aload 13, 2) := by decide +kernel
theorem dL_entry_331 : decode cL_entry 331 = .ok (.invokestatic 122, 3) := by decide +kernel
theorem dL_entry_334 : decode cL_entry 334 = .ok (.if_icmp .ne 7, 3) := by decide +kernel
theorem dL_entry_337 : decode cL_entry 337 = .ok (.iconst 1, 1) := by decide +kernel
theorem dL_entry_338 : decode cL_entry 338 = .ok (.goto 4, 3) := by decide +kernel
theorem dL_entry_341 : decode cL_entry 341 = .ok (.iconst 0, 1) := by decide +kernel
theorem dL_entry_342 : decode cL_entry 342 = .ok (.ireturn, 1) := by decide +kernel
theorem dL_master_0 : decode cL_master 0 = .ok (.iconst 0, 1) := by decide +kernel
theorem dL_master_1 : decode cL_master 1 = .ok (.istore 13, 2) := by decide +kernel
theorem dL_master_3 : decode cL_master 3 = .ok (.iconst 0, 1) := by decide +kernel
theorem dL_master_4 : decode cL_master 4 = .ok (.istore 14, 2) := by decide +kernel
theorem dL_master_6 : decode cL_master 6 = .ok (.iconst 0, 1) := by decide +kernel
theorem dL_master_7 : decode cL_master 7 = .ok (.istore 15, 2) := by decide +kernel
theorem dL_master_9 : decode cL_master 9 = .ok (.iconst 0, 1) := by decide +kernel
theorem dL_master_10 : decode cL_master 10 = .ok (.istore 16, 2) := by decide +kernel
theorem dL_master_12 : decode cL_master 12 = .ok (.iconst 0, 1) := by decide +kernel
theorem dL_master_13 : decode cL_master 13 = .ok (.istore 17, 2) := by decide +kernel
theorem dL_master_15 : decode cL_master 15 = .ok (.iload 17, 2) := by decide +kernel
theorem dL_master_17 : decode cL_master 17 = .ok (.aload_n 3, 1) := by decide +kernel
theorem dL_master_18 : decode cL_master 18 = .ok (.iconst 0, 1) := by decide +kernel
theorem dL_master_19 : decode cL_master 19 = .ok (.iaload, 1) := by decide +kernel
theorem dL_master_20 : decode cL_master 20 = .ok (.if_icmp .ge 198, 3) := by decide +kernel
theorem dL_master_23 : decode cL_master 23 = .ok (.iconst 0, 1) := by decide +kernel
theorem dL_master_24 : decode cL_master 24 = .ok (.istore 18, 2) := by decide +kernel
theorem dL_master_26 : decode cL_master 26 = .ok (.iconst 0, 1) := by decide +kernel
theorem dL_master_27 : decode cL_master 27 = .ok (.istore 19, 2) := by decide +kernel
theorem dL_master_29 : decode cL_master 29 = .ok (.iload 19, 2) := by decide +kernel
theorem dL_master_31 : decode cL_master 31 = .ok (.aload_n 3, 1) := by decide +kernel
theorem dL_master_32 : decode cL_master 32 = .ok (.iconst 2, 1) := by decide +kernel
theorem dL_master_33 : decode cL_master 33 = .ok (.iaload, 1) := by decide +kernel
theorem dL_master_34 : decode cL_master 34 = .ok (.if_icmp .ge 57, 3) := by decide +kernel
theorem dL_master_37 : decode cL_master 37 = .ok (.iload 18, 2) := by decide +kernel
theorem dL_master_39 : decode cL_master 39 = .ok (.aload 11, 2) := by decide +kernel
theorem dL_master_41 : decode cL_master 41 = .ok (.iconst 3, 1) := by decide +kernel
theorem dL_master_42 : decode cL_master 42 = .ok (.iload 17, 2) := by decide +kernel
theorem dL_master_44 : decode cL_master 44 = .ok (.imul, 1) := by decide +kernel
theorem dL_master_45 : decode cL_master 45 = .ok (.iconst 1, 1) := by decide +kernel
theorem dL_master_46 : decode cL_master 46 = .ok (.iadd, 1) := by decide +kernel
theorem dL_master_47 : decode cL_master 47 = .ok (.iaload, 1) := by decide +kernel
theorem dL_master_48 : decode cL_master 48 = .ok (.aload 4, 2) := by decide +kernel
theorem dL_master_50 : decode cL_master 50 = .ok (.invokestatic 116, 3) := by decide +kernel
theorem dL_master_53 : decode cL_master 53 = .ok (.iload 19, 2) := by decide +kernel
theorem dL_master_55 : decode cL_master 55 = .ok (.ishr, 1) := by decide +kernel
theorem dL_master_56 : decode cL_master 56 = .ok (.iconst 1, 1) := by decide +kernel
theorem dL_master_57 : decode cL_master 57 = .ok (.iand, 1) := by decide +kernel
theorem dL_master_58 : decode cL_master 58 = .ok (.iconst 1, 1) := by decide +kernel
theorem dL_master_59 : decode cL_master 59 = .ok (.if_icmp .ne 22, 3) := by decide +kernel
theorem dL_master_62 : decode cL_master 62 = .ok (.aload 12, 2) := by decide +kernel
theorem dL_master_64 : decode cL_master 64 = .ok (.iconst 3, 1) := by decide +kernel
theorem dL_master_65 : decode cL_master 65 = .ok (.iload 17, 2) := by decide +kernel
theorem dL_master_67 : decode cL_master 67 = .ok (.imul, 1) := by decide +kernel
theorem dL_master_68 : decode cL_master 68 = .ok (.iload 19, 2) := by decide +kernel
theorem dL_master_70 : decode cL_master 70 = .ok (.iadd, 1) := by decide +kernel
theorem dL_master_71 : decode cL_master 71 = .ok (.laload, 1) := by decide +kernel
theorem dL_master_72 : decode cL_master 72 = .ok (.lconst 0, 1) := by decide +kernel
theorem dL_master_73 : decode cL_master 73 = .ok (.lcmp, 1) := by decide +kernel
theorem dL_master_74 : decode cL_master 74 = .ok (.ifCond .ne 7, 3) := by decide +kernel
theorem dL_master_77 : decode cL_master 77 = .ok (.iconst 1, 1) := by decide +kernel
theorem dL_master_78 : decode cL_master 78 = .ok (.goto 4, 3) := by decide +kernel
theorem dL_master_81 : decode cL_master 81 = .ok (.iconst 0, 1) := by decide +kernel
theorem dL_master_82 : decode cL_master 82 = .ok (.ior, 1) := by decide +kernel
theorem dL_master_83 : decode cL_master 83 = .ok (.istore 18, 2) := by decide +kernel
theorem dL_master_85 : decode cL_master 85 = .ok (.iinc 19 1, 3) := by decide +kernel
theorem dL_master_88 : decode cL_master 88 = .ok (.goto (-59), 3) := by decide +kernel
theorem dL_master_91 : decode cL_master 91 = .ok (.iload 13, 2) := by decide +kernel
theorem dL_master_93 : decode cL_master 93 = .ok (.aload 11, 2) := by decide +kernel
theorem dL_master_95 : decode cL_master 95 = .ok (.iconst 3, 1) := by decide +kernel
theorem dL_master_96 : decode cL_master 96 = .ok (.iload 17, 2) := by decide +kernel
theorem dL_master_98 : decode cL_master 98 = .ok (.imul, 1) := by decide +kernel
theorem dL_master_99 : decode cL_master 99 = .ok (.iaload, 1) := by decide +kernel
theorem dL_master_100 : decode cL_master 100 = .ok (.iconst 1, 1) := by decide +kernel
theorem dL_master_101 : decode cL_master 101 = .ok (.if_icmp .ne 7, 3) := by decide +kernel
theorem dL_master_104 : decode cL_master 104 = .ok (.iconst 1, 1) := by decide +kernel
theorem dL_master_105 : decode cL_master 105 = .ok (.goto 4, 3) := by decide +kernel
theorem dL_master_108 : decode cL_master 108 = .ok (.iconst 0, 1) := by decide +kernel
theorem dL_master_109 : decode cL_master 109 = .ok (.iadd, 1) := by decide +kernel
theorem dL_master_110 : decode cL_master 110 = .ok (.istore 13, 2) := by decide +kernel
theorem dL_master_112 : decode cL_master 112 = .ok (.iload 14, 2) := by decide +kernel
theorem dL_master_114 : decode cL_master 114 = .ok (.aload 11, 2) := by decide +kernel
theorem dL_master_116 : decode cL_master 116 = .ok (.iconst 3, 1) := by decide +kernel
theorem dL_master_117 : decode cL_master 117 = .ok (.iload 17, 2) := by decide +kernel
theorem dL_master_119 : decode cL_master 119 = .ok (.imul, 1) := by decide +kernel
theorem dL_master_120 : decode cL_master 120 = .ok (.iaload, 1) := by decide +kernel
theorem dL_master_121 : decode cL_master 121 = .ok (.iconst 1, 1) := by decide +kernel
theorem dL_master_122 : decode cL_master 122 = .ok (.if_icmp .ne 31, 3) := by decide +kernel
theorem dL_master_125 : decode cL_master 125 = .ok (.iload_n 1, 1) := by decide +kernel
theorem dL_master_126 : decode cL_master 126 = .ok (.iload 17, 2) := by decide +kernel
theorem dL_master_128 : decode cL_master 128 = .ok (.aload_n 3, 1) := by decide +kernel
theorem dL_master_129 : decode cL_master 129 = .ok (.aload 5, 2) := by decide +kernel
theorem dL_master_131 : decode cL_master 131 = .ok (.aload 6, 2) := by decide +kernel
theorem dL_master_133 : decode cL_master 133 = .ok (.aload 7, 2) := by decide +kernel
theorem dL_master_135 : decode cL_master 135 = .ok (.aload 8, 2) := by decide +kernel
theorem dL_master_137 : decode cL_master 137 = .ok (.aload 10, 2) := by decide +kernel
theorem dL_master_139 : decode cL_master 139 = .ok (.aload 11, 2) := by decide +kernel
theorem dL_master_141 : decode cL_master 141 = .ok (.invokestatic 101, 3) := by decide +kernel
theorem dL_master_144 : decode cL_master 144 = .ok (.bipush 99, 2) := by decide +kernel
theorem dL_master_146 : decode cL_master 146 = .ok (.if_icmp .le 7, 3) := by decide +kernel
theorem dL_master_149 : decode cL_master 149 = .ok (.iconst 1, 1) := by decide +kernel
theorem dL_master_150 : decode cL_master 150 = .ok (.goto 4, 3) := by decide +kernel
theorem dL_master_153 : decode cL_master 153 = .ok (.iconst 0, 1) := by decide +kernel
theorem dL_master_154 : decode cL_master 154 = .ok (.iadd, 1) := by decide +kernel
theorem dL_master_155 : decode cL_master 155 = .ok (.istore 14, 2) := by decide +kernel
theorem dL_master_157 : decode cL_master 157 = .ok (.iload 15, 2) := by decide +kernel
theorem dL_master_159 : decode cL_master 159 = .ok (.aload 11, 2) := by decide +kernel
theorem dL_master_161 : decode cL_master 161 = .ok (.iconst 3, 1) := by decide +kernel
theorem dL_master_162 : decode cL_master 162 = .ok (.iload 17, 2) := by decide +kernel
theorem dL_master_164 : decode cL_master 164 = .ok (.imul, 1) := by decide +kernel
theorem dL_master_165 : decode cL_master 165 = .ok (.iaload, 1) := by decide +kernel
theorem dL_master_166 : decode cL_master 166 = .ok (.iconst 1, 1) := by decide +kernel
theorem dL_master_167 : decode cL_master 167 = .ok (.if_icmp .ne 19, 3) := by decide +kernel
theorem dL_master_170 : decode cL_master 170 = .ok (.iload 17, 2) := by decide +kernel
theorem dL_master_172 : decode cL_master 172 = .ok (.aload 11, 2) := by decide +kernel
theorem dL_master_174 : decode cL_master 174 = .ok (.invokestatic 93, 3) := by decide +kernel
theorem dL_master_177 : decode cL_master 177 = .ok (.bipush (-2), 2) := by decide +kernel
theorem dL_master_179 : decode cL_master 179 = .ok (.if_icmp .ne 7, 3) := by decide +kernel
theorem dL_master_182 : decode cL_master 182 = .ok (.iconst 1, 1) := by decide +kernel
theorem dL_master_183 : decode cL_master 183 = .ok (.goto 4, 3) := by decide +kernel
theorem dL_master_186 : decode cL_master 186 = .ok (.iconst 0, 1) := by decide +kernel
theorem dL_master_187 : decode cL_master 187 = .ok (.iadd, 1) := by decide +kernel
theorem dL_master_188 : decode cL_master 188 = .ok (.istore 15, 2) := by decide +kernel
theorem dL_master_190 : decode cL_master 190 = .ok (.iload 16, 2) := by decide +kernel
theorem dL_master_192 : decode cL_master 192 = .ok (.aload 11, 2) := by decide +kernel
theorem dL_master_194 : decode cL_master 194 = .ok (.iconst 3, 1) := by decide +kernel
theorem dL_master_195 : decode cL_master 195 = .ok (.iload 17, 2) := by decide +kernel
theorem dL_master_197 : decode cL_master 197 = .ok (.imul, 1) := by decide +kernel
theorem dL_master_198 : decode cL_master 198 = .ok (.iaload, 1) := by decide +kernel
theorem dL_master_199 : decode cL_master 199 = .ok (.iconst 1, 1) := by decide +kernel
theorem dL_master_200 : decode cL_master 200 = .ok (.if_icmp .ne 8, 3) := by decide +kernel
theorem dL_master_203 : decode cL_master 203 = .ok (.iload 18, 2) := by decide +kernel
theorem dL_master_205 : decode cL_master 205 = .ok (.goto 4, 3) := by decide +kernel
theorem dL_master_208 : decode cL_master 208 = .ok (.iconst 0, 1) := by decide +kernel
theorem dL_master_209 : decode cL_master 209 = .ok (.iadd, 1) := by decide +kernel
theorem dL_master_210 : decode cL_master 210 = .ok (.istore 16, 2) := by decide +kernel
theorem dL_master_212 : decode cL_master 212 = .ok (.iinc 17 1, 3) := by decide +kernel
theorem dL_master_215 : decode cL_master 215 = .ok (.goto (-200), 3) := by decide +kernel
theorem dL_master_218 : decode cL_master 218 = .ok (.aload_n 0, 1) := by decide +kernel
theorem dL_master_219 : decode cL_master 219 = .ok (.iload_n 1, 1) := by decide +kernel
theorem dL_master_220 : decode cL_master 220 = .ok (.invokevirtual 223, 3) := by decide +kernel
theorem dL_master_223 : decode cL_master 223 = .ok (.iload 13, 2) := by decide +kernel
theorem dL_master_225 : decode cL_master 225 = .ok (.if_icmp .ne 61, 3) := by decide +kernel
theorem dL_master_228 : decode cL_master 228 = .ok (.aload_n 0, 1) := by decide +kernel
theorem dL_master_229 : decode cL_master 229 = .ok (.iload_n 1, 1) := by decide +kernel
theorem dL_master_230 : decode cL_master 230 = .ok (.iconst 0, 1) := by decide +kernel
theorem dL_master_231 : decode cL_master 231 = .ok (.invokevirtual 226, 3) := by decide +kernel
theorem dL_master_234 : decode cL_master 234 = .ok (.iload 14, 2) := by decide +kernel
theorem dL_master_236 : decode cL_master 236 = .ok (.if_icmp .ne 50, 3) := by decide +kernel
theorem dL_master_239 : decode cL_master 239 = .ok (.aload_n 0, 1) := by decide +kernel
theorem dL_master_240 : decode cL_master 240 = .ok (.iload_n 1, 1) := by decide +kernel
theorem dL_master_241 : decode cL_master 241 = .ok (.iconst 1, 1) := by decide +kernel
theorem dL_master_242 : decode cL_master 242 = .ok (.invokevirtual 226, 3) := by decide +kernel
theorem dL_master_245 : decode cL_master 245 = .ok (.iload 15, 2) := by decide +kernel
theorem dL_master_247 : decode cL_master 247 = .ok (.if_icmp .ne 39, 3) := by decide +kernel
theorem dL_master_250 : decode cL_master 250 = .ok (.aload_n 0, 1) := by decide +kernel
theorem dL_master_251 : decode cL_master 251 = .ok (.iload_n 1, 1) := by decide +kernel
theorem dL_master_252 : decode cL_master 252 = .ok (.iconst 2, 1) := by decide +kernel
theorem dL_master_253 : decode cL_master 253 = .ok (.invokevirtual 226, 3) := by decide +kernel
theorem dL_master_256 : decode cL_master 256 = .ok (.iload 16, 2) := by decide +kernel
theorem dL_master_258 : decode cL_master 258 = .ok (.if_icmp .ne 28, 3) := by decide +kernel
theorem dL_master_261 : decode cL_master 261 = .ok (.aload_n 0, 1) := by decide +kernel
theorem dL_master_262 : decode cL_master 262 = .ok (.iload_n 1, 1) := by decide +kernel
theorem dL_master_263 : decode cL_master 263 = .ok (.invokevirtual 229, 3) := by decide +kernel
theorem dL_master_266 : decode cL_master 266 = .ok (.iload_n 1, 1) := by decide +kernel
theorem dL_master_267 : decode cL_master 267 = .ok (.aload_n 3, 1) := by decide +kernel
theorem dL_master_268 : decode cL_master 268 = .ok (.aload 5, 2) := by decide +kernel
theorem dL_master_270 : decode cL_master 270 = .ok (.aload 6, 2) := by decide +kernel
theorem dL_master_272 : decode cL_master 272 = .ok (.aload 7, 2) := by decide +kernel
theorem dL_master_274 : decode cL_master 274 = .ok (.aload 10, 2) := by decide +kernel
theorem dL_master_276 : decode cL_master 276 = .ok (.invokestatic 150, 3) := by decide +kernel
theorem dL_master_279 : decode cL_master 279 = .ok (.if_icmp .ne 7, 3) := by decide +kernel
theorem dL_master_282 : decode cL_master 282 = .ok (.iconst 1, 1) := by decide +kernel
theorem dL_master_283 : decode cL_master 283 = .ok (.goto 4, 3) := by decide +kernel
theorem dL_master_286 : decode cL_master 286 = .ok (.iconst 0, 1) := by decide +kernel
theorem dL_master_287 : decode cL_master 287 = .ok (.istore 17, 2) := by decide +kernel
theorem dL_master_289 : decode cL_master 289 = .ok (.iconst 0, 1) := by decide +kernel
theorem dL_master_290 : decode cL_master 290 = .ok (.istore 18, 2) := by decide +kernel
theorem dL_master_292 : decode cL_master 292 = .ok (.iload 18, 2) := by decide +kernel
theorem dL_master_294 : decode cL_master 294 = .ok (.iconst 4, 1) := by decide +kernel
theorem dL_master_295 : decode cL_master 295 = .ok (.if_icmp .ge 41, 3) := by decide +kernel
theorem dL_master_298 : decode cL_master 298 = .ok (.iload 17, 2) := by decide +kernel
theorem dL_master_300 : decode cL_master 300 = .ok (.ifCond .eq 27, 3) := by decide +kernel
theorem dL_master_303 : decode cL_master 303 = .ok (.aload_n 0, 1) := by decide +kernel
theorem dL_master_304 : decode cL_master 304 = .ok (.iload_n 1, 1) := by decide +kernel
theorem dL_master_305 : decode cL_master 305 = .ok (.iload 18, 2) := by decide +kernel
theorem dL_master_307 : decode cL_master 307 = .ok (.invokevirtual 231, 3) := by decide +kernel
theorem dL_master_310 : decode cL_master 310 = .ok (.aload 10, 2) := by decide +kernel
theorem dL_master_312 : decode cL_master 312 = .ok (.bipush 20, 2) := by decide +kernel
theorem dL_master_314 : decode cL_master 314 = .ok (.iload_n 1, 1) := by decide +kernel
theorem dL_master_315 : decode cL_master 315 = .ok (.imul, 1) := by decide +kernel
theorem dL_master_316 : decode cL_master 316 = .ok (.iload 18, 2) := by decide +kernel
theorem dL_master_318 : decode cL_master 318 = .ok (.iadd, 1) := by decide +kernel
theorem dL_master_319 : decode cL_master 319 = .ok (.iaload, 1) := by decide +kernel
theorem dL_master_320 : decode cL_master 320 = .ok (.if_icmp .ne 7, 3) := by decide +kernel
theorem dL_master_323 : decode cL_master 323 = .ok (.iconst 1, 1) := by decide +kernel
theorem dL_master_324 : decode cL_master 324 = .ok (.goto 4, 3) := by decide +kernel
theorem dL_master_327 : decode cL_master 327 = .ok (.iconst 0, 1) := by decide +kernel
theorem dL_master_328 : decode cL_master 328 = .ok (.istore 17, 2) := by decide +kernel
theorem dL_master_330 : decode cL_master 330 = .ok (.iinc 18 1, 3) := by decide +kernel
theorem dL_master_333 : decode cL_master 333 = .ok (.goto (-41), 3) := by decide +kernel
theorem dL_master_336 : decode cL_master 336 = .ok (.iload_n 2, 1) := by decide +kernel
theorem dL_master_337 : decode cL_master 337 = .ok (.aload_n 3, 1) := by decide +kernel
theorem dL_master_338 : decode cL_master 338 = .ok (.iconst 0, 1) := by decide +kernel
theorem dL_master_339 : decode cL_master 339 = .ok (.iaload, 1) := by decide +kernel
theorem dL_master_340 : decode cL_master 340 = .ok (.iconst 1, 1) := by decide +kernel
theorem dL_master_341 : decode cL_master 341 = .ok (.iadd, 1) := by decide +kernel
theorem dL_master_342 : decode cL_master 342 = .ok (.invokestatic 119, 3) := by decide +kernel
theorem dL_master_345 : decode cL_master 345 = .ok (.iconst 2, 1) := by decide +kernel
theorem dL_master_346 : decode cL_master 346 = .ok (.isub, 1) := by decide +kernel
theorem dL_master_347 : decode cL_master 347 = .ok (.istore 18, 2) := by decide +kernel
theorem dL_master_349 : decode cL_master 349 = .ok (.iload 18, 2) := by decide +kernel
theorem dL_master_351 : decode cL_master 351 = .ok (.iconst (-1), 1) := by decide +kernel
theorem dL_master_352 : decode cL_master 352 = .ok (.if_icmp .eq 19, 3) := by decide +kernel
theorem dL_master_355 : decode cL_master 355 = .ok (.iload 18, 2) := by decide +kernel
theorem dL_master_357 : decode cL_master 357 = .ok (.ifCond .lt 18, 3) := by decide +kernel
theorem dL_master_360 : decode cL_master 360 = .ok (.aload 11, 2) := by decide +kernel
theorem dL_master_362 : decode cL_master 362 = .ok (.iconst 3, 1) := by decide +kernel
theorem dL_master_363 : decode cL_master 363 = .ok (.iload 18, 2) := by decide +kernel
theorem dL_master_365 : decode cL_master 365 = .ok (.imul, 1) := by decide +kernel
theorem dL_master_366 : decode cL_master 366 = .ok (.iaload, 1) := by decide +kernel
theorem dL_master_367 : decode cL_master 367 = .ok (.iconst 1, 1) := by decide +kernel
theorem dL_master_368 : decode cL_master 368 = .ok (.if_icmp .eq 7, 3) := by decide +kernel
theorem dL_master_371 : decode cL_master 371 = .ok (.iconst 0, 1) := by decide +kernel
theorem dL_master_372 : decode cL_master 372 = .ok (.goto 5, 3) := by decide +kernel
theorem dL_master_375 : decode cL_master 375 = .ok (.iload 18, 2) := by decide +kernel
theorem dL_master_377 : decode cL_master 377 = .ok (.istore 18, 2) := by decide +kernel
theorem dL_master_379 : decode cL_master 379 = .ok (.iconst 0, 1) := by decide +kernel
theorem dL_master_380 : decode cL_master 380 = .ok (.istore 19, 2) := by decide +kernel
theorem dL_master_382 : decode cL_master 382 = .ok (.iconst 0, 1) := by decide +kernel
theorem dL_master_383 : decode cL_master 383 = .ok (.istore 20, 2) := by decide +kernel
theorem dL_master_385 : decode cL_master 385 = .ok (.iload 20, 2) := by decide +kernel
theorem dL_master_387 : decode cL_master 387 = .ok (.sipush 148, 3) := by decide +kernel
theorem dL_master_390 : decode cL_master 390 = .ok (.if_icmp .ge 107, 3) := by decide +kernel
theorem dL_master_393 : decode cL_master 393 = .ok (.iload 17, 2) := by decide +kernel
theorem dL_master_395 : decode cL_master 395 = .ok (.ifCond .eq 102, 3) := by decide +kernel
theorem dL_master_398 : decode cL_master 398 = .ok (.iconst 1, 1) := by decide +kernel
theorem dL_master_399 : decode cL_master 399 = .ok (.istore 21, 2) := by decide +kernel
theorem dL_master_401 : decode cL_master 401 = .ok (.iload 21, 2) := by decide +kernel
theorem dL_master_403 : decode cL_master 403 = .ok (.aload_n 3, 1) := by decide +kernel
theorem dL_master_404 : decode cL_master 404 = .ok (.iconst 0, 1) := by decide +kernel
theorem dL_master_405 : decode cL_master 405 = .ok (.iaload, 1) := by decide +kernel
theorem dL_master_406 : decode cL_master 406 = .ok (.if_icmp .ge 85, 3) := by decide +kernel
theorem dL_master_409 : decode cL_master 409 = .ok (.aload 11, 2) := by decide +kernel
theorem dL_master_411 : decode cL_master 411 = .ok (.iconst 3, 1) := by decide +kernel
theorem dL_master_412 : decode cL_master 412 = .ok (.iload 21, 2) := by decide +kernel
theorem dL_master_414 : decode cL_master 414 = .ok (.imul, 1) := by decide +kernel
theorem dL_master_415 : decode cL_master 415 = .ok (.iaload, 1) := by decide +kernel
theorem dL_master_416 : decode cL_master 416 = .ok (.iconst 1, 1) := by decide +kernel
theorem dL_master_417 : decode cL_master 417 = .ok (.if_icmp .ne 68, 3) := by decide +kernel
theorem dL_master_420 : decode cL_master 420 = .ok (.iload 21, 2) := by decide +kernel
theorem dL_master_422 : decode cL_master 422 = .ok (.aload 11, 2) := by decide +kernel
theorem dL_master_424 : decode cL_master 424 = .ok (.invokestatic 93, 3) := by decide +kernel
theorem dL_master_427 : decode cL_master 427 = .ok (.iload 18, 2) := by decide +kernel
theorem dL_master_429 : decode cL_master 429 = .ok (.if_icmp .ne 56, 3) := by decide +kernel
theorem dL_master_432 : decode cL_master 432 = .ok (.iload_n 1, 1) := by decide +kernel
theorem dL_master_433 : decode cL_master 433 = .ok (.iload 21, 2) := by decide +kernel
theorem dL_master_435 : decode cL_master 435 = .ok (.aload_n 3, 1) := by decide +kernel
theorem dL_master_436 : decode cL_master 436 = .ok (.aload 5, 2) := by decide +kernel
theorem dL_master_438 : decode cL_master 438 = .ok (.aload 6, 2) := by decide +kernel
theorem dL_master_440 : decode cL_master 440 = .ok (.aload 7, 2) := by decide +kernel
theorem dL_master_442 : decode cL_master 442 = .ok (.aload 8, 2) := by decide +kernel
theorem dL_master_444 : decode cL_master 444 = .ok (.aload 10, 2) := by decide +kernel
theorem dL_master_446 : decode cL_master 446 = .ok (.aload 11, 2) := by decide +kernel
theorem dL_master_448 : decode cL_master 448 = .ok (.invokestatic 101, 3) := by decide +kernel
theorem dL_master_451 : decode cL_master 451 = .ok (.iload 20, 2) := by decide +kernel
theorem dL_master_453 : decode cL_master 453 = .ok (.if_icmp .ne 32, 3) := by decide +kernel
theorem dL_master_456 : decode cL_master 456 = .ok (.iload 17, 2) := by decide +kernel
theorem dL_master_458 : decode cL_master 458 = .ok (.ifCond .eq 21, 3) := by decide +kernel
theorem dL_master_461 : decode cL_master 461 = .ok (.aload_n 0, 1) := by decide +kernel
theorem dL_master_462 : decode cL_master 462 = .ok (.iload_n 1, 1) := by decide +kernel
theorem dL_master_463 : decode cL_master 463 = .ok (.iload 18, 2) := by decide +kernel
theorem dL_master_465 : decode cL_master 465 = .ok (.iload 19, 2) := by decide +kernel
theorem dL_master_467 : decode cL_master 467 = .ok (.invokevirtual 234, 3) := by decide +kernel
theorem dL_master_470 : decode cL_master 470 = .ok (.iload 21, 2) := by decide +kernel
theorem dL_master_472 : decode cL_master 472 = .ok (.if_icmp .ne 7, 3) := by decide +kernel
theorem dL_master_475 : decode cL_master 475 = .ok (.iconst 1, 1) := by decide +kernel
theorem dL_master_476 : decode cL_master 476 = .ok (.goto 4, 3) := by decide +kernel
theorem dL_master_479 : decode cL_master 479 = .ok (.iconst 0, 1) := by decide +kernel
theorem dL_master_480 : decode cL_master 480 = .ok (.istore 17, 2) := by decide +kernel
theorem dL_master_482 : decode cL_master 482 = .ok (.iinc 19 1, 3) := by decide +kernel
theorem dL_master_485 : decode cL_master 485 = .ok (.iinc 21 1, 3) := by decide +kernel
theorem dL_master_488 : decode cL_master 488 = .ok (.goto (-87), 3) := by decide +kernel
theorem dL_master_491 : decode cL_master 491 = .ok (.iinc 20 1, 3) := by decide +kernel
theorem dL_master_494 : decode cL_master 494 = .ok (.goto (-109), 3) := by decide +kernel
theorem dL_master_497 : decode cL_master 497 = .ok (.iload 17, 2) := by decide +kernel
theorem dL_master_499 : decode cL_master 499 = .ok (.ifCond .eq 20, 3) := by decide +kernel
theorem dL_master_502 : decode cL_master 502 = .ok (.aload_n 0, 1) := by decide +kernel
theorem dL_master_503 : decode cL_master 503 = .ok (.iload_n 1, 1) := by decide +kernel
theorem dL_master_504 : decode cL_master 504 = .ok (.iload 18, 2) := by decide +kernel
theorem dL_master_506 : decode cL_master 506 = .ok (.iload 19, 2) := by decide +kernel
theorem dL_master_508 : decode cL_master 508 = .ok (.invokevirtual 234, 3) := by decide +kernel
theorem dL_master_511 : decode cL_master 511 = .ok (.iconst (-1), 1) := by decide +kernel
theorem dL_master_512 : decode cL_master 512 = .ok (.if_icmp .ne 7, 3) := by decide +kernel
theorem dL_master_515 : decode cL_master 515 = .ok (.iconst 1, 1) := by decide +kernel
theorem dL_master_516 : decode cL_master 516 = .ok (.goto 4, 3) := by decide +kernel
theorem dL_master_519 : decode cL_master 519 = .ok (.iconst 0, 1) := by decide +kernel
theorem dL_master_520 : decode cL_master 520 = .ok (.ireturn, 1) := by decide +kernel
