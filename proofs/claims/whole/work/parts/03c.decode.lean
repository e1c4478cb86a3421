theorem dX11_holds_181 : decode cX11_holds 181 = .ok (.lcmp, 1) := by decide +kernel
theorem dX11_holds_182 : decode cX11_holds 182 = .ok (.ifCond .le 7, 3) := by decide +kernel
theorem dX11_holds_185 : decode cX11_holds 185 = .ok (.iconst 1, 1) := by decide +kernel
theorem dX11_holds_186 : decode cX11_holds 186 = .ok (.goto 24, 3) := by decide +kernel
theorem dX11_holds_189 : decode cX11_holds 189 = .ok (.iconst 0, 1) := by decide +kernel
theorem dX11_holds_190 : decode cX11_holds 190 = .ok (.goto 20, 3) := by decide +kernel
theorem dX11_holds_193 : decode cX11_holds 193 = .ok (.lload_n 2, 1) := by decide +kernel
theorem dX11_holds_194 : decode cX11_holds 194 = .ok (.aload_n 0, 1) := by decide +kernel
theorem dX11_holds_195 : decode cX11_holds 195 = .ok (.getfield 124, 3) := by decide +kernel
theorem dX11_holds_198 : decode cX11_holds 198 = .ok (.iload_n 1, 1) := by decide +kernel
theorem dX11_holds_199 : decode cX11_holds 199 = .ok (.iaload, 1) := by decide +kernel
theorem dX11_holds_200 : decode cX11_holds 200 = .ok (.i2l, 1) := by decide +kernel
theorem dX11_holds_201 : decode cX11_holds 201 = .ok (.lcmp, 1) := by decide +kernel
theorem dX11_holds_202 : decode cX11_holds 202 = .ok (.ifCond .ne 7, 3) := by decide +kernel
theorem dX11_holds_205 : decode cX11_holds 205 = .ok (.iconst 1, 1) := by decide +kernel
theorem dX11_holds_206 : decode cX11_holds 206 = .ok (.goto 4, 3) := by decide +kernel
theorem dX11_holds_209 : decode cX11_holds 209 = .ok (.iconst 0, 1) := by decide +kernel
theorem dX11_holds_210 : decode cX11_holds 210 = .ok (.ireturn, 1) := by decide +kernel
theorem dX11_statement_0 : decode cX11_statement 0 = .ok (.aload_n 0, 1) := by decide +kernel
theorem dX11_statement_1 : decode cX11_statement 1 = .ok (.iload_n 2, 1) := by decide +kernel
theorem dX11_statement_2 : decode cX11_statement 2 = .ok (.iconst 5, 1) := by decide +kernel
theorem dX11_statement_3 : decode cX11_statement 3 = .ok (.idiv, 1) := by decide +kernel
theorem dX11_statement_4 : decode cX11_statement 4 = .ok (.invokevirtual 400, 3) := by decide +kernel
theorem dX11_statement_7 : decode cX11_statement 7 = .ok (.istore 5, 2) := by decide +kernel
theorem dX11_statement_9 : decode cX11_statement 9 = .ok (.iload 5, 2) := by decide +kernel
theorem dX11_statement_11 : decode cX11_statement 11 = .ok (.iconst (-1), 1) := by decide +kernel
theorem dX11_statement_12 : decode cX11_statement 12 = .ok (.if_icmp .ne 5, 3) := by decide +kernel
theorem dX11_statement_15 : decode cX11_statement 15 = .ok (.iconst (-1), 1) := by decide +kernel
theorem dX11_statement_16 : decode cX11_statement 16 = .ok (.ireturn, 1) := by decide +kernel
theorem dX11_statement_17 : decode cX11_statement 17 = .ok (.aload_n 0, 1) := by decide +kernel
theorem dX11_statement_18 : decode cX11_statement 18 = .ok (.iload_n 1, 1) := by decide +kernel
theorem dX11_statement_19 : decode cX11_statement 19 = .ok (.iload_n 2, 1) := by decide +kernel
theorem dX11_statement_20 : decode cX11_statement 20 = .ok (.invokevirtual 414, 3) := by decide +kernel
theorem dX11_statement_23 : decode cX11_statement 23 = .ok (.iconst (-1), 1) := by decide +kernel
theorem dX11_statement_24 : decode cX11_statement 24 = .ok (.istore 6, 2) := by decide +kernel
theorem dX11_statement_26 : decode cX11_statement 26 = .ok (.sipush 300, 3) := by decide +kernel
theorem dX11_statement_29 : decode cX11_statement 29 = .ok (.iload 5, 2) := by decide +kernel
theorem dX11_statement_31 : decode cX11_statement 31 = .ok (.imul, 1) := by decide +kernel
theorem dX11_statement_32 : decode cX11_statement 32 = .ok (.istore 7, 2) := by decide +kernel
theorem dX11_statement_34 : decode cX11_statement 34 = .ok (.iload 7, 2) := by decide +kernel
theorem dX11_statement_36 : decode cX11_statement 36 = .ok (.sipush 300, 3) := by decide +kernel
theorem dX11_statement_39 : decode cX11_statement 39 = .ok (.iload 5, 2) := by decide +kernel
theorem dX11_statement_41 : decode cX11_statement 41 = .ok (.imul, 1) := by decide +kernel
theorem dX11_statement_42 : decode cX11_statement 42 = .ok (.aload_n 0, 1) := by decide +kernel
theorem dX11_statement_43 : decode cX11_statement 43 = .ok (.getfield 69, 3) := by decide +kernel
theorem dX11_statement_46 : decode cX11_statement 46 = .ok (.iload 5, 2) := by decide +kernel
theorem dX11_statement_48 : decode cX11_statement 48 = .ok (.iaload, 1) := by decide +kernel
theorem dX11_statement_49 : decode cX11_statement 49 = .ok (.iadd, 1) := by decide +kernel
theorem dX11_statement_50 : decode cX11_statement 50 = .ok (.if_icmp .ge 61, 3) := by decide +kernel
theorem dX11_statement_53 : decode cX11_statement 53 = .ok (.aload_n 0, 1) := by decide +kernel
theorem dX11_statement_54 : decode cX11_statement 54 = .ok (.getfield 81, 3) := by decide +kernel
theorem dX11_statement_57 : decode cX11_statement 57 = .ok (.iload 7, 2) := by decide +kernel
theorem dX11_statement_59 : decode cX11_statement 59 = .ok (.iaload, 1) := by decide +kernel
theorem dX11_statement_60 : decode cX11_statement 60 = .ok (.iload_n 3, 1) := by decide +kernel
theorem dX11_statement_61 : decode cX11_statement 61 = .ok (.if_icmp .ne 44, 3) := by decide +kernel
theorem dX11_statement_64 : decode cX11_statement 64 = .ok (.aload_n 0, 1) := by decide +kernel
theorem dX11_statement_65 : decode cX11_statement 65 = .ok (.getfield 84, 3) := by decide +kernel
theorem dX11_statement_68 : decode cX11_statement 68 = .ok (.iload 7, 2) := by decide +kernel
theorem dX11_statement_70 : decode cX11_statement 70 = .ok (.iaload, 1) := by decide +kernel
theorem dX11_statement_71 : decode cX11_statement 71 = .ok (.iload 4, 2) := by decide +kernel
theorem dX11_statement_73 : decode cX11_statement 73 = .ok (.if_icmp .ne 32, 3) := by decide +kernel
theorem dX11_statement_76 : decode cX11_statement 76 = .ok (.aload_n 0, 1) := by decide +kernel
theorem dX11_statement_77 : decode cX11_statement 77 = .ok (.getfield 105, 3) := by decide +kernel
theorem dX11_statement_80 : decode cX11_statement 80 = .ok (.iload 7, 2) := by decide +kernel
theorem dX11_statement_82 : decode cX11_statement 82 = .ok (.iaload, 1) := by decide +kernel
theorem dX11_statement_83 : decode cX11_statement 83 = .ok (.iconst (-1), 1) := by decide +kernel
theorem dX11_statement_84 : decode cX11_statement 84 = .ok (.if_icmp .eq 17, 3) := by decide +kernel
theorem dX11_statement_87 : decode cX11_statement 87 = .ok (.aload_n 0, 1) := by decide +kernel
theorem dX11_statement_88 : decode cX11_statement 88 = .ok (.aload_n 0, 1) := by decide +kernel
theorem dX11_statement_89 : decode cX11_statement 89 = .ok (.getfield 105, 3) := by decide +kernel
theorem dX11_statement_92 : decode cX11_statement 92 = .ok (.iload 7, 2) := by decide +kernel
theorem dX11_statement_94 : decode cX11_statement 94 = .ok (.iaload, 1) := by decide +kernel
theorem dX11_statement_95 : decode cX11_statement 95 = .ok (.invokevirtual 411, 3) := by decide +kernel
theorem dX11_statement_98 : decode cX11_statement 98 = .ok (.ifCond .ne 7, 3) := by decide +kernel
theorem dX11_statement_101 : decode cX11_statement 101 = .ok (.iload 7, 2) := by decide +kernel
theorem dX11_statement_103 : decode cX11_statement 103 = .ok (.istore 6, 2) := by decide +kernel
theorem dX11_statement_105 : decode cX11_statement 105 = .ok (.iinc 7 1, 3) := by decide +kernel
theorem dX11_statement_108 : decode cX11_statement 108 = .ok (.goto (-74), 3) := by decide +kernel
theorem dX11_statement_111 : decode cX11_statement 111 = .ok (.iload 6, 2) := by decide +kernel
theorem dX11_statement_113 : decode cX11_statement 113 = .ok (.ireturn, 1) := by decide +kernel
theorem dX11_plainOf_0 : decode cX11_plainOf 0 = .ok (.aload_n 0, 1) := by decide +kernel
theorem dX11_plainOf_1 : decode cX11_plainOf 1 = .ok (.iload_n 1, 1) := by decide +kernel
theorem dX11_plainOf_2 : decode cX11_plainOf 2 = .ok (.iload_n 2, 1) := by decide +kernel
theorem dX11_plainOf_3 : decode cX11_plainOf 3 = .ok (.iload_n 3, 1) := by decide +kernel
theorem dX11_plainOf_4 : decode cX11_plainOf 4 = .ok (.iconst 0, 1) := by decide +kernel
theorem dX11_plainOf_5 : decode cX11_plainOf 5 = .ok (.invokevirtual 417, 3) := by decide +kernel
theorem dX11_plainOf_8 : decode cX11_plainOf 8 = .ok (.istore 5, 2) := by decide +kernel
theorem dX11_plainOf_10 : decode cX11_plainOf 10 = .ok (.iload 5, 2) := by decide +kernel
theorem dX11_plainOf_12 : decode cX11_plainOf 12 = .ok (.iconst (-1), 1) := by decide +kernel
theorem dX11_plainOf_13 : decode cX11_plainOf 13 = .ok (.if_icmp .ne 8, 3) := by decide +kernel
theorem dX11_plainOf_16 : decode cX11_plainOf 16 = .ok (.iload 4, 2) := by decide +kernel
theorem dX11_plainOf_18 : decode cX11_plainOf 18 = .ok (.goto 10, 3) := by decide +kernel
theorem dX11_plainOf_21 : decode cX11_plainOf 21 = .ok (.aload_n 0, 1) := by decide +kernel
theorem dX11_plainOf_22 : decode cX11_plainOf 22 = .ok (.getfield 90, 3) := by decide +kernel
theorem dX11_plainOf_25 : decode cX11_plainOf 25 = .ok (.iload 5, 2) := by decide +kernel
theorem dX11_plainOf_27 : decode cX11_plainOf 27 = .ok (.iaload, 1) := by decide +kernel
theorem dX11_plainOf_28 : decode cX11_plainOf 28 = .ok (.ireturn, 1) := by decide +kernel
theorem dX11_prepares_0 : decode cX11_prepares 0 = .ok (.aload_n 0, 1) := by decide +kernel
theorem dX11_prepares_1 : decode cX11_prepares 1 = .ok (.getfield 141, 3) := by decide +kernel
theorem dX11_prepares_4 : decode cX11_prepares 4 = .ok (.iconst 0, 1) := by decide +kernel
theorem dX11_prepares_5 : decode cX11_prepares 5 = .ok (.aload_n 0, 1) := by decide +kernel
theorem dX11_prepares_6 : decode cX11_prepares 6 = .ok (.getfield 16, 3) := by decide +kernel
theorem dX11_prepares_9 : decode cX11_prepares 9 = .ok (.iload_n 1, 1) := by decide +kernel
theorem dX11_prepares_10 : decode cX11_prepares 10 = .ok (.laload, 1) := by decide +kernel
theorem dX11_prepares_11 : decode cX11_prepares 11 = .ok (.lastore, 1) := by decide +kernel
theorem dX11_prepares_12 : decode cX11_prepares 12 = .ok (.iconst 0, 1) := by decide +kernel
theorem dX11_prepares_13 : decode cX11_prepares 13 = .ok (.istore_n 2, 1) := by decide +kernel
theorem dX11_prepares_14 : decode cX11_prepares 14 = .ok (.iload_n 2, 1) := by decide +kernel
theorem dX11_prepares_15 : decode cX11_prepares 15 = .ok (.bipush 15, 2) := by decide +kernel
theorem dX11_prepares_17 : decode cX11_prepares 17 = .ok (.if_icmp .ge 210, 3) := by decide +kernel
theorem dX11_prepares_20 : decode cX11_prepares 20 = .ok (.aload_n 0, 1) := by decide +kernel
theorem dX11_prepares_21 : decode cX11_prepares 21 = .ok (.getfield 144, 3) := by decide +kernel
theorem dX11_prepares_24 : decode cX11_prepares 24 = .ok (.iload_n 2, 1) := by decide +kernel
theorem dX11_prepares_25 : decode cX11_prepares 25 = .ok (.aload_n 0, 1) := by decide +kernel
theorem dX11_prepares_26 : decode cX11_prepares 26 = .ok (.iload_n 1, 1) := by decide +kernel
theorem dX11_prepares_27 : decode cX11_prepares 27 = .ok (.iload_n 2, 1) := by decide +kernel
theorem dX11_prepares_28 : decode cX11_prepares 28 = .ok (.invokevirtual 420, 3) := by decide +kernel
theorem dX11_prepares_31 : decode cX11_prepares 31 = .ok (.iastore, 1) := by decide +kernel
theorem dX11_prepares_32 : decode cX11_prepares 32 = .ok (.aload_n 0, 1) := by decide +kernel
theorem dX11_prepares_33 : decode cX11_prepares 33 = .ok (.getfield 147, 3) := by decide +kernel
theorem dX11_prepares_36 : decode cX11_prepares 36 = .ok (.iload_n 2, 1) := by decide +kernel
theorem dX11_prepares_37 : decode cX11_prepares 37 = .ok (.iconst 0, 1) := by decide +kernel
theorem dX11_prepares_38 : decode cX11_prepares 38 = .ok (.iastore, 1) := by decide +kernel
theorem dX11_prepares_39 : decode cX11_prepares 39 = .ok (.iconst 0, 1) := by decide +kernel
theorem dX11_prepares_40 : decode cX11_prepares 40 = .ok (.istore_n 3, 1) := by decide +kernel
theorem dX11_prepares_41 : decode cX11_prepares 41 = .ok (.iload_n 3, 1) := by decide +kernel
theorem dX11_prepares_42 : decode cX11_prepares 42 = .ok (.aload_n 0, 1) := by decide +kernel
theorem dX11_prepares_43 : decode cX11_prepares 43 = .ok (.getfield 202, 3) := by decide +kernel
theorem dX11_prepares_46 : decode cX11_prepares 46 = .ok (.if_icmp .ge 55, 3) := by decide +kernel
theorem dX11_prepares_49 : decode cX11_prepares 49 = .ok (.aload_n 0, 1) := by decide +kernel
theorem dX11_prepares_50 : decode cX11_prepares 50 = .ok (.getfield 147, 3) := by decide +kernel
theorem dX11_prepares_53 : decode cX11_prepares 53 = .ok (.iload_n 2, 1) := by decide +kernel
theorem dX11_prepares_54 : decode cX11_prepares 54 = .ok (.dup2, 1) := by decide +kernel
theorem dX11_prepares_55 : decode cX11_prepares 55 = .ok (.iaload, 1) := by decide +kernel
theorem dX11_prepares_56 : decode cX11_prepares 56 = .ok (.aload_n 0, 1) := by decide +kernel
theorem dX11_prepares_57 : decode cX11_prepares 57 = .ok (.getfield 26, 3) := by decide +kernel
theorem dX11_prepares_60 : decode cX11_prepares 60 = .ok (.iload_n 3, 1) := by decide +kernel
theorem dX11_prepares_61 : decode cX11_prepares 61 = .ok (.iaload, 1) := by decide +kernel
theorem dX11_prepares_62 : decode cX11_prepares 62 = .ok (.iload_n 1, 1) := by decide +kernel
theorem dX11_prepares_63 : decode cX11_prepares 63 = .ok (.if_icmp .ne 26, 3) := by decide +kernel
theorem dX11_prepares_66 : decode cX11_prepares 66 = .ok (.aload_n 0, 1) := by decide +kernel
theorem dX11_prepares_67 : decode cX11_prepares 67 = .ok (.getfield 32, 3) := by decide +kernel
theorem dX11_prepares_70 : decode cX11_prepares 70 = .ok (.iload_n 3, 1) := by decide +kernel
theorem dX11_prepares_71 : decode cX11_prepares 71 = .ok (.iaload, 1) := by decide +kernel
theorem dX11_prepares_72 : decode cX11_prepares 72 = .ok (.iload_n 2, 1) := by decide +kernel
theorem dX11_prepares_73 : decode cX11_prepares 73 = .ok (.if_icmp .ge 16, 3) := by decide +kernel
theorem dX11_prepares_76 : decode cX11_prepares 76 = .ok (.aload_n 0, 1) := by decide +kernel
theorem dX11_prepares_77 : decode cX11_prepares 77 = .ok (.iload_n 3, 1) := by decide +kernel
theorem dX11_prepares_78 : decode cX11_prepares 78 = .ok (.iload_n 2, 1) := by decide +kernel
theorem dX11_prepares_79 : decode cX11_prepares 79 = .ok (.invokevirtual 423, 3) := by decide +kernel
theorem dX11_prepares_82 : decode cX11_prepares 82 = .ok (.ifCond .ne 7, 3) := by decide +kernel
theorem dX11_prepares_85 : decode cX11_prepares 85 = .ok (.iconst 1, 1) := by decide +kernel
theorem dX11_prepares_86 : decode cX11_prepares 86 = .ok (.goto 4, 3) := by decide +kernel
theorem dX11_prepares_89 : decode cX11_prepares 89 = .ok (.iconst 0, 1) := by decide +kernel
theorem dX11_prepares_90 : decode cX11_prepares 90 = .ok (.invokestatic 426, 3) := by decide +kernel
theorem dX11_prepares_93 : decode cX11_prepares 93 = .ok (.iadd, 1) := by decide +kernel
theorem dX11_prepares_94 : decode cX11_prepares 94 = .ok (.iastore, 1) := by decide +kernel
theorem dX11_prepares_95 : decode cX11_prepares 95 = .ok (.iinc 3 1, 3) := by decide +kernel
theorem dX11_prepares_98 : decode cX11_prepares 98 = .ok (.goto (-57), 3) := by decide +kernel
theorem dX11_prepares_101 : decode cX11_prepares 101 = .ok (.aload_n 0, 1) := by decide +kernel
theorem dX11_prepares_102 : decode cX11_prepares 102 = .ok (.getfield 141, 3) := by decide +kernel
theorem dX11_prepares_105 : decode cX11_prepares 105 = .ok (.iload_n 2, 1) := by decide +kernel
theorem dX11_prepares_106 : decode cX11_prepares 106 = .ok (.laload, 1) := by decide +kernel
theorem dX11_prepares_107 : decode cX11_prepares 107 = .ok (.lstore_n 3, 1) := by decide +kernel
theorem dX11_prepares_108 : decode cX11_prepares 108 = .ok (.lload_n 3, 1) := by decide +kernel
theorem dX11_prepares_109 : decode cX11_prepares 109 = .ok (.aload_n 0, 1) := by decide +kernel
theorem dX11_prepares_110 : decode cX11_prepares 110 = .ok (.iload_n 1, 1) := by decide +kernel
theorem dX11_prepares_111 : decode cX11_prepares 111 = .ok (.iload_n 2, 1) := by decide +kernel
theorem dX11_prepares_112 : decode cX11_prepares 112 = .ok (.iconst 4, 1) := by decide +kernel
theorem dX11_prepares_113 : decode cX11_prepares 113 = .ok (.bipush 100, 2) := by decide +kernel
theorem dX11_prepares_115 : decode cX11_prepares 115 = .ok (.invokevirtual 430, 3) := by decide +kernel
theorem dX11_prepares_118 : decode cX11_prepares 118 = .ok (.i2l, 1) := by decide +kernel
theorem dX11_prepares_119 : decode cX11_prepares 119 = .ok (.lmul, 1) := by decide +kernel
theorem dX11_prepares_120 : decode cX11_prepares 120 = .ok (.ldc2_w 433, 3) := by decide +kernel
theorem dX11_prepares_123 : decode cX11_prepares 123 = .ok (.ldiv, 1) := by decide +kernel
theorem dX11_prepares_124 : decode cX11_prepares 124 = .ok (.lload_n 3, 1) := by decide +kernel
theorem dX11_prepares_125 : decode cX11_prepares 125 = .ok (.aload_n 0, 1) := by decide +kernel
theorem dX11_prepares_126 : decode cX11_prepares 126 = .ok (.iload_n 1, 1) := by decide +kernel
theorem dX11_prepares_127 : decode cX11_prepares 127 = .ok (.iload_n 2, 1) := by decide +kernel
theorem dX11_prepares_128 : decode cX11_prepares 128 = .ok (.iconst 5, 1) := by decide +kernel
theorem dX11_prepares_129 : decode cX11_prepares 129 = .ok (.iconst 0, 1) := by decide +kernel
theorem dX11_prepares_130 : decode cX11_prepares 130 = .ok (.invokevirtual 430, 3) := by decide +kernel
theorem dX11_prepares_133 : decode cX11_prepares 133 = .ok (.i2l, 1) := by decide +kernel
theorem dX11_prepares_134 : decode cX11_prepares 134 = .ok (.lmul, 1) := by decide +kernel
theorem dX11_prepares_135 : decode cX11_prepares 135 = .ok (.ldc2_w 433, 3) := by decide +kernel
theorem dX11_prepares_138 : decode cX11_prepares 138 = .ok (.ldiv, 1) := by decide +kernel
theorem dX11_prepares_139 : decode cX11_prepares 139 = .ok (.lsub, 1) := by decide +kernel
theorem dX11_prepares_140 : decode cX11_prepares 140 = .ok (.lstore 5, 2) := by decide +kernel
theorem dX11_prepares_142 : decode cX11_prepares 142 = .ok (.iconst 0, 1) := by decide +kernel
theorem dX11_prepares_143 : decode cX11_prepares 143 = .ok (.istore 7, 2) := by decide +kernel
theorem dX11_prepares_145 : decode cX11_prepares 145 = .ok (.iload 7, 2) := by decide +kernel
theorem dX11_prepares_147 : decode cX11_prepares 147 = .ok (.aload_n 0, 1) := by decide +kernel
theorem dX11_prepares_148 : decode cX11_prepares 148 = .ok (.getfield 202, 3) := by decide +kernel
theorem dX11_prepares_151 : decode cX11_prepares 151 = .ok (.if_icmp .ge 60, 3) := by decide +kernel
theorem dX11_prepares_154 : decode cX11_prepares 154 = .ok (.aload_n 0, 1) := by decide +kernel
theorem dX11_prepares_155 : decode cX11_prepares 155 = .ok (.getfield 26, 3) := by decide +kernel
theorem dX11_prepares_158 : decode cX11_prepares 158 = .ok (.iload 7, 2) := by decide +kernel
theorem dX11_prepares_160 : decode cX11_prepares 160 = .ok (.iaload, 1) := by decide +kernel
theorem dX11_prepares_161 : decode cX11_prepares 161 = .ok (.iload_n 1, 1) := by decide +kernel
theorem dX11_prepares_162 : decode cX11_prepares 162 = .ok (.if_icmp .ne 43, 3) := by decide +kernel
theorem dX11_prepares_165 : decode cX11_prepares 165 = .ok (.aload_n 0, 1) := by decide +kernel
theorem dX11_prepares_166 : decode cX11_prepares 166 = .ok (.getfield 35, 3) := by decide +kernel
theorem dX11_prepares_169 : decode cX11_prepares 169 = .ok (.iload 7, 2) := by decide +kernel
theorem dX11_prepares_171 : decode cX11_prepares 171 = .ok (.iaload, 1) := by decide +kernel
theorem dX11_prepares_172 : decode cX11_prepares 172 = .ok (.sipush 5000, 3) := by decide +kernel
theorem dX11_prepares_175 : decode cX11_prepares 175 = .ok (.if_icmp .eq 30, 3) := by decide +kernel
theorem dX11_prepares_178 : decode cX11_prepares 178 = .ok (.aload_n 0, 1) := by decide +kernel
theorem dX11_prepares_179 : decode cX11_prepares 179 = .ok (.getfield 35, 3) := by decide +kernel
theorem dX11_prepares_182 : decode cX11_prepares 182 = .ok (.iload 7, 2) := by decide +kernel
theorem dX11_prepares_184 : decode cX11_prepares 184 = .ok (.iaload, 1) := by decide +kernel
theorem dX11_prepares_185 : decode cX11_prepares 185 = .ok (.bipush 100, 2) := by decide +kernel
theorem dX11_prepares_187 : decode cX11_prepares 187 = .ok (.idiv, 1) := by decide +kernel
theorem dX11_prepares_188 : decode cX11_prepares 188 = .ok (.iload_n 2, 1) := by decide +kernel
theorem dX11_prepares_189 : decode cX11_prepares 189 = .ok (.if_icmp .ne 16, 3) := by decide +kernel
theorem dX11_prepares_192 : decode cX11_prepares 192 = .ok (.lload 5, 2) := by decide +kernel
theorem dX11_prepares_194 : decode cX11_prepares 194 = .ok (.aload_n 0, 1) := by decide +kernel
theorem dX11_prepares_195 : decode cX11_prepares 195 = .ok (.getfield 29, 3) := by decide +kernel
theorem dX11_prepares_198 : decode cX11_prepares 198 = .ok (.iload 7, 2) := by decide +kernel
theorem dX11_prepares_200 : decode cX11_prepares 200 = .ok (.iaload, 1) := by decide +kernel
theorem dX11_prepares_201 : decode cX11_prepares 201 = .ok (.i2l, 1) := by decide +kernel
theorem dX11_prepares_202 : decode cX11_prepares 202 = .ok (.ladd, 1) := by decide +kernel
theorem dX11_prepares_203 : decode cX11_prepares 203 = .ok (.lstore 5, 2) := by decide +kernel
theorem dX11_prepares_205 : decode cX11_prepares 205 = .ok (.iinc 7 1, 3) := by decide +kernel
theorem dX11_prepares_208 : decode cX11_prepares 208 = .ok (.goto (-63), 3) := by decide +kernel
theorem dX11_prepares_211 : decode cX11_prepares 211 = .ok (.aload_n 0, 1) := by decide +kernel
theorem dX11_prepares_212 : decode cX11_prepares 212 = .ok (.getfield 141, 3) := by decide +kernel
theorem dX11_prepares_215 : decode cX11_prepares 215 = .ok (.iload_n 2, 1) := by decide +kernel
theorem dX11_prepares_216 : decode cX11_prepares 216 = .ok (.iconst 1, 1) := by decide +kernel
theorem dX11_prepares_217 : decode cX11_prepares 217 = .ok (.iadd, 1) := by decide +kernel
theorem dX11_prepares_218 : decode cX11_prepares 218 = .ok (.lload 5, 2) := by decide +kernel
theorem dX11_prepares_220 : decode cX11_prepares 220 = .ok (.lastore, 1) := by decide +kernel
theorem dX11_prepares_221 : decode cX11_prepares 221 = .ok (.iinc 2 1, 3) := by decide +kernel
theorem dX11_prepares_224 : decode cX11_prepares 224 = .ok (.goto (-210), 3) := by decide +kernel
theorem dX11_prepares_227 : decode cX11_prepares 227 = .ok (.return_, 1) := by decide +kernel
theorem dX11_isKind_0 : decode cX11_isKind 0 = .ok (.iload_n 0, 1) := by decide +kernel
theorem dX11_isKind_1 : decode cX11_isKind 1 = .ok (.iconst 2, 1) := by decide +kernel
theorem dX11_isKind_2 : decode cX11_isKind 2 = .ok (.if_icmp .ge 10, 3) := by decide +kernel
theorem dX11_isKind_5 : decode cX11_isKind 5 = .ok (.iload_n 1, 1) := by decide +kernel
theorem dX11_isKind_6 : decode cX11_isKind 6 = .ok (.invokestatic 205, 3) := by decide +kernel
theorem dX11_isKind_9 : decode cX11_isKind 9 = .ok (.goto 18, 3) := by decide +kernel
theorem dX11_isKind_12 : decode cX11_isKind 12 = .ok (.iload_n 0, 1) := by decide +kernel
theorem dX11_isKind_13 : decode cX11_isKind 13 = .ok (.iconst 2, 1) := by decide +kernel
theorem dX11_isKind_14 : decode cX11_isKind 14 = .ok (.if_icmp .ne 12, 3) := by decide +kernel
theorem dX11_isKind_17 : decode cX11_isKind 17 = .ok (.iload_n 1, 1) := by decide +kernel
theorem dX11_isKind_18 : decode cX11_isKind 18 = .ok (.iconst 0, 1) := by decide +kernel
theorem dX11_isKind_19 : decode cX11_isKind 19 = .ok (.iconst 2, 1) := by decide +kernel
theorem dX11_isKind_20 : decode cX11_isKind 20 = .ok (.invokestatic 165, 3) := by decide +kernel
theorem dX11_isKind_23 : decode cX11_isKind 23 = .ok (.goto 4, 3) := by decide +kernel
theorem dX11_isKind_26 : decode cX11_isKind 26 = .ok (.iconst 1, 1) := by decide +kernel
theorem dX11_isKind_27 : decode cX11_isKind 27 = .ok (.ireturn, 1) := by decide +kernel
theorem dX11_holds__0 : decode cX11_holds_ 0 = .ok (.aload_n 0, 1) := by decide +kernel
theorem dX11_holds__1 : decode cX11_holds_ 1 = .ok (.iload_n 1, 1) := by decide +kernel
theorem dX11_holds__2 : decode cX11_holds_ 2 = .ok (.invokevirtual 177, 3) := by decide +kernel
theorem dX11_holds__5 : decode cX11_holds_ 5 = .ok (.ifCond .eq 29, 3) := by decide +kernel
theorem dX11_holds__8 : decode cX11_holds_ 8 = .ok (.iload_n 2, 1) := by decide +kernel
theorem dX11_holds__9 : decode cX11_holds_ 9 = .ok (.invokestatic 181, 3) := by decide +kernel
theorem dX11_holds__12 : decode cX11_holds_ 12 = .ok (.ifCond .eq 22, 3) := by decide +kernel
theorem dX11_holds__15 : decode cX11_holds_ 15 = .ok (.iload_n 3, 1) := by decide +kernel
theorem dX11_holds__16 : decode cX11_holds_ 16 = .ok (.iconst 0, 1) := by decide +kernel
theorem dX11_holds__17 : decode cX11_holds_ 17 = .ok (.bipush 8, 2) := by decide +kernel
theorem dX11_holds__19 : decode cX11_holds_ 19 = .ok (.invokestatic 165, 3) := by decide +kernel
theorem dX11_holds__22 : decode cX11_holds_ 22 = .ok (.ifCond .eq 12, 3) := by decide +kernel
theorem dX11_holds__25 : decode cX11_holds_ 25 = .ok (.iload_n 3, 1) := by decide +kernel
theorem dX11_holds__26 : decode cX11_holds_ 26 = .ok (.iload 4, 2) := by decide +kernel
theorem dX11_holds__28 : decode cX11_holds_ 28 = .ok (.invokestatic 435, 3) := by decide +kernel
theorem dX11_holds__31 : decode cX11_holds_ 31 = .ok (.ifCond .ne 5, 3) := by decide +kernel
theorem dX11_holds__34 : decode cX11_holds_ 34 = .ok (.iconst (-1), 1) := by decide +kernel
theorem dX11_holds__35 : decode cX11_holds_ 35 = .ok (.ireturn, 1) := by decide +kernel
theorem dX11_holds__36 : decode cX11_holds_ 36 = .ok (.aload_n 0, 1) := by decide +kernel
theorem dX11_holds__37 : decode cX11_holds_ 37 = .ok (.iload_n 1, 1) := by decide +kernel
theorem dX11_holds__38 : decode cX11_holds_ 38 = .ok (.invokevirtual 438, 3) := by decide +kernel
theorem dX11_holds__41 : decode cX11_holds_ 41 = .ok (.aload_n 0, 1) := by decide +kernel
theorem dX11_holds__42 : decode cX11_holds_ 42 = .ok (.iload_n 1, 1) := by decide +kernel
theorem dX11_holds__43 : decode cX11_holds_ 43 = .ok (.iload_n 2, 1) := by decide +kernel
theorem dX11_holds__44 : decode cX11_holds_ 44 = .ok (.iload_n 3, 1) := by decide +kernel
theorem dX11_holds__45 : decode cX11_holds_ 45 = .ok (.iload_n 3, 1) := by decide +kernel
theorem dX11_holds__46 : decode cX11_holds_ 46 = .ok (.iconst 2, 1) := by decide +kernel
theorem dX11_holds__47 : decode cX11_holds_ 47 = .ok (.if_icmp .le 7, 3) := by decide +kernel
theorem dX11_holds__50 : decode cX11_holds_ 50 = .ok (.iconst 0, 1) := by decide +kernel
theorem dX11_holds__51 : decode cX11_holds_ 51 = .ok (.goto 5, 3) := by decide +kernel
theorem dX11_holds__54 : decode cX11_holds_ 54 = .ok (.iload 4, 2) := by decide +kernel
theorem dX11_holds__56 : decode cX11_holds_ 56 = .ok (.invokevirtual 417, 3) := by decide +kernel
theorem dX11_holds__59 : decode cX11_holds_ 59 = .ok (.istore 5, 2) := by decide +kernel
theorem dX11_holds__61 : decode cX11_holds_ 61 = .ok (.iload 5, 2) := by decide +kernel
theorem dX11_holds__63 : decode cX11_holds_ 63 = .ok (.iconst (-1), 1) := by decide +kernel
theorem dX11_holds__64 : decode cX11_holds_ 64 = .ok (.if_icmp .ne 7, 3) := by decide +kernel
theorem dX11_holds__67 : decode cX11_holds_ 67 = .ok (.iconst (-1), 1) := by decide +kernel
theorem dX11_holds__68 : decode cX11_holds_ 68 = .ok (.goto 9, 3) := by decide +kernel
theorem dX11_holds__71 : decode cX11_holds_ 71 = .ok (.iload 5, 2) := by decide +kernel
theorem dX11_holds__73 : decode cX11_holds_ 73 = .ok (.sipush 300, 3) := by decide +kernel
theorem dX11_holds__76 : decode cX11_holds_ 76 = .ok (.irem, 1) := by decide +kernel
theorem dX11_holds__77 : decode cX11_holds_ 77 = .ok (.ireturn, 1) := by decide +kernel
theorem dX11_worth_0 : decode cX11_worth 0 = .ok (.aload_n 0, 1) := by decide +kernel
theorem dX11_worth_1 : decode cX11_worth 1 = .ok (.iload_n 1, 1) := by decide +kernel
theorem dX11_worth_2 : decode cX11_worth 2 = .ok (.invokevirtual 177, 3) := by decide +kernel
theorem dX11_worth_5 : decode cX11_worth 5 = .ok (.ifCond .eq 10, 3) := by decide +kernel
theorem dX11_worth_8 : decode cX11_worth 8 = .ok (.iload_n 2, 1) := by decide +kernel
theorem dX11_worth_9 : decode cX11_worth 9 = .ok (.invokestatic 181, 3) := by decide +kernel
theorem dX11_worth_12 : decode cX11_worth 12 = .ok (.ifCond .ne 7, 3) := by decide +kernel
theorem dX11_worth_15 : decode cX11_worth 15 = .ok (.ldc2_w 441, 3) := by decide +kernel
theorem dX11_worth_18 : decode cX11_worth 18 = .ok (.lreturn, 1) := by decide +kernel
theorem dX11_worth_19 : decode cX11_worth 19 = .ok (.aload_n 0, 1) := by decide +kernel
theorem dX11_worth_20 : decode cX11_worth 20 = .ok (.iload_n 1, 1) := by decide +kernel
theorem dX11_worth_21 : decode cX11_worth 21 = .ok (.invokevirtual 438, 3) := by decide +kernel
theorem dX11_worth_24 : decode cX11_worth 24 = .ok (.aload_n 0, 1) := by decide +kernel
theorem dX11_worth_25 : decode cX11_worth 25 = .ok (.getfield 141, 3) := by decide +kernel
theorem dX11_worth_28 : decode cX11_worth 28 = .ok (.iload_n 2, 1) := by decide +kernel
theorem dX11_worth_29 : decode cX11_worth 29 = .ok (.laload, 1) := by decide +kernel
theorem dX11_worth_30 : decode cX11_worth 30 = .ok (.lreturn, 1) := by decide +kernel
theorem dX11_gathers_0 : decode cX11_gathers 0 = .ok (.aload_n 0, 1) := by decide +kernel
theorem dX11_gathers_1 : decode cX11_gathers 1 = .ok (.iconst 0, 1) := by decide +kernel
theorem dX11_gathers_2 : decode cX11_gathers 2 = .ok (.putfield 443, 3) := by decide +kernel
theorem dX11_gathers_5 : decode cX11_gathers 5 = .ok (.sipush 500, 3) := by decide +kernel
theorem dX11_gathers_8 : decode cX11_gathers 8 = .ok (.iload_n 3, 1) := by decide +kernel
theorem dX11_gathers_9 : decode cX11_gathers 9 = .ok (.imul, 1) := by decide +kernel
theorem dX11_gathers_10 : decode cX11_gathers 10 = .ok (.istore 6, 2) := by decide +kernel
theorem dX11_gathers_12 : decode cX11_gathers 12 = .ok (.iconst 0, 1) := by decide +kernel
theorem dX11_gathers_13 : decode cX11_gathers 13 = .ok (.istore 7, 2) := by decide +kernel
theorem dX11_gathers_15 : decode cX11_gathers 15 = .ok (.iload 7, 2) := by decide +kernel
theorem dX11_gathers_17 : decode cX11_gathers 17 = .ok (.aload_n 0, 1) := by decide +kernel
theorem dX11_gathers_18 : decode cX11_gathers 18 = .ok (.getfield 169, 3) := by decide +kernel
theorem dX11_gathers_21 : decode cX11_gathers 21 = .ok (.if_icmp .ge 137, 3) := by decide +kernel
theorem dX11_gathers_24 : decode cX11_gathers 24 = .ok (.iconst 0, 1) := by decide +kernel
theorem dX11_gathers_25 : decode cX11_gathers 25 = .ok (.iconst 5, 1) := by decide +kernel
theorem dX11_gathers_26 : decode cX11_gathers 26 = .ok (.iload_n 3, 1) := by decide +kernel
theorem dX11_gathers_27 : decode cX11_gathers 27 = .ok (.imul, 1) := by decide +kernel
theorem dX11_gathers_28 : decode cX11_gathers 28 = .ok (.iconst 5, 1) := by decide +kernel
theorem dX11_gathers_29 : decode cX11_gathers 29 = .ok (.isub, 1) := by decide +kernel
theorem dX11_gathers_30 : decode cX11_gathers 30 = .ok (.invokestatic 406, 3) := by decide +kernel
theorem dX11_gathers_33 : decode cX11_gathers 33 = .ok (.istore 8, 2) := by decide +kernel
theorem dX11_gathers_35 : decode cX11_gathers 35 = .ok (.iload 8, 2) := by decide +kernel
theorem dX11_gathers_37 : decode cX11_gathers 37 = .ok (.iconst 5, 1) := by decide +kernel
theorem dX11_gathers_38 : decode cX11_gathers 38 = .ok (.iload_n 3, 1) := by decide +kernel
theorem dX11_gathers_39 : decode cX11_gathers 39 = .ok (.imul, 1) := by decide +kernel
theorem dX11_gathers_40 : decode cX11_gathers 40 = .ok (.if_icmp .ge 112, 3) := by decide +kernel
theorem dX11_gathers_43 : decode cX11_gathers 43 = .ok (.iload 7, 2) := by decide +kernel
theorem dX11_gathers_45 : decode cX11_gathers 45 = .ok (.iload_n 1, 1) := by decide +kernel
theorem dX11_gathers_46 : decode cX11_gathers 46 = .ok (.if_icmp .eq 100, 3) := by decide +kernel
theorem dX11_gathers_49 : decode cX11_gathers 49 = .ok (.iload 7, 2) := by decide +kernel
theorem dX11_gathers_51 : decode cX11_gathers 51 = .ok (.iload 5, 2) := by decide +kernel
theorem dX11_gathers_53 : decode cX11_gathers 53 = .ok (.if_icmp .ne 6, 3) := by decide +kernel
theorem dX11_gathers_56 : decode cX11_gathers 56 = .ok (.goto 90, 3) := by decide +kernel
theorem dX11_gathers_59 : decode cX11_gathers 59 = .ok (.aload_n 0, 1) := by decide +kernel
theorem dX11_gathers_60 : decode cX11_gathers 60 = .ok (.iload 7, 2) := by decide +kernel
theorem dX11_gathers_62 : decode cX11_gathers 62 = .ok (.iload 8, 2) := by decide +kernel
theorem dX11_gathers_64 : decode cX11_gathers 64 = .ok (.iload 4, 2) := by decide +kernel
theorem dX11_gathers_66 : decode cX11_gathers 66 = .ok (.iload 6, 2) := by decide +kernel
theorem dX11_gathers_68 : decode cX11_gathers 68 = .ok (.invokevirtual 198, 3) := by decide +kernel
theorem dX11_gathers_71 : decode cX11_gathers 71 = .ok (.istore 9, 2) := by decide +kernel
theorem dX11_gathers_73 : decode cX11_gathers 73 = .ok (.aload_n 0, 1) := by decide +kernel
theorem dX11_gathers_74 : decode cX11_gathers 74 = .ok (.iload 7, 2) := by decide +kernel
theorem dX11_gathers_76 : decode cX11_gathers 76 = .ok (.iload 8, 2) := by decide +kernel
theorem dX11_gathers_78 : decode cX11_gathers 78 = .ok (.iconst 3, 1) := by decide +kernel
theorem dX11_gathers_79 : decode cX11_gathers 79 = .ok (.iload_n 2, 1) := by decide +kernel
theorem dX11_gathers_80 : decode cX11_gathers 80 = .ok (.iadd, 1) := by decide +kernel
theorem dX11_gathers_81 : decode cX11_gathers 81 = .ok (.iload 6, 2) := by decide +kernel
theorem dX11_gathers_83 : decode cX11_gathers 83 = .ok (.invokevirtual 198, 3) := by decide +kernel
theorem dX11_gathers_86 : decode cX11_gathers 86 = .ok (.istore 10, 2) := by decide +kernel
theorem dX11_gathers_88 : decode cX11_gathers 88 = .ok (.iload 9, 2) := by decide +kernel
theorem dX11_gathers_90 : decode cX11_gathers 90 = .ok (.iconst (-1), 1) := by decide +kernel
theorem dX11_gathers_91 : decode cX11_gathers 91 = .ok (.if_icmp .eq 55, 3) := by decide +kernel
theorem dX11_gathers_94 : decode cX11_gathers 94 = .ok (.iload 10, 2) := by decide +kernel
theorem dX11_gathers_96 : decode cX11_gathers 96 = .ok (.iconst (-1), 1) := by decide +kernel
theorem dX11_gathers_97 : decode cX11_gathers 97 = .ok (.if_icmp .ne 6, 3) := by decide +kernel
theorem dX11_gathers_100 : decode cX11_gathers 100 = .ok (.goto 46, 3) := by decide +kernel
theorem dX11_gathers_103 : decode cX11_gathers 103 = .ok (.aload_n 0, 1) := by decide +kernel
theorem dX11_gathers_104 : decode cX11_gathers 104 = .ok (.getfield 153, 3) := by decide +kernel
theorem dX11_gathers_107 : decode cX11_gathers 107 = .ok (.aload_n 0, 1) := by decide +kernel
theorem dX11_gathers_108 : decode cX11_gathers 108 = .ok (.getfield 443, 3) := by decide +kernel
theorem dX11_gathers_111 : decode cX11_gathers 111 = .ok (.iload 9, 2) := by decide +kernel
theorem dX11_gathers_113 : decode cX11_gathers 113 = .ok (.iastore, 1) := by decide +kernel
theorem dX11_gathers_114 : decode cX11_gathers 114 = .ok (.aload_n 0, 1) := by decide +kernel
theorem dX11_gathers_115 : decode cX11_gathers 115 = .ok (.getfield 156, 3) := by decide +kernel
theorem dX11_gathers_118 : decode cX11_gathers 118 = .ok (.aload_n 0, 1) := by decide +kernel
theorem dX11_gathers_119 : decode cX11_gathers 119 = .ok (.getfield 443, 3) := by decide +kernel
theorem dX11_gathers_122 : decode cX11_gathers 122 = .ok (.iload 10, 2) := by decide +kernel
theorem dX11_gathers_124 : decode cX11_gathers 124 = .ok (.iastore, 1) := by decide +kernel
theorem dX11_gathers_125 : decode cX11_gathers 125 = .ok (.aload_n 0, 1) := by decide +kernel
theorem dX11_gathers_126 : decode cX11_gathers 126 = .ok (.getfield 159, 3) := by decide +kernel
theorem dX11_gathers_129 : decode cX11_gathers 129 = .ok (.aload_n 0, 1) := by decide +kernel
theorem dX11_gathers_130 : decode cX11_gathers 130 = .ok (.getfield 443, 3) := by decide +kernel
theorem dX11_gathers_133 : decode cX11_gathers 133 = .ok (.iload 7, 2) := by decide +kernel
theorem dX11_gathers_135 : decode cX11_gathers 135 = .ok (.iastore, 1) := by decide +kernel
theorem dX11_gathers_136 : decode cX11_gathers 136 = .ok (.aload_n 0, 1) := by decide +kernel
theorem dX11_gathers_137 : decode cX11_gathers 137 = .ok (.dup, 1) := by decide +kernel
theorem dX11_gathers_138 : decode cX11_gathers 138 = .ok (.getfield 443, 3) := by decide +kernel
theorem dX11_gathers_141 : decode cX11_gathers 141 = .ok (.iconst 1, 1) := by decide +kernel
theorem dX11_gathers_142 : decode cX11_gathers 142 = .ok (.iadd, 1) := by decide +kernel
theorem dX11_gathers_143 : decode cX11_gathers 143 = .ok (.putfield 443, 3) := by decide +kernel
theorem dX11_gathers_146 : decode cX11_gathers 146 = .ok (.iinc 8 1, 3) := by decide +kernel
theorem dX11_gathers_149 : decode cX11_gathers 149 = .ok (.goto (-114), 3) := by decide +kernel
theorem dX11_gathers_152 : decode cX11_gathers 152 = .ok (.iinc 7 1, 3) := by decide +kernel
theorem dX11_gathers_155 : decode cX11_gathers 155 = .ok (.goto (-140), 3) := by decide +kernel
theorem dX11_gathers_158 : decode cX11_gathers 158 = .ok (.return_, 1) := by decide +kernel
theorem dX11_all__0 : decode cX11_all_ 0 = .ok (.lconst 0, 1) := by decide +kernel
theorem dX11_all__1 : decode cX11_all_ 1 = .ok (.lstore_n 2, 1) := by decide +kernel
theorem dX11_all__2 : decode cX11_all_ 2 = .ok (.iconst 0, 1) := by decide +kernel
theorem dX11_all__3 : decode cX11_all_ 3 = .ok (.istore 4, 2) := by decide +kernel
theorem dX11_all__5 : decode cX11_all_ 5 = .ok (.iload 4, 2) := by decide +kernel
theorem dX11_all__7 : decode cX11_all_ 7 = .ok (.aload_n 0, 1) := by decide +kernel
theorem dX11_all__8 : decode cX11_all_ 8 = .ok (.getfield 443, 3) := by decide +kernel
theorem dX11_all__11 : decode cX11_all_ 11 = .ok (.if_icmp .ge 17, 3) := by decide +kernel
theorem dX11_all__14 : decode cX11_all_ 14 = .ok (.lload_n 2, 1) := by decide +kernel
theorem dX11_all__15 : decode cX11_all_ 15 = .ok (.aload_n 1, 1) := by decide +kernel
theorem dX11_all__16 : decode cX11_all_ 16 = .ok (.iload 4, 2) := by decide +kernel
theorem dX11_all__18 : decode cX11_all_ 18 = .ok (.iaload, 1) := by decide +kernel
theorem dX11_all__19 : decode cX11_all_ 19 = .ok (.i2l, 1) := by decide +kernel
theorem dX11_all__20 : decode cX11_all_ 20 = .ok (.ladd, 1) := by decide +kernel
theorem dX11_all__21 : decode cX11_all_ 21 = .ok (.lstore_n 2, 1) := by decide +kernel
theorem dX11_all__22 : decode cX11_all_ 22 = .ok (.iinc 4 1, 3) := by decide +kernel
theorem dX11_all__25 : decode cX11_all_ 25 = .ok (.goto (-20), 3) := by decide +kernel
theorem dX11_all__28 : decode cX11_all_ 28 = .ok (.lload_n 2, 1) := by decide +kernel
theorem dX11_all__29 : decode cX11_all_ 29 = .ok (.lreturn, 1) := by decide +kernel
theorem dX11_points_0 : decode cX11_points 0 = .ok (.aload_n 0, 1) := by decide +kernel
theorem dX11_points_1 : decode cX11_points 1 = .ok (.iload_n 1, 1) := by decide +kernel
theorem dX11_points_2 : decode cX11_points 2 = .ok (.invokevirtual 177, 3) := by decide +kernel
theorem dX11_points_5 : decode cX11_points 5 = .ok (.ifCond .eq 37, 3) := by decide +kernel
theorem dX11_points_8 : decode cX11_points 8 = .ok (.iload_n 2, 1) := by decide +kernel
theorem dX11_points_9 : decode cX11_points 9 = .ok (.invokestatic 205, 3) := by decide +kernel
theorem dX11_points_12 : decode cX11_points 12 = .ok (.ifCond .eq 30, 3) := by decide +kernel
theorem dX11_points_15 : decode cX11_points 15 = .ok (.iload_n 3, 1) := by decide +kernel
theorem dX11_points_16 : decode cX11_points 16 = .ok (.invokestatic 383, 3) := by decide +kernel
theorem dX11_points_19 : decode cX11_points 19 = .ok (.ifCond .eq 23, 3) := by decide +kernel
theorem dX11_points_22 : decode cX11_points 22 = .ok (.iload 4, 2) := by decide +kernel
theorem dX11_points_24 : decode cX11_points 24 = .ok (.iconst 0, 1) := by decide +kernel
theorem dX11_points_25 : decode cX11_points 25 = .ok (.iconst 2, 1) := by decide +kernel
theorem dX11_points_26 : decode cX11_points 26 = .ok (.invokestatic 165, 3) := by decide +kernel
theorem dX11_points_29 : decode cX11_points 29 = .ok (.ifCond .eq 13, 3) := by decide +kernel
theorem dX11_points_32 : decode cX11_points 32 = .ok (.iload 5, 2) := by decide +kernel
theorem dX11_points_34 : decode cX11_points 34 = .ok (.iconst 0, 1) := by decide +kernel
theorem dX11_points_35 : decode cX11_points 35 = .ok (.iconst 2, 1) := by decide +kernel
theorem dX11_points_36 : decode cX11_points 36 = .ok (.invokestatic 165, 3) := by decide +kernel
theorem dX11_points_39 : decode cX11_points 39 = .ok (.ifCond .ne 5, 3) := by decide +kernel
theorem dX11_points_42 : decode cX11_points 42 = .ok (.iconst (-1), 1) := by decide +kernel
theorem dX11_points_43 : decode cX11_points 43 = .ok (.ireturn, 1) := by decide +kernel
theorem dX11_points_44 : decode cX11_points 44 = .ok (.aload_n 0, 1) := by decide +kernel
theorem dX11_points_45 : decode cX11_points 45 = .ok (.iload_n 1, 1) := by decide +kernel
theorem dX11_points_46 : decode cX11_points 46 = .ok (.iload_n 2, 1) := by decide +kernel
theorem dX11_points_47 : decode cX11_points 47 = .ok (.iload_n 3, 1) := by decide +kernel
theorem dX11_points_48 : decode cX11_points 48 = .ok (.iload 4, 2) := by decide +kernel
theorem dX11_points_50 : decode cX11_points 50 = .ok (.iconst (-1), 1) := by decide +kernel
theorem dX11_points_51 : decode cX11_points 51 = .ok (.invokevirtual 446, 3) := by decide +kernel
theorem dX11_points_54 : decode cX11_points 54 = .ok (.iload 5, 2) := by decide +kernel
theorem dX11_points_56 : decode cX11_points 56 = .ok (.ifCond .ne 10, 3) := by decide +kernel
theorem dX11_points_59 : decode cX11_points 59 = .ok (.aload_n 0, 1) := by decide +kernel
theorem dX11_points_60 : decode cX11_points 60 = .ok (.getfield 443, 3) := by decide +kernel
theorem dX11_points_63 : decode cX11_points 63 = .ok (.goto 29, 3) := by decide +kernel
theorem dX11_points_66 : decode cX11_points 66 = .ok (.iload 5, 2) := by decide +kernel
theorem dX11_points_68 : decode cX11_points 68 = .ok (.iconst 1, 1) := by decide +kernel
theorem dX11_points_69 : decode cX11_points 69 = .ok (.if_icmp .ne 14, 3) := by decide +kernel
theorem dX11_points_72 : decode cX11_points 72 = .ok (.aload_n 0, 1) := by decide +kernel
theorem dX11_points_73 : decode cX11_points 73 = .ok (.aload_n 0, 1) := by decide +kernel
theorem dX11_points_74 : decode cX11_points 74 = .ok (.getfield 153, 3) := by decide +kernel
theorem dX11_points_77 : decode cX11_points 77 = .ok (.invokevirtual 450, 3) := by decide +kernel
theorem dX11_points_80 : decode cX11_points 80 = .ok (.goto 11, 3) := by decide +kernel
theorem dX11_points_83 : decode cX11_points 83 = .ok (.aload_n 0, 1) := by decide +kernel
theorem dX11_points_84 : decode cX11_points 84 = .ok (.aload_n 0, 1) := by decide +kernel
theorem dX11_points_85 : decode cX11_points 85 = .ok (.getfield 156, 3) := by decide +kernel
theorem dX11_points_88 : decode cX11_points 88 = .ok (.invokevirtual 450, 3) := by decide +kernel
theorem dX11_points_91 : decode cX11_points 91 = .ok (.l2i, 1) := by decide +kernel
theorem dX11_points_92 : decode cX11_points 92 = .ok (.ireturn, 1) := by decide +kernel
theorem dX11_meanAt_0 : decode cX11_meanAt 0 = .ok (.aload_n 0, 1) := by decide +kernel
theorem dX11_meanAt_1 : decode cX11_meanAt 1 = .ok (.aload_n 0, 1) := by decide +kernel
theorem dX11_meanAt_2 : decode cX11_meanAt 2 = .ok (.getfield 153, 3) := by decide +kernel
theorem dX11_meanAt_5 : decode cX11_meanAt 5 = .ok (.invokevirtual 450, 3) := by decide +kernel
theorem dX11_meanAt_8 : decode cX11_meanAt 8 = .ok (.lconst 0, 1) := by decide +kernel
theorem dX11_meanAt_9 : decode cX11_meanAt 9 = .ok (.lcmp, 1) := by decide +kernel
theorem dX11_meanAt_10 : decode cX11_meanAt 10 = .ok (.ifCond .ne 7, 3) := by decide +kernel
theorem dX11_meanAt_13 : decode cX11_meanAt 13 = .ok (.lconst 0, 1) := by decide +kernel
theorem dX11_meanAt_14 : decode cX11_meanAt 14 = .ok (.goto 23, 3) := by decide +kernel
theorem dX11_meanAt_17 : decode cX11_meanAt 17 = .ok (.aload_n 0, 1) := by decide +kernel
theorem dX11_meanAt_18 : decode cX11_meanAt 18 = .ok (.aload_n 0, 1) := by decide +kernel
theorem dX11_meanAt_19 : decode cX11_meanAt 19 = .ok (.getfield 156, 3) := by decide +kernel
theorem dX11_meanAt_22 : decode cX11_meanAt 22 = .ok (.invokevirtual 450, 3) := by decide +kernel
theorem dX11_meanAt_25 : decode cX11_meanAt 25 = .ok (.iload_n 1, 1) := by decide +kernel
theorem dX11_meanAt_26 : decode cX11_meanAt 26 = .ok (.i2l, 1) := by decide +kernel
theorem dX11_meanAt_27 : decode cX11_meanAt 27 = .ok (.lmul, 1) := by decide +kernel
theorem dX11_meanAt_28 : decode cX11_meanAt 28 = .ok (.aload_n 0, 1) := by decide +kernel
theorem dX11_meanAt_29 : decode cX11_meanAt 29 = .ok (.aload_n 0, 1) := by decide +kernel
theorem dX11_meanAt_30 : decode cX11_meanAt 30 = .ok (.getfield 153, 3) := by decide +kernel
theorem dX11_meanAt_33 : decode cX11_meanAt 33 = .ok (.invokevirtual 450, 3) := by decide +kernel
theorem dX11_meanAt_36 : decode cX11_meanAt 36 = .ok (.ldiv, 1) := by decide +kernel
theorem dX11_meanAt_37 : decode cX11_meanAt 37 = .ok (.lreturn, 1) := by decide +kernel
theorem dX11_bestAt_0 : decode cX11_bestAt 0 = .ok (.iconst (-1), 1) := by decide +kernel
theorem dX11_bestAt_1 : decode cX11_bestAt 1 = .ok (.istore_n 2, 1) := by decide +kernel
theorem dX11_bestAt_2 : decode cX11_bestAt 2 = .ok (.iconst 0, 1) := by decide +kernel
theorem dX11_bestAt_3 : decode cX11_bestAt 3 = .ok (.istore_n 3, 1) := by decide +kernel
theorem dX11_bestAt_4 : decode cX11_bestAt 4 = .ok (.iload_n 3, 1) := by decide +kernel
theorem dX11_bestAt_5 : decode cX11_bestAt 5 = .ok (.aload_n 0, 1) := by decide +kernel
theorem dX11_bestAt_6 : decode cX11_bestAt 6 = .ok (.getfield 443, 3) := by decide +kernel
theorem dX11_bestAt_9 : decode cX11_bestAt 9 = .ok (.if_icmp .ge 59, 3) := by decide +kernel
theorem dX11_bestAt_12 : decode cX11_bestAt 12 = .ok (.aload_n 0, 1) := by decide +kernel
theorem dX11_bestAt_13 : decode cX11_bestAt 13 = .ok (.getfield 153, 3) := by decide +kernel
theorem dX11_bestAt_16 : decode cX11_bestAt 16 = .ok (.iload_n 3, 1) := by decide +kernel
theorem dX11_bestAt_17 : decode cX11_bestAt 17 = .ok (.iaload, 1) := by decide +kernel
theorem dX11_bestAt_18 : decode cX11_bestAt 18 = .ok (.ifCond .le 44, 3) := by decide +kernel
theorem dX11_bestAt_21 : decode cX11_bestAt 21 = .ok (.iload_n 2, 1) := by decide +kernel
theorem dX11_bestAt_22 : decode cX11_bestAt 22 = .ok (.iconst (-1), 1) := by decide +kernel
theorem dX11_bestAt_23 : decode cX11_bestAt 23 = .ok (.if_icmp .eq 37, 3) := by decide +kernel
theorem dX11_bestAt_26 : decode cX11_bestAt 26 = .ok (.aload_n 0, 1) := by decide +kernel
theorem dX11_bestAt_27 : decode cX11_bestAt 27 = .ok (.getfield 156, 3) := by decide +kernel
theorem dX11_bestAt_30 : decode cX11_bestAt 30 = .ok (.iload_n 3, 1) := by decide +kernel
theorem dX11_bestAt_31 : decode cX11_bestAt 31 = .ok (.iaload, 1) := by decide +kernel
theorem dX11_bestAt_32 : decode cX11_bestAt 32 = .ok (.i2l, 1) := by decide +kernel
theorem dX11_bestAt_33 : decode cX11_bestAt 33 = .ok (.aload_n 0, 1) := by decide +kernel
theorem dX11_bestAt_34 : decode cX11_bestAt 34 = .ok (.getfield 153, 3) := by decide +kernel
theorem dX11_bestAt_37 : decode cX11_bestAt 37 = .ok (.iload_n 2, 1) := by decide +kernel
theorem dX11_bestAt_38 : decode cX11_bestAt 38 = .ok (.iaload, 1) := by decide +kernel
theorem dX11_bestAt_39 : decode cX11_bestAt 39 = .ok (.i2l, 1) := by decide +kernel
theorem dX11_bestAt_40 : decode cX11_bestAt 40 = .ok (.lmul, 1) := by decide +kernel
theorem dX11_bestAt_41 : decode cX11_bestAt 41 = .ok (.aload_n 0, 1) := by decide +kernel
theorem dX11_bestAt_42 : decode cX11_bestAt 42 = .ok (.getfield 156, 3) := by decide +kernel
theorem dX11_bestAt_45 : decode cX11_bestAt 45 = .ok (.iload_n 2, 1) := by decide +kernel
theorem dX11_bestAt_46 : decode cX11_bestAt 46 = .ok (.iaload, 1) := by decide +kernel
theorem dX11_bestAt_47 : decode cX11_bestAt 47 = .ok (.i2l, 1) := by decide +kernel
theorem dX11_bestAt_48 : decode cX11_bestAt 48 = .ok (.aload_n 0, 1) := by decide +kernel
theorem dX11_bestAt_49 : decode cX11_bestAt 49 = .ok (.getfield 153, 3) := by decide +kernel
theorem dX11_bestAt_52 : decode cX11_bestAt 52 = .ok (.iload_n 3, 1) := by decide +kernel
theorem dX11_bestAt_53 : decode cX11_bestAt 53 = .ok (.iaload, 1) := by decide +kernel
theorem dX11_bestAt_54 : decode cX11_bestAt 54 = .ok (.i2l, 1) := by decide +kernel
theorem dX11_bestAt_55 : decode cX11_bestAt 55 = .ok (.lmul, 1) := by decide +kernel
theorem dX11_bestAt_56 : decode cX11_bestAt 56 = .ok (.lcmp, 1) := by decide +kernel
theorem dX11_bestAt_57 : decode cX11_bestAt 57 = .ok (.ifCond .ge 5, 3) := by decide +kernel
theorem dX11_bestAt_60 : decode cX11_bestAt 60 = .ok (.iload_n 3, 1) := by decide +kernel
theorem dX11_bestAt_61 : decode cX11_bestAt 61 = .ok (.istore_n 2, 1) := by decide +kernel
theorem dX11_bestAt_62 : decode cX11_bestAt 62 = .ok (.iinc 3 1, 3) := by decide +kernel
theorem dX11_bestAt_65 : decode cX11_bestAt 65 = .ok (.goto (-61), 3) := by decide +kernel
theorem dX11_bestAt_68 : decode cX11_bestAt 68 = .ok (.iload_n 2, 1) := by decide +kernel
theorem dX11_bestAt_69 : decode cX11_bestAt 69 = .ok (.iconst (-1), 1) := by decide +kernel
theorem dX11_bestAt_70 : decode cX11_bestAt 70 = .ok (.if_icmp .ne 7, 3) := by decide +kernel
theorem dX11_bestAt_73 : decode cX11_bestAt 73 = .ok (.lconst 0, 1) := by decide +kernel
theorem dX11_bestAt_74 : decode cX11_bestAt 74 = .ok (.goto 21, 3) := by decide +kernel
theorem dX11_bestAt_77 : decode cX11_bestAt 77 = .ok (.aload_n 0, 1) := by decide +kernel
theorem dX11_bestAt_78 : decode cX11_bestAt 78 = .ok (.getfield 156, 3) := by decide +kernel
theorem dX11_bestAt_81 : decode cX11_bestAt 81 = .ok (.iload_n 2, 1) := by decide +kernel
theorem dX11_bestAt_82 : decode cX11_bestAt 82 = .ok (.iaload, 1) := by decide +kernel
theorem dX11_bestAt_83 : decode cX11_bestAt 83 = .ok (.i2l, 1) := by decide +kernel
theorem dX11_bestAt_84 : decode cX11_bestAt 84 = .ok (.iload_n 1, 1) := by decide +kernel
theorem dX11_bestAt_85 : decode cX11_bestAt 85 = .ok (.i2l, 1) := by decide +kernel
theorem dX11_bestAt_86 : decode cX11_bestAt 86 = .ok (.lmul, 1) := by decide +kernel
theorem dX11_bestAt_87 : decode cX11_bestAt 87 = .ok (.aload_n 0, 1) := by decide +kernel
theorem dX11_bestAt_88 : decode cX11_bestAt 88 = .ok (.getfield 153, 3) := by decide +kernel
theorem dX11_bestAt_91 : decode cX11_bestAt 91 = .ok (.iload_n 2, 1) := by decide +kernel
theorem dX11_bestAt_92 : decode cX11_bestAt 92 = .ok (.iaload, 1) := by decide +kernel
theorem dX11_bestAt_93 : decode cX11_bestAt 93 = .ok (.i2l, 1) := by decide +kernel
theorem dX11_bestAt_94 : decode cX11_bestAt 94 = .ok (.ldiv, 1) := by decide +kernel
theorem dX11_bestAt_95 : decode cX11_bestAt 95 = .ok (.lreturn, 1) := by decide +kernel
theorem dX11_lineAt_0 : decode cX11_lineAt 0 = .ok (.aload_n 0, 1) := by decide +kernel
theorem dX11_lineAt_1 : decode cX11_lineAt 1 = .ok (.getfield 443, 3) := by decide +kernel
theorem dX11_lineAt_4 : decode cX11_lineAt 4 = .ok (.i2l, 1) := by decide +kernel
theorem dX11_lineAt_5 : decode cX11_lineAt 5 = .ok (.lstore_n 2, 1) := by decide +kernel
theorem dX11_lineAt_6 : decode cX11_lineAt 6 = .ok (.aload_n 0, 1) := by decide +kernel
theorem dX11_lineAt_7 : decode cX11_lineAt 7 = .ok (.aload_n 0, 1) := by decide +kernel
theorem dX11_lineAt_8 : decode cX11_lineAt 8 = .ok (.getfield 153, 3) := by decide +kernel
theorem dX11_lineAt_11 : decode cX11_lineAt 11 = .ok (.invokevirtual 450, 3) := by decide +kernel
theorem dX11_lineAt_14 : decode cX11_lineAt 14 = .ok (.lstore 4, 2) := by decide +kernel
theorem dX11_lineAt_16 : decode cX11_lineAt 16 = .ok (.aload_n 0, 1) := by decide +kernel
theorem dX11_lineAt_17 : decode cX11_lineAt 17 = .ok (.aload_n 0, 1) := by decide +kernel
theorem dX11_lineAt_18 : decode cX11_lineAt 18 = .ok (.getfield 156, 3) := by decide +kernel
theorem dX11_lineAt_21 : decode cX11_lineAt 21 = .ok (.invokevirtual 450, 3) := by decide +kernel
theorem dX11_lineAt_24 : decode cX11_lineAt 24 = .ok (.lstore 6, 2) := by decide +kernel
theorem dX11_lineAt_26 : decode cX11_lineAt 26 = .ok (.lconst 0, 1) := by decide +kernel
theorem dX11_lineAt_27 : decode cX11_lineAt 27 = .ok (.lstore 8, 2) := by decide +kernel
theorem dX11_lineAt_29 : decode cX11_lineAt 29 = .ok (.lconst 0, 1) := by decide +kernel
theorem dX11_lineAt_30 : decode cX11_lineAt 30 = .ok (.lstore 10, 2) := by decide +kernel
theorem dX11_lineAt_32 : decode cX11_lineAt 32 = .ok (.iconst 0, 1) := by decide +kernel
theorem dX11_lineAt_33 : decode cX11_lineAt 33 = .ok (.istore 12, 2) := by decide +kernel
theorem dX11_lineAt_35 : decode cX11_lineAt 35 = .ok (.iload 12, 2) := by decide +kernel
theorem dX11_lineAt_37 : decode cX11_lineAt 37 = .ok (.aload_n 0, 1) := by decide +kernel
theorem dX11_lineAt_38 : decode cX11_lineAt 38 = .ok (.getfield 443, 3) := by decide +kernel
theorem dX11_lineAt_41 : decode cX11_lineAt 41 = .ok (.if_icmp .ge 53, 3) := by decide +kernel
theorem dX11_lineAt_44 : decode cX11_lineAt 44 = .ok (.lload 8, 2) := by decide +kernel
theorem dX11_lineAt_46 : decode cX11_lineAt 46 = .ok (.aload_n 0, 1) := by decide +kernel
theorem dX11_lineAt_47 : decode cX11_lineAt 47 = .ok (.getfield 153, 3) := by decide +kernel
theorem dX11_lineAt_50 : decode cX11_lineAt 50 = .ok (.iload 12, 2) := by decide +kernel
theorem dX11_lineAt_52 : decode cX11_lineAt 52 = .ok (.iaload, 1) := by decide +kernel
theorem dX11_lineAt_53 : decode cX11_lineAt 53 = .ok (.i2l, 1) := by decide +kernel
theorem dX11_lineAt_54 : decode cX11_lineAt 54 = .ok (.aload_n 0, 1) := by decide +kernel
theorem dX11_lineAt_55 : decode cX11_lineAt 55 = .ok (.getfield 153, 3) := by decide +kernel
theorem dX11_lineAt_58 : decode cX11_lineAt 58 = .ok (.iload 12, 2) := by decide +kernel
theorem dX11_lineAt_60 : decode cX11_lineAt 60 = .ok (.iaload, 1) := by decide +kernel
theorem dX11_lineAt_61 : decode cX11_lineAt 61 = .ok (.i2l, 1) := by decide +kernel
theorem dX11_lineAt_62 : decode cX11_lineAt 62 = .ok (.lmul, 1) := by decide +kernel
theorem dX11_lineAt_63 : decode cX11_lineAt 63 = .ok (.ladd, 1) := by decide +kernel
theorem dX11_lineAt_64 : decode cX11_lineAt 64 = .ok (.lstore 8, 2) := by decide +kernel
theorem dX11_lineAt_66 : decode cX11_lineAt 66 = .ok (.lload 10, 2) := by decide +kernel
theorem dX11_lineAt_68 : decode cX11_lineAt 68 = .ok (.aload_n 0, 1) := by decide +kernel
theorem dX11_lineAt_69 : decode cX11_lineAt 69 = .ok (.getfield 153, 3) := by decide +kernel
theorem dX11_lineAt_72 : decode cX11_lineAt 72 = .ok (.iload 12, 2) := by decide +kernel
theorem dX11_lineAt_74 : decode cX11_lineAt 74 = .ok (.iaload, 1) := by decide +kernel
theorem dX11_lineAt_75 : decode cX11_lineAt 75 = .ok (.i2l, 1) := by decide +kernel
theorem dX11_lineAt_76 : decode cX11_lineAt 76 = .ok (.aload_n 0, 1) := by decide +kernel
theorem dX11_lineAt_77 : decode cX11_lineAt 77 = .ok (.getfield 156, 3) := by decide +kernel
theorem dX11_lineAt_80 : decode cX11_lineAt 80 = .ok (.iload 12, 2) := by decide +kernel
theorem dX11_lineAt_82 : decode cX11_lineAt 82 = .ok (.iaload, 1) := by decide +kernel
theorem dX11_lineAt_83 : decode cX11_lineAt 83 = .ok (.i2l, 1) := by decide +kernel
theorem dX11_lineAt_84 : decode cX11_lineAt 84 = .ok (.lmul, 1) := by decide +kernel
theorem dX11_lineAt_85 : decode cX11_lineAt 85 = .ok (.ladd, 1) := by decide +kernel
theorem dX11_lineAt_86 : decode cX11_lineAt 86 = .ok (.lstore 10, 2) := by decide +kernel
theorem dX11_lineAt_88 : decode cX11_lineAt 88 = .ok (.iinc 12 1, 3) := by decide +kernel
theorem dX11_lineAt_91 : decode cX11_lineAt 91 = .ok (.goto (-56), 3) := by decide +kernel
theorem dX11_lineAt_94 : decode cX11_lineAt 94 = .ok (.lload_n 2, 1) := by decide +kernel
theorem dX11_lineAt_95 : decode cX11_lineAt 95 = .ok (.lload 8, 2) := by decide +kernel
theorem dX11_lineAt_97 : decode cX11_lineAt 97 = .ok (.lmul, 1) := by decide +kernel
theorem dX11_lineAt_98 : decode cX11_lineAt 98 = .ok (.lload 4, 2) := by decide +kernel
theorem dX11_lineAt_100 : decode cX11_lineAt 100 = .ok (.lload 4, 2) := by decide +kernel
theorem dX11_lineAt_102 : decode cX11_lineAt 102 = .ok (.lmul, 1) := by decide +kernel
theorem dX11_lineAt_103 : decode cX11_lineAt 103 = .ok (.lsub, 1) := by decide +kernel
theorem dX11_lineAt_104 : decode cX11_lineAt 104 = .ok (.lstore 12, 2) := by decide +kernel
theorem dX11_lineAt_106 : decode cX11_lineAt 106 = .ok (.lload 12, 2) := by decide +kernel
theorem dX11_lineAt_108 : decode cX11_lineAt 108 = .ok (.lconst 0, 1) := by decide +kernel
theorem dX11_lineAt_109 : decode cX11_lineAt 109 = .ok (.lcmp, 1) := by decide +kernel
theorem dX11_lineAt_110 : decode cX11_lineAt 110 = .ok (.ifCond .ne 11, 3) := by decide +kernel
theorem dX11_lineAt_113 : decode cX11_lineAt 113 = .ok (.aload_n 0, 1) := by decide +kernel
theorem dX11_lineAt_114 : decode cX11_lineAt 114 = .ok (.iload_n 1, 1) := by decide +kernel
theorem dX11_lineAt_115 : decode cX11_lineAt 115 = .ok (.invokevirtual 453, 3) := by decide +kernel
theorem dX11_lineAt_118 : decode cX11_lineAt 118 = .ok (.goto 36, 3) := by decide +kernel
theorem dX11_lineAt_121 : decode cX11_lineAt 121 = .ok (.lconst 0, 1) := by decide +kernel
theorem dX11_lineAt_122 : decode cX11_lineAt 122 = .ok (.lload 6, 2) := by decide +kernel
theorem dX11_lineAt_124 : decode cX11_lineAt 124 = .ok (.lload 12, 2) := by decide +kernel
theorem dX11_lineAt_126 : decode cX11_lineAt 126 = .ok (.lmul, 1) := by decide +kernel
theorem dX11_lineAt_127 : decode cX11_lineAt 127 = .ok (.lload_n 2, 1) := by decide +kernel
theorem dX11_lineAt_128 : decode cX11_lineAt 128 = .ok (.lload 10, 2) := by decide +kernel
theorem dX11_lineAt_130 : decode cX11_lineAt 130 = .ok (.lmul, 1) := by decide +kernel
theorem dX11_lineAt_131 : decode cX11_lineAt 131 = .ok (.lload 4, 2) := by decide +kernel
theorem dX11_lineAt_133 : decode cX11_lineAt 133 = .ok (.lload 6, 2) := by decide +kernel
theorem dX11_lineAt_135 : decode cX11_lineAt 135 = .ok (.lmul, 1) := by decide +kernel
theorem dX11_lineAt_136 : decode cX11_lineAt 136 = .ok (.lsub, 1) := by decide +kernel
theorem dX11_lineAt_137 : decode cX11_lineAt 137 = .ok (.lload_n 2, 1) := by decide +kernel
theorem dX11_lineAt_138 : decode cX11_lineAt 138 = .ok (.iload_n 1, 1) := by decide +kernel
theorem dX11_lineAt_139 : decode cX11_lineAt 139 = .ok (.i2l, 1) := by decide +kernel
theorem dX11_lineAt_140 : decode cX11_lineAt 140 = .ok (.lmul, 1) := by decide +kernel
theorem dX11_lineAt_141 : decode cX11_lineAt 141 = .ok (.lload 4, 2) := by decide +kernel
theorem dX11_lineAt_143 : decode cX11_lineAt 143 = .ok (.lsub, 1) := by decide +kernel
theorem dX11_lineAt_144 : decode cX11_lineAt 144 = .ok (.lmul, 1) := by decide +kernel
theorem dX11_lineAt_145 : decode cX11_lineAt 145 = .ok (.ladd, 1) := by decide +kernel
theorem dX11_lineAt_146 : decode cX11_lineAt 146 = .ok (.lload_n 2, 1) := by decide +kernel
theorem dX11_lineAt_147 : decode cX11_lineAt 147 = .ok (.lload 12, 2) := by decide +kernel
theorem dX11_lineAt_149 : decode cX11_lineAt 149 = .ok (.lmul, 1) := by decide +kernel
theorem dX11_lineAt_150 : decode cX11_lineAt 150 = .ok (.ldiv, 1) := by decide +kernel
theorem dX11_lineAt_151 : decode cX11_lineAt 151 = .ok (.invokestatic 457, 3) := by decide +kernel
theorem dX11_lineAt_154 : decode cX11_lineAt 154 = .ok (.lreturn, 1) := by decide +kernel
theorem dX11_moded_0 : decode cX11_moded 0 = .ok (.lconst 0, 1) := by decide +kernel
theorem dX11_moded_1 : decode cX11_moded 1 = .ok (.ldc2_w 460, 3) := by decide +kernel
theorem dX11_moded_4 : decode cX11_moded 4 = .ok (.lload_n 0, 1) := by decide +kernel
theorem dX11_moded_5 : decode cX11_moded 5 = .ok (.invokestatic 462, 3) := by decide +kernel
theorem dX11_moded_8 : decode cX11_moded 8 = .ok (.invokestatic 457, 3) := by decide +kernel
theorem dX11_moded_11 : decode cX11_moded 11 = .ok (.lreturn, 1) := by decide +kernel
theorem dX11_driverOf_0 : decode cX11_driverOf 0 = .ok (.sipush 500, 3) := by decide +kernel
theorem dX11_driverOf_3 : decode cX11_driverOf 3 = .ok (.iload_n 2, 1) := by decide +kernel
theorem dX11_driverOf_4 : decode cX11_driverOf 4 = .ok (.iconst 5, 1) := by decide +kernel
theorem dX11_driverOf_5 : decode cX11_driverOf 5 = .ok (.idiv, 1) := by decide +kernel
theorem dX11_driverOf_6 : decode cX11_driverOf 6 = .ok (.imul, 1) := by decide +kernel
theorem dX11_driverOf_7 : decode cX11_driverOf 7 = .ok (.istore 4, 2) := by decide +kernel
theorem dX11_driverOf_9 : decode cX11_driverOf 9 = .ok (.iload_n 2, 1) := by decide +kernel
theorem dX11_driverOf_10 : decode cX11_driverOf 10 = .ok (.istore 5, 2) := by decide +kernel
theorem dX11_driverOf_12 : decode cX11_driverOf 12 = .ok (.iload 5, 2) := by decide +kernel
theorem dX11_driverOf_14 : decode cX11_driverOf 14 = .ok (.ifCond .lt 34, 3) := by decide +kernel
theorem dX11_driverOf_17 : decode cX11_driverOf 17 = .ok (.aload_n 0, 1) := by decide +kernel
theorem dX11_driverOf_18 : decode cX11_driverOf 18 = .ok (.iload_n 1, 1) := by decide +kernel
theorem dX11_driverOf_19 : decode cX11_driverOf 19 = .ok (.iload 5, 2) := by decide +kernel
theorem dX11_driverOf_21 : decode cX11_driverOf 21 = .ok (.iload_n 3, 1) := by decide +kernel
theorem dX11_driverOf_22 : decode cX11_driverOf 22 = .ok (.iload 4, 2) := by decide +kernel
theorem dX11_driverOf_24 : decode cX11_driverOf 24 = .ok (.invokevirtual 198, 3) := by decide +kernel
theorem dX11_driverOf_27 : decode cX11_driverOf 27 = .ok (.iconst (-1), 1) := by decide +kernel
theorem dX11_driverOf_28 : decode cX11_driverOf 28 = .ok (.if_icmp .eq 14, 3) := by decide +kernel
theorem dX11_driverOf_31 : decode cX11_driverOf 31 = .ok (.aload_n 0, 1) := by decide +kernel
theorem dX11_driverOf_32 : decode cX11_driverOf 32 = .ok (.iload_n 1, 1) := by decide +kernel
theorem dX11_driverOf_33 : decode cX11_driverOf 33 = .ok (.iload 5, 2) := by decide +kernel
theorem dX11_driverOf_35 : decode cX11_driverOf 35 = .ok (.iload_n 3, 1) := by decide +kernel
theorem dX11_driverOf_36 : decode cX11_driverOf 36 = .ok (.iload 4, 2) := by decide +kernel
theorem dX11_driverOf_38 : decode cX11_driverOf 38 = .ok (.invokevirtual 198, 3) := by decide +kernel
theorem dX11_driverOf_41 : decode cX11_driverOf 41 = .ok (.ireturn, 1) := by decide +kernel
theorem dX11_driverOf_42 : decode cX11_driverOf 42 = .ok (.iinc 5 (-1), 3) := by decide +kernel
theorem dX11_driverOf_45 : decode cX11_driverOf 45 = .ok (.goto (-33), 3) := by decide +kernel
theorem dX11_driverOf_48 : decode cX11_driverOf 48 = .ok (.iconst 0, 1) := by decide +kernel
theorem dX11_driverOf_49 : decode cX11_driverOf 49 = .ok (.ireturn, 1) := by decide +kernel
theorem dX11_allowedBy_0 : decode cX11_allowedBy 0 = .ok (.iload_n 1, 1) := by decide +kernel
theorem dX11_allowedBy_1 : decode cX11_allowedBy 1 = .ok (.iconst (-1), 1) := by decide +kernel
theorem dX11_allowedBy_2 : decode cX11_allowedBy 2 = .ok (.if_icmp .ne 5, 3) := by decide +kernel
theorem dX11_allowedBy_5 : decode cX11_allowedBy 5 = .ok (.iconst 0, 1) := by decide +kernel
theorem dX11_allowedBy_6 : decode cX11_allowedBy 6 = .ok (.ireturn, 1) := by decide +kernel
theorem dX11_allowedBy_7 : decode cX11_allowedBy 7 = .ok (.aload_n 0, 1) := by decide +kernel
theorem dX11_allowedBy_8 : decode cX11_allowedBy 8 = .ok (.getfield 87, 3) := by decide +kernel
theorem dX11_allowedBy_11 : decode cX11_allowedBy 11 = .ok (.iload_n 1, 1) := by decide +kernel
theorem dX11_allowedBy_12 : decode cX11_allowedBy 12 = .ok (.iaload, 1) := by decide +kernel
theorem dX11_allowedBy_13 : decode cX11_allowedBy 13 = .ok (.iconst 3, 1) := by decide +kernel
theorem dX11_allowedBy_14 : decode cX11_allowedBy 14 = .ok (.if_icmp .ne 32, 3) := by decide +kernel
theorem dX11_allowedBy_17 : decode cX11_allowedBy 17 = .ok (.iconst 0, 1) := by decide +kernel
theorem dX11_allowedBy_18 : decode cX11_allowedBy 18 = .ok (.aload_n 0, 1) := by decide +kernel
theorem dX11_allowedBy_19 : decode cX11_allowedBy 19 = .ok (.iload_n 2, 1) := by decide +kernel
theorem dX11_allowedBy_20 : decode cX11_allowedBy 20 = .ok (.iload 4, 2) := by decide +kernel
theorem dX11_allowedBy_22 : decode cX11_allowedBy 22 = .ok (.bipush 7, 2) := by decide +kernel
theorem dX11_allowedBy_24 : decode cX11_allowedBy 24 = .ok (.iload_n 3, 1) := by decide +kernel
theorem dX11_allowedBy_25 : decode cX11_allowedBy 25 = .ok (.iadd, 1) := by decide +kernel
theorem dX11_allowedBy_26 : decode cX11_allowedBy 26 = .ok (.sipush 500, 3) := by decide +kernel
theorem dX11_allowedBy_29 : decode cX11_allowedBy 29 = .ok (.iload 4, 2) := by decide +kernel
theorem dX11_allowedBy_31 : decode cX11_allowedBy 31 = .ok (.iconst 5, 1) := by decide +kernel
theorem dX11_allowedBy_32 : decode cX11_allowedBy 32 = .ok (.idiv, 1) := by decide +kernel
theorem dX11_allowedBy_33 : decode cX11_allowedBy 33 = .ok (.imul, 1) := by decide +kernel
theorem dX11_allowedBy_34 : decode cX11_allowedBy 34 = .ok (.invokevirtual 198, 3) := by decide +kernel
theorem dX11_allowedBy_37 : decode cX11_allowedBy 37 = .ok (.invokestatic 406, 3) := by decide +kernel
theorem dX11_allowedBy_40 : decode cX11_allowedBy 40 = .ok (.i2l, 1) := by decide +kernel
theorem dX11_allowedBy_41 : decode cX11_allowedBy 41 = .ok (.lstore 5, 2) := by decide +kernel
theorem dX11_allowedBy_43 : decode cX11_allowedBy 43 = .ok (.goto 80, 3) := by decide +kernel
theorem dX11_allowedBy_46 : decode cX11_allowedBy 46 = .ok (.aload_n 0, 1) := by decide +kernel
theorem dX11_allowedBy_47 : decode cX11_allowedBy 47 = .ok (.iload_n 2, 1) := by decide +kernel
theorem dX11_allowedBy_48 : decode cX11_allowedBy 48 = .ok (.iload_n 3, 1) := by decide +kernel
theorem dX11_allowedBy_49 : decode cX11_allowedBy 49 = .ok (.iload 4, 2) := by decide +kernel
theorem dX11_allowedBy_51 : decode cX11_allowedBy 51 = .ok (.iconst 5, 1) := by decide +kernel
theorem dX11_allowedBy_52 : decode cX11_allowedBy 52 = .ok (.idiv, 1) := by decide +kernel
theorem dX11_allowedBy_53 : decode cX11_allowedBy 53 = .ok (.aload_n 0, 1) := by decide +kernel
theorem dX11_allowedBy_54 : decode cX11_allowedBy 54 = .ok (.getfield 90, 3) := by decide +kernel
theorem dX11_allowedBy_57 : decode cX11_allowedBy 57 = .ok (.iload_n 1, 1) := by decide +kernel
theorem dX11_allowedBy_58 : decode cX11_allowedBy 58 = .ok (.iaload, 1) := by decide +kernel
theorem dX11_allowedBy_59 : decode cX11_allowedBy 59 = .ok (.iconst (-1), 1) := by decide +kernel
theorem dX11_allowedBy_60 : decode cX11_allowedBy 60 = .ok (.invokevirtual 446, 3) := by decide +kernel
theorem dX11_allowedBy_63 : decode cX11_allowedBy 63 = .ok (.aload_n 0, 1) := by decide +kernel
theorem dX11_allowedBy_64 : decode cX11_allowedBy 64 = .ok (.iload_n 2, 1) := by decide +kernel
theorem dX11_allowedBy_65 : decode cX11_allowedBy 65 = .ok (.iload 4, 2) := by decide +kernel
theorem dX11_allowedBy_67 : decode cX11_allowedBy 67 = .ok (.aload_n 0, 1) := by decide +kernel
theorem dX11_allowedBy_68 : decode cX11_allowedBy 68 = .ok (.getfield 90, 3) := by decide +kernel
theorem dX11_allowedBy_71 : decode cX11_allowedBy 71 = .ok (.iload_n 1, 1) := by decide +kernel
theorem dX11_allowedBy_72 : decode cX11_allowedBy 72 = .ok (.iaload, 1) := by decide +kernel
theorem dX11_allowedBy_73 : decode cX11_allowedBy 73 = .ok (.invokevirtual 465, 3) := by decide +kernel
theorem dX11_allowedBy_76 : decode cX11_allowedBy 76 = .ok (.istore 7, 2) := by decide +kernel
theorem dX11_allowedBy_78 : decode cX11_allowedBy 78 = .ok (.aload_n 0, 1) := by decide +kernel
theorem dX11_allowedBy_79 : decode cX11_allowedBy 79 = .ok (.getfield 87, 3) := by decide +kernel
theorem dX11_allowedBy_82 : decode cX11_allowedBy 82 = .ok (.iload_n 1, 1) := by decide +kernel
theorem dX11_allowedBy_83 : decode cX11_allowedBy 83 = .ok (.iaload, 1) := by decide +kernel
theorem dX11_allowedBy_84 : decode cX11_allowedBy 84 = .ok (.ifCond .ne 12, 3) := by decide +kernel
theorem dX11_allowedBy_87 : decode cX11_allowedBy 87 = .ok (.aload_n 0, 1) := by decide +kernel
theorem dX11_allowedBy_88 : decode cX11_allowedBy 88 = .ok (.iload 7, 2) := by decide +kernel
theorem dX11_allowedBy_90 : decode cX11_allowedBy 90 = .ok (.invokevirtual 468, 3) := by decide +kernel
theorem dX11_allowedBy_93 : decode cX11_allowedBy 93 = .ok (.goto 28, 3) := by decide +kernel
theorem dX11_allowedBy_96 : decode cX11_allowedBy 96 = .ok (.aload_n 0, 1) := by decide +kernel
theorem dX11_allowedBy_97 : decode cX11_allowedBy 97 = .ok (.getfield 87, 3) := by decide +kernel
theorem dX11_allowedBy_100 : decode cX11_allowedBy 100 = .ok (.iload_n 1, 1) := by decide +kernel
theorem dX11_allowedBy_101 : decode cX11_allowedBy 101 = .ok (.iaload, 1) := by decide +kernel
theorem dX11_allowedBy_102 : decode cX11_allowedBy 102 = .ok (.iconst 1, 1) := by decide +kernel
theorem dX11_allowedBy_103 : decode cX11_allowedBy 103 = .ok (.if_icmp .ne 12, 3) := by decide +kernel
theorem dX11_allowedBy_106 : decode cX11_allowedBy 106 = .ok (.aload_n 0, 1) := by decide +kernel
theorem dX11_allowedBy_107 : decode cX11_allowedBy 107 = .ok (.iload 7, 2) := by decide +kernel
theorem dX11_allowedBy_109 : decode cX11_allowedBy 109 = .ok (.invokevirtual 453, 3) := by decide +kernel
theorem dX11_allowedBy_112 : decode cX11_allowedBy 112 = .ok (.goto 9, 3) := by decide +kernel
theorem dX11_allowedBy_115 : decode cX11_allowedBy 115 = .ok (.aload_n 0, 1) := by decide +kernel
theorem dX11_allowedBy_116 : decode cX11_allowedBy 116 = .ok (.iload 7, 2) := by decide +kernel
theorem dX11_allowedBy_118 : decode cX11_allowedBy 118 = .ok (.invokevirtual 471, 3) := by decide +kernel
theorem dX11_allowedBy_121 : decode cX11_allowedBy 121 = .ok (.lstore 5, 2) := by decide +kernel
theorem dX11_allowedBy_123 : decode cX11_allowedBy 123 = .ok (.lload 5, 2) := by decide +kernel
theorem dX11_allowedBy_125 : decode cX11_allowedBy 125 = .ok (.invokestatic 474, 3) := by decide +kernel
theorem dX11_allowedBy_128 : decode cX11_allowedBy 128 = .ok (.aload_n 0, 1) := by decide +kernel
theorem dX11_allowedBy_129 : decode cX11_allowedBy 129 = .ok (.getfield 93, 3) := by decide +kernel
theorem dX11_allowedBy_132 : decode cX11_allowedBy 132 = .ok (.iload_n 1, 1) := by decide +kernel
theorem dX11_allowedBy_133 : decode cX11_allowedBy 133 = .ok (.iaload, 1) := by decide +kernel
theorem dX11_allowedBy_134 : decode cX11_allowedBy 134 = .ok (.i2l, 1) := by decide +kernel
theorem dX11_allowedBy_135 : decode cX11_allowedBy 135 = .ok (.lmul, 1) := by decide +kernel
theorem dX11_allowedBy_136 : decode cX11_allowedBy 136 = .ok (.ldc2_w 433, 3) := by decide +kernel
theorem dX11_allowedBy_139 : decode cX11_allowedBy 139 = .ok (.ldiv, 1) := by decide +kernel
theorem dX11_allowedBy_140 : decode cX11_allowedBy 140 = .ok (.l2i, 1) := by decide +kernel
theorem dX11_allowedBy_141 : decode cX11_allowedBy 141 = .ok (.ireturn, 1) := by decide +kernel
theorem dX11_allowedOf_0 : decode cX11_allowedOf 0 = .ok (.aload_n 0, 1) := by decide +kernel
theorem dX11_allowedOf_1 : decode cX11_allowedOf 1 = .ok (.getfield 208, 3) := by decide +kernel
theorem dX11_allowedOf_4 : decode cX11_allowedOf 4 = .ok (.iconst 1, 1) := by decide +kernel
theorem dX11_allowedOf_5 : decode cX11_allowedOf 5 = .ok (.isub, 1) := by decide +kernel
theorem dX11_allowedOf_6 : decode cX11_allowedOf 6 = .ok (.istore 5, 2) := by decide +kernel
theorem dX11_allowedOf_8 : decode cX11_allowedOf 8 = .ok (.iload 5, 2) := by decide +kernel
theorem dX11_allowedOf_10 : decode cX11_allowedOf 10 = .ok (.ifCond .lt 62, 3) := by decide +kernel
theorem dX11_allowedOf_13 : decode cX11_allowedOf 13 = .ok (.aload_n 0, 1) := by decide +kernel
theorem dX11_allowedOf_14 : decode cX11_allowedOf 14 = .ok (.getfield 38, 3) := by decide +kernel
theorem dX11_allowedOf_17 : decode cX11_allowedOf 17 = .ok (.iload 5, 2) := by decide +kernel
theorem dX11_allowedOf_19 : decode cX11_allowedOf 19 = .ok (.iaload, 1) := by decide +kernel
theorem dX11_allowedOf_20 : decode cX11_allowedOf 20 = .ok (.iload_n 1, 1) := by decide +kernel
theorem dX11_allowedOf_21 : decode cX11_allowedOf 21 = .ok (.if_icmp .ne 45, 3) := by decide +kernel
theorem dX11_allowedOf_24 : decode cX11_allowedOf 24 = .ok (.aload_n 0, 1) := by decide +kernel
theorem dX11_allowedOf_25 : decode cX11_allowedOf 25 = .ok (.getfield 41, 3) := by decide +kernel
theorem dX11_allowedOf_28 : decode cX11_allowedOf 28 = .ok (.iload 5, 2) := by decide +kernel
theorem dX11_allowedOf_30 : decode cX11_allowedOf 30 = .ok (.iaload, 1) := by decide +kernel
theorem dX11_allowedOf_31 : decode cX11_allowedOf 31 = .ok (.iload_n 2, 1) := by decide +kernel
theorem dX11_allowedOf_32 : decode cX11_allowedOf 32 = .ok (.if_icmp .ne 34, 3) := by decide +kernel
theorem dX11_allowedOf_35 : decode cX11_allowedOf 35 = .ok (.aload_n 0, 1) := by decide +kernel
theorem dX11_allowedOf_36 : decode cX11_allowedOf 36 = .ok (.getfield 44, 3) := by decide +kernel
theorem dX11_allowedOf_39 : decode cX11_allowedOf 39 = .ok (.iload 5, 2) := by decide +kernel
theorem dX11_allowedOf_41 : decode cX11_allowedOf 41 = .ok (.iaload, 1) := by decide +kernel
theorem dX11_allowedOf_42 : decode cX11_allowedOf 42 = .ok (.iload_n 3, 1) := by decide +kernel
theorem dX11_allowedOf_43 : decode cX11_allowedOf 43 = .ok (.if_icmp .ne 23, 3) := by decide +kernel
theorem dX11_allowedOf_46 : decode cX11_allowedOf 46 = .ok (.aload_n 0, 1) := by decide +kernel
theorem dX11_allowedOf_47 : decode cX11_allowedOf 47 = .ok (.getfield 50, 3) := by decide +kernel
theorem dX11_allowedOf_50 : decode cX11_allowedOf 50 = .ok (.iload 5, 2) := by decide +kernel
theorem dX11_allowedOf_52 : decode cX11_allowedOf 52 = .ok (.iaload, 1) := by decide +kernel
theorem dX11_allowedOf_53 : decode cX11_allowedOf 53 = .ok (.iload 4, 2) := by decide +kernel
theorem dX11_allowedOf_55 : decode cX11_allowedOf 55 = .ok (.if_icmp .gt 11, 3) := by decide +kernel
theorem dX11_allowedOf_58 : decode cX11_allowedOf 58 = .ok (.aload_n 0, 1) := by decide +kernel
theorem dX11_allowedOf_59 : decode cX11_allowedOf 59 = .ok (.getfield 47, 3) := by decide +kernel
theorem dX11_allowedOf_62 : decode cX11_allowedOf 62 = .ok (.iload 5, 2) := by decide +kernel
theorem dX11_allowedOf_64 : decode cX11_allowedOf 64 = .ok (.iaload, 1) := by decide +kernel
theorem dX11_allowedOf_65 : decode cX11_allowedOf 65 = .ok (.ireturn, 1) := by decide +kernel
theorem dX11_allowedOf_66 : decode cX11_allowedOf 66 = .ok (.iinc 5 (-1), 3) := by decide +kernel
theorem dX11_allowedOf_69 : decode cX11_allowedOf 69 = .ok (.goto (-61), 3) := by decide +kernel
theorem dX11_allowedOf_72 : decode cX11_allowedOf 72 = .ok (.aload_n 0, 1) := by decide +kernel
theorem dX11_allowedOf_73 : decode cX11_allowedOf 73 = .ok (.aload_n 0, 1) := by decide +kernel
theorem dX11_allowedOf_74 : decode cX11_allowedOf 74 = .ok (.iload_n 1, 1) := by decide +kernel
theorem dX11_allowedOf_75 : decode cX11_allowedOf 75 = .ok (.iload_n 3, 1) := by decide +kernel
theorem dX11_allowedOf_76 : decode cX11_allowedOf 76 = .ok (.iconst 0, 1) := by decide +kernel
theorem dX11_allowedOf_77 : decode cX11_allowedOf 77 = .ok (.iload_n 2, 1) := by decide +kernel
theorem dX11_allowedOf_78 : decode cX11_allowedOf 78 = .ok (.invokevirtual 417, 3) := by decide +kernel
theorem dX11_allowedOf_81 : decode cX11_allowedOf 81 = .ok (.iload_n 1, 1) := by decide +kernel
theorem dX11_allowedOf_82 : decode cX11_allowedOf 82 = .ok (.iload_n 2, 1) := by decide +kernel
theorem dX11_allowedOf_83 : decode cX11_allowedOf 83 = .ok (.iload_n 3, 1) := by decide +kernel
theorem dX11_allowedOf_84 : decode cX11_allowedOf 84 = .ok (.invokevirtual 478, 3) := by decide +kernel
theorem dX11_allowedOf_87 : decode cX11_allowedOf 87 = .ok (.ireturn, 1) := by decide +kernel
theorem dX11_allowed_0 : decode cX11_allowed 0 = .ok (.aload_n 0, 1) := by decide +kernel
theorem dX11_allowed_1 : decode cX11_allowed 1 = .ok (.iload_n 1, 1) := by decide +kernel
theorem dX11_allowed_2 : decode cX11_allowed 2 = .ok (.invokevirtual 177, 3) := by decide +kernel
theorem dX11_allowed_5 : decode cX11_allowed 5 = .ok (.ifCond .eq 25, 3) := by decide +kernel
theorem dX11_allowed_8 : decode cX11_allowed 8 = .ok (.iload_n 2, 1) := by decide +kernel
theorem dX11_allowed_9 : decode cX11_allowed 9 = .ok (.invokestatic 205, 3) := by decide +kernel
theorem dX11_allowed_12 : decode cX11_allowed 12 = .ok (.ifCond .eq 18, 3) := by decide +kernel
theorem dX11_allowed_15 : decode cX11_allowed 15 = .ok (.iload_n 3, 1) := by decide +kernel
theorem dX11_allowed_16 : decode cX11_allowed 16 = .ok (.invokestatic 181, 3) := by decide +kernel
theorem dX11_allowed_19 : decode cX11_allowed 19 = .ok (.ifCond .eq 11, 3) := by decide +kernel
theorem dX11_allowed_22 : decode cX11_allowed 22 = .ok (.iload 4, 2) := by decide +kernel
theorem dX11_allowed_24 : decode cX11_allowed 24 = .ok (.invokestatic 195, 3) := by decide +kernel
theorem dX11_allowed_27 : decode cX11_allowed 27 = .ok (.ifCond .ne 7, 3) := by decide +kernel
theorem dX11_allowed_30 : decode cX11_allowed 30 = .ok (.ldc_w 481, 3) := by decide +kernel
theorem dX11_allowed_33 : decode cX11_allowed 33 = .ok (.ireturn, 1) := by decide +kernel
theorem dX11_allowed_34 : decode cX11_allowed 34 = .ok (.aload_n 0, 1) := by decide +kernel
theorem dX11_allowed_35 : decode cX11_allowed 35 = .ok (.iload_n 1, 1) := by decide +kernel
theorem dX11_allowed_36 : decode cX11_allowed 36 = .ok (.invokevirtual 438, 3) := by decide +kernel
theorem dX11_allowed_39 : decode cX11_allowed 39 = .ok (.aload_n 0, 1) := by decide +kernel
theorem dX11_allowed_40 : decode cX11_allowed 40 = .ok (.iload_n 1, 1) := by decide +kernel
theorem dX11_allowed_41 : decode cX11_allowed 41 = .ok (.iload_n 2, 1) := by decide +kernel
theorem dX11_allowed_42 : decode cX11_allowed 42 = .ok (.iload_n 3, 1) := by decide +kernel
theorem dX11_allowed_43 : decode cX11_allowed 43 = .ok (.iload 4, 2) := by decide +kernel
theorem dX11_allowed_45 : decode cX11_allowed 45 = .ok (.invokevirtual 482, 3) := by decide +kernel
theorem dX11_allowed_48 : decode cX11_allowed 48 = .ok (.ireturn, 1) := by decide +kernel
theorem dX11_span_0 : decode cX11_span 0 = .ok (.aload_n 0, 1) := by decide +kernel
theorem dX11_span_1 : decode cX11_span 1 = .ok (.iload_n 1, 1) := by decide +kernel
theorem dX11_span_2 : decode cX11_span 2 = .ok (.invokevirtual 177, 3) := by decide +kernel
theorem dX11_span_5 : decode cX11_span 5 = .ok (.ifCond .eq 49, 3) := by decide +kernel
theorem dX11_span_8 : decode cX11_span 8 = .ok (.iload_n 2, 1) := by decide +kernel
theorem dX11_span_9 : decode cX11_span 9 = .ok (.invokestatic 205, 3) := by decide +kernel
theorem dX11_span_12 : decode cX11_span 12 = .ok (.ifCond .eq 42, 3) := by decide +kernel
theorem dX11_span_15 : decode cX11_span 15 = .ok (.iload_n 3, 1) := by decide +kernel
theorem dX11_span_16 : decode cX11_span 16 = .ok (.invokestatic 383, 3) := by decide +kernel
theorem dX11_span_19 : decode cX11_span 19 = .ok (.ifCond .eq 35, 3) := by decide +kernel
theorem dX11_span_22 : decode cX11_span 22 = .ok (.iload 4, 2) := by decide +kernel
theorem dX11_span_24 : decode cX11_span 24 = .ok (.iconst 0, 1) := by decide +kernel
theorem dX11_span_25 : decode cX11_span 25 = .ok (.iconst 2, 1) := by decide +kernel
theorem dX11_span_26 : decode cX11_span 26 = .ok (.invokestatic 165, 3) := by decide +kernel
theorem dX11_span_29 : decode cX11_span 29 = .ok (.ifCond .eq 25, 3) := by decide +kernel
theorem dX11_span_32 : decode cX11_span 32 = .ok (.iload 5, 2) := by decide +kernel
theorem dX11_span_34 : decode cX11_span 34 = .ok (.iconst 0, 1) := by decide +kernel
theorem dX11_span_35 : decode cX11_span 35 = .ok (.sipush 999, 3) := by decide +kernel
theorem dX11_span_38 : decode cX11_span 38 = .ok (.invokestatic 165, 3) := by decide +kernel
theorem dX11_span_41 : decode cX11_span 41 = .ok (.ifCond .eq 13, 3) := by decide +kernel
theorem dX11_span_44 : decode cX11_span 44 = .ok (.iload 6, 2) := by decide +kernel
theorem dX11_span_46 : decode cX11_span 46 = .ok (.iconst 0, 1) := by decide +kernel
theorem dX11_span_47 : decode cX11_span 47 = .ok (.iconst 2, 1) := by decide +kernel
theorem dX11_span_48 : decode cX11_span 48 = .ok (.invokestatic 165, 3) := by decide +kernel
theorem dX11_span_51 : decode cX11_span 51 = .ok (.ifCond .ne 5, 3) := by decide +kernel
theorem dX11_span_54 : decode cX11_span 54 = .ok (.iconst (-1), 1) := by decide +kernel
theorem dX11_span_55 : decode cX11_span 55 = .ok (.ireturn, 1) := by decide +kernel
theorem dX11_span_56 : decode cX11_span 56 = .ok (.aload_n 0, 1) := by decide +kernel
theorem dX11_span_57 : decode cX11_span 57 = .ok (.iload_n 1, 1) := by decide +kernel
theorem dX11_span_58 : decode cX11_span 58 = .ok (.iload_n 2, 1) := by decide +kernel
theorem dX11_span_59 : decode cX11_span 59 = .ok (.iload_n 3, 1) := by decide +kernel
theorem dX11_span_60 : decode cX11_span 60 = .ok (.iload 4, 2) := by decide +kernel
theorem dX11_span_62 : decode cX11_span 62 = .ok (.iconst (-1), 1) := by decide +kernel
theorem dX11_span_63 : decode cX11_span 63 = .ok (.invokevirtual 446, 3) := by decide +kernel
theorem dX11_span_66 : decode cX11_span 66 = .ok (.aload_n 0, 1) := by decide +kernel
theorem dX11_span_67 : decode cX11_span 67 = .ok (.getfield 443, 3) := by decide +kernel
theorem dX11_span_70 : decode cX11_span 70 = .ok (.ifCond .ne 5, 3) := by decide +kernel
theorem dX11_span_73 : decode cX11_span 73 = .ok (.iconst (-1), 1) := by decide +kernel
theorem dX11_span_74 : decode cX11_span 74 = .ok (.ireturn, 1) := by decide +kernel
theorem dX11_span_75 : decode cX11_span 75 = .ok (.iload 6, 2) := by decide +kernel
theorem dX11_span_77 : decode cX11_span 77 = .ok (.ifCond .ne 14, 3) := by decide +kernel
theorem dX11_span_80 : decode cX11_span 80 = .ok (.aload_n 0, 1) := by decide +kernel
theorem dX11_span_81 : decode cX11_span 81 = .ok (.iload 5, 2) := by decide +kernel
theorem dX11_span_83 : decode cX11_span 83 = .ok (.invokevirtual 468, 3) := by decide +kernel
theorem dX11_span_86 : decode cX11_span 86 = .ok (.invokestatic 474, 3) := by decide +kernel
theorem dX11_span_89 : decode cX11_span 89 = .ok (.l2i, 1) := by decide +kernel
theorem dX11_span_90 : decode cX11_span 90 = .ok (.ireturn, 1) := by decide +kernel
theorem dX11_span_91 : decode cX11_span 91 = .ok (.iconst 0, 1) := by decide +kernel
theorem dX11_span_92 : decode cX11_span 92 = .ok (.istore 7, 2) := by decide +kernel
theorem dX11_span_94 : decode cX11_span 94 = .ok (.iconst 0, 1) := by decide +kernel
theorem dX11_span_95 : decode cX11_span 95 = .ok (.istore 8, 2) := by decide +kernel
theorem dX11_span_97 : decode cX11_span 97 = .ok (.iload 8, 2) := by decide +kernel
theorem dX11_span_99 : decode cX11_span 99 = .ok (.aload_n 0, 1) := by decide +kernel
theorem dX11_span_100 : decode cX11_span 100 = .ok (.getfield 443, 3) := by decide +kernel
theorem dX11_span_103 : decode cX11_span 103 = .ok (.if_icmp .ge 23, 3) := by decide +kernel
theorem dX11_span_106 : decode cX11_span 106 = .ok (.iload 7, 2) := by decide +kernel
theorem dX11_span_108 : decode cX11_span 108 = .ok (.iconst 1, 1) := by decide +kernel
theorem dX11_span_109 : decode cX11_span 109 = .ok (.aload_n 0, 1) := by decide +kernel
theorem dX11_span_110 : decode cX11_span 110 = .ok (.getfield 159, 3) := by decide +kernel
theorem dX11_span_113 : decode cX11_span 113 = .ok (.iload 8, 2) := by decide +kernel
theorem dX11_span_115 : decode cX11_span 115 = .ok (.iaload, 1) := by decide +kernel
theorem dX11_span_116 : decode cX11_span 116 = .ok (.ishl, 1) := by decide +kernel
theorem dX11_span_117 : decode cX11_span 117 = .ok (.ior, 1) := by decide +kernel
theorem dX11_span_118 : decode cX11_span 118 = .ok (.istore 7, 2) := by decide +kernel
theorem dX11_span_120 : decode cX11_span 120 = .ok (.iinc 8 1, 3) := by decide +kernel
theorem dX11_span_123 : decode cX11_span 123 = .ok (.goto (-26), 3) := by decide +kernel
theorem dX11_span_126 : decode cX11_span 126 = .ok (.ldc2_w 460, 3) := by decide +kernel
theorem dX11_span_129 : decode cX11_span 129 = .ok (.lstore 8, 2) := by decide +kernel
theorem dX11_span_131 : decode cX11_span 131 = .ok (.lconst 0, 1) := by decide +kernel
theorem dX11_span_132 : decode cX11_span 132 = .ok (.lstore 10, 2) := by decide +kernel
theorem dX11_span_134 : decode cX11_span 134 = .ok (.iconst 0, 1) := by decide +kernel
theorem dX11_span_135 : decode cX11_span 135 = .ok (.istore 12, 2) := by decide +kernel
theorem dX11_span_137 : decode cX11_span 137 = .ok (.iload 12, 2) := by decide +kernel
theorem dX11_span_139 : decode cX11_span 139 = .ok (.aload_n 0, 1) := by decide +kernel
theorem dX11_span_140 : decode cX11_span 140 = .ok (.getfield 169, 3) := by decide +kernel
theorem dX11_span_143 : decode cX11_span 143 = .ok (.if_icmp .ge 62, 3) := by decide +kernel
theorem dX11_span_146 : decode cX11_span 146 = .ok (.iload 7, 2) := by decide +kernel
theorem dX11_span_148 : decode cX11_span 148 = .ok (.iload 12, 2) := by decide +kernel
theorem dX11_span_150 : decode cX11_span 150 = .ok (.ishr, 1) := by decide +kernel
theorem dX11_span_151 : decode cX11_span 151 = .ok (.iconst 1, 1) := by decide +kernel
theorem dX11_span_152 : decode cX11_span 152 = .ok (.iand, 1) := by decide +kernel
theorem dX11_span_153 : decode cX11_span 153 = .ok (.ifCond .ne 6, 3) := by decide +kernel
theorem dX11_span_156 : decode cX11_span 156 = .ok (.goto 43, 3) := by decide +kernel
theorem dX11_span_159 : decode cX11_span 159 = .ok (.aload_n 0, 1) := by decide +kernel
theorem dX11_span_160 : decode cX11_span 160 = .ok (.iload_n 1, 1) := by decide +kernel
theorem dX11_span_161 : decode cX11_span 161 = .ok (.iload_n 2, 1) := by decide +kernel
theorem dX11_span_162 : decode cX11_span 162 = .ok (.iload_n 3, 1) := by decide +kernel
theorem dX11_span_163 : decode cX11_span 163 = .ok (.iload 4, 2) := by decide +kernel
theorem dX11_span_165 : decode cX11_span 165 = .ok (.iload 12, 2) := by decide +kernel
theorem dX11_span_167 : decode cX11_span 167 = .ok (.invokevirtual 446, 3) := by decide +kernel
theorem dX11_span_170 : decode cX11_span 170 = .ok (.aload_n 0, 1) := by decide +kernel
theorem dX11_span_171 : decode cX11_span 171 = .ok (.iload 5, 2) := by decide +kernel
theorem dX11_span_173 : decode cX11_span 173 = .ok (.invokevirtual 468, 3) := by decide +kernel
theorem dX11_span_176 : decode cX11_span 176 = .ok (.invokestatic 474, 3) := by decide +kernel
theorem dX11_span_179 : decode cX11_span 179 = .ok (.lstore 13, 2) := by decide +kernel
theorem dX11_span_181 : decode cX11_span 181 = .ok (.lload 8, 2) := by decide +kernel
theorem dX11_span_183 : decode cX11_span 183 = .ok (.lload 13, 2) := by decide +kernel
theorem dX11_span_185 : decode cX11_span 185 = .ok (.invokestatic 462, 3) := by decide +kernel
theorem dX11_span_188 : decode cX11_span 188 = .ok (.lstore 8, 2) := by decide +kernel
theorem dX11_span_190 : decode cX11_span 190 = .ok (.lload 10, 2) := by decide +kernel
theorem dX11_span_192 : decode cX11_span 192 = .ok (.lload 13, 2) := by decide +kernel
theorem dX11_span_194 : decode cX11_span 194 = .ok (.invokestatic 457, 3) := by decide +kernel
theorem dX11_span_197 : decode cX11_span 197 = .ok (.lstore 10, 2) := by decide +kernel
theorem dX11_span_199 : decode cX11_span 199 = .ok (.iinc 12 1, 3) := by decide +kernel
theorem dX11_span_202 : decode cX11_span 202 = .ok (.goto (-65), 3) := by decide +kernel
theorem dX11_span_205 : decode cX11_span 205 = .ok (.iload 6, 2) := by decide +kernel
theorem dX11_span_207 : decode cX11_span 207 = .ok (.iconst 1, 1) := by decide +kernel
theorem dX11_span_208 : decode cX11_span 208 = .ok (.if_icmp .ne 8, 3) := by decide +kernel
theorem dX11_span_211 : decode cX11_span 211 = .ok (.lload 8, 2) := by decide +kernel
theorem dX11_span_213 : decode cX11_span 213 = .ok (.goto 5, 3) := by decide +kernel
theorem dX11_span_216 : decode cX11_span 216 = .ok (.lload 10, 2) := by decide +kernel
theorem dX11_span_218 : decode cX11_span 218 = .ok (.l2i, 1) := by decide +kernel
theorem dX11_span_219 : decode cX11_span 219 = .ok (.ireturn, 1) := by decide +kernel
theorem dX11_moves_0 : decode cX11_moves 0 = .ok (.aload_n 0, 1) := by decide +kernel
theorem dX11_moves_1 : decode cX11_moves 1 = .ok (.iload_n 1, 1) := by decide +kernel
theorem dX11_moves_2 : decode cX11_moves 2 = .ok (.invokevirtual 177, 3) := by decide +kernel
theorem dX11_moves_5 : decode cX11_moves 5 = .ok (.ifCond .eq 17, 3) := by decide +kernel
theorem dX11_moves_8 : decode cX11_moves 8 = .ok (.iload_n 2, 1) := by decide +kernel
theorem dX11_moves_9 : decode cX11_moves 9 = .ok (.invokestatic 205, 3) := by decide +kernel
theorem dX11_moves_12 : decode cX11_moves 12 = .ok (.ifCond .eq 10, 3) := by decide +kernel
theorem dX11_moves_15 : decode cX11_moves 15 = .ok (.iload_n 3, 1) := by decide +kernel
theorem dX11_moves_16 : decode cX11_moves 16 = .ok (.invokestatic 383, 3) := by decide +kernel
theorem dX11_moves_19 : decode cX11_moves 19 = .ok (.ifCond .ne 5, 3) := by decide +kernel
theorem dX11_moves_22 : decode cX11_moves 22 = .ok (.iconst (-1), 1) := by decide +kernel
theorem dX11_moves_23 : decode cX11_moves 23 = .ok (.ireturn, 1) := by decide +kernel
theorem dX11_moves_24 : decode cX11_moves 24 = .ok (.iconst (-1), 1) := by decide +kernel
theorem dX11_moves_25 : decode cX11_moves 25 = .ok (.istore 4, 2) := by decide +kernel
theorem dX11_moves_27 : decode cX11_moves 27 = .ok (.lconst 0, 1) := by decide +kernel
theorem dX11_moves_28 : decode cX11_moves 28 = .ok (.lstore 5, 2) := by decide +kernel
theorem dX11_moves_30 : decode cX11_moves 30 = .ok (.iconst 0, 1) := by decide +kernel
theorem dX11_moves_31 : decode cX11_moves 31 = .ok (.istore 7, 2) := by decide +kernel
theorem dX11_moves_33 : decode cX11_moves 33 = .ok (.iload 7, 2) := by decide +kernel
theorem dX11_moves_35 : decode cX11_moves 35 = .ok (.iconst 3, 1) := by decide +kernel
theorem dX11_moves_36 : decode cX11_moves 36 = .ok (.if_icmp .ge 106, 3) := by decide +kernel
theorem dX11_moves_39 : decode cX11_moves 39 = .ok (.aload_n 0, 1) := by decide +kernel
theorem dX11_moves_40 : decode cX11_moves 40 = .ok (.iload_n 1, 1) := by decide +kernel
theorem dX11_moves_41 : decode cX11_moves 41 = .ok (.iload_n 2, 1) := by decide +kernel
theorem dX11_moves_42 : decode cX11_moves 42 = .ok (.iload_n 3, 1) := by decide +kernel
theorem dX11_moves_43 : decode cX11_moves 43 = .ok (.iload 7, 2) := by decide +kernel
theorem dX11_moves_45 : decode cX11_moves 45 = .ok (.iconst (-1), 1) := by decide +kernel
theorem dX11_moves_46 : decode cX11_moves 46 = .ok (.invokevirtual 446, 3) := by decide +kernel
theorem dX11_moves_49 : decode cX11_moves 49 = .ok (.aload_n 0, 1) := by decide +kernel
theorem dX11_moves_50 : decode cX11_moves 50 = .ok (.getfield 443, 3) := by decide +kernel
theorem dX11_moves_53 : decode cX11_moves 53 = .ok (.ifCond .ne 6, 3) := by decide +kernel
theorem dX11_moves_56 : decode cX11_moves 56 = .ok (.goto 80, 3) := by decide +kernel
theorem dX11_moves_59 : decode cX11_moves 59 = .ok (.lconst 0, 1) := by decide +kernel
theorem dX11_moves_60 : decode cX11_moves 60 = .ok (.lstore 8, 2) := by decide +kernel
theorem dX11_moves_62 : decode cX11_moves 62 = .ok (.iconst 0, 1) := by decide +kernel
theorem dX11_moves_63 : decode cX11_moves 63 = .ok (.istore 10, 2) := by decide +kernel
theorem dX11_moves_65 : decode cX11_moves 65 = .ok (.iload 10, 2) := by decide +kernel
theorem dX11_moves_67 : decode cX11_moves 67 = .ok (.aload_n 0, 1) := by decide +kernel
theorem dX11_moves_68 : decode cX11_moves 68 = .ok (.getfield 443, 3) := by decide +kernel
theorem dX11_moves_71 : decode cX11_moves 71 = .ok (.if_icmp .ge 40, 3) := by decide +kernel
theorem dX11_moves_74 : decode cX11_moves 74 = .ok (.lload 8, 2) := by decide +kernel
theorem dX11_moves_76 : decode cX11_moves 76 = .ok (.aload_n 0, 1) := by decide +kernel
theorem dX11_moves_77 : decode cX11_moves 77 = .ok (.getfield 156, 3) := by decide +kernel
theorem dX11_moves_80 : decode cX11_moves 80 = .ok (.iload 10, 2) := by decide +kernel
theorem dX11_moves_82 : decode cX11_moves 82 = .ok (.iaload, 1) := by decide +kernel
theorem dX11_moves_83 : decode cX11_moves 83 = .ok (.i2l, 1) := by decide +kernel
theorem dX11_moves_84 : decode cX11_moves 84 = .ok (.aload_n 0, 1) := by decide +kernel
theorem dX11_moves_85 : decode cX11_moves 85 = .ok (.aload_n 0, 1) := by decide +kernel
theorem dX11_moves_86 : decode cX11_moves 86 = .ok (.getfield 153, 3) := by decide +kernel
theorem dX11_moves_89 : decode cX11_moves 89 = .ok (.iload 10, 2) := by decide +kernel
theorem dX11_moves_91 : decode cX11_moves 91 = .ok (.iaload, 1) := by decide +kernel
theorem dX11_moves_92 : decode cX11_moves 92 = .ok (.invokevirtual 468, 3) := by decide +kernel
theorem dX11_moves_95 : decode cX11_moves 95 = .ok (.invokestatic 474, 3) := by decide +kernel
theorem dX11_moves_98 : decode cX11_moves 98 = .ok (.lsub, 1) := by decide +kernel
theorem dX11_moves_99 : decode cX11_moves 99 = .ok (.invokestatic 485, 3) := by decide +kernel
theorem dX11_moves_102 : decode cX11_moves 102 = .ok (.ladd, 1) := by decide +kernel
theorem dX11_moves_103 : decode cX11_moves 103 = .ok (.lstore 8, 2) := by decide +kernel
theorem dX11_moves_105 : decode cX11_moves 105 = .ok (.iinc 10 1, 3) := by decide +kernel
theorem dX11_moves_108 : decode cX11_moves 108 = .ok (.goto (-43), 3) := by decide +kernel
theorem dX11_moves_111 : decode cX11_moves 111 = .ok (.iload 4, 2) := by decide +kernel
theorem dX11_moves_113 : decode cX11_moves 113 = .ok (.iconst (-1), 1) := by decide +kernel
theorem dX11_moves_114 : decode cX11_moves 114 = .ok (.if_icmp .eq 14, 3) := by decide +kernel
theorem dX11_moves_117 : decode cX11_moves 117 = .ok (.lload 8, 2) := by decide +kernel
theorem dX11_moves_119 : decode cX11_moves 119 = .ok (.lload 5, 2) := by decide +kernel
theorem dX11_moves_121 : decode cX11_moves 121 = .ok (.lcmp, 1) := by decide +kernel
theorem dX11_moves_122 : decode cX11_moves 122 = .ok (.ifCond .lt 6, 3) := by decide +kernel
theorem dX11_moves_125 : decode cX11_moves 125 = .ok (.goto 11, 3) := by decide +kernel
theorem dX11_moves_128 : decode cX11_moves 128 = .ok (.iload 7, 2) := by decide +kernel
theorem dX11_moves_130 : decode cX11_moves 130 = .ok (.istore 4, 2) := by decide +kernel
theorem dX11_moves_132 : decode cX11_moves 132 = .ok (.lload 8, 2) := by decide +kernel
theorem dX11_moves_134 : decode cX11_moves 134 = .ok (.lstore 5, 2) := by decide +kernel
theorem dX11_moves_136 : decode cX11_moves 136 = .ok (.iinc 7 1, 3) := by decide +kernel
theorem dX11_moves_139 : decode cX11_moves 139 = .ok (.goto (-106), 3) := by decide +kernel
theorem dX11_moves_142 : decode cX11_moves 142 = .ok (.iload 4, 2) := by decide +kernel
theorem dX11_moves_144 : decode cX11_moves 144 = .ok (.ireturn, 1) := by decide +kernel
theorem dX11_bears_0 : decode cX11_bears 0 = .ok (.lload_n 0, 1) := by decide +kernel
theorem dX11_bears_1 : decode cX11_bears 1 = .ok (.lconst 0, 1) := by decide +kernel
theorem dX11_bears_2 : decode cX11_bears 2 = .ok (.lcmp, 1) := by decide +kernel
theorem dX11_bears_3 : decode cX11_bears 3 = .ok (.ifCond .le 14, 3) := by decide +kernel
theorem dX11_bears_6 : decode cX11_bears 6 = .ok (.lload_n 0, 1) := by decide +kernel
theorem dX11_bears_7 : decode cX11_bears 7 = .ok (.iload_n 2, 1) := by decide +kernel
theorem dX11_bears_8 : decode cX11_bears 8 = .ok (.i2l, 1) := by decide +kernel
theorem dX11_bears_9 : decode cX11_bears 9 = .ok (.lmul, 1) := by decide +kernel
theorem dX11_bears_10 : decode cX11_bears 10 = .ok (.ldc2_w 433, 3) := by decide +kernel
theorem dX11_bears_13 : decode cX11_bears 13 = .ok (.ldiv, 1) := by decide +kernel
theorem dX11_bears_14 : decode cX11_bears 14 = .ok (.goto 11, 3) := by decide +kernel
theorem dX11_bears_17 : decode cX11_bears 17 = .ok (.lload_n 0, 1) := by decide +kernel
theorem dX11_bears_18 : decode cX11_bears 18 = .ok (.iload_n 3, 1) := by decide +kernel
theorem dX11_bears_19 : decode cX11_bears 19 = .ok (.i2l, 1) := by decide +kernel
theorem dX11_bears_20 : decode cX11_bears 20 = .ok (.lmul, 1) := by decide +kernel
theorem dX11_bears_21 : decode cX11_bears 21 = .ok (.ldc2_w 433, 3) := by decide +kernel
theorem dX11_bears_24 : decode cX11_bears 24 = .ok (.ldiv, 1) := by decide +kernel
theorem dX11_bears_25 : decode cX11_bears 25 = .ok (.lreturn, 1) := by decide +kernel
theorem dX11_bearsBy_0 : decode cX11_bearsBy 0 = .ok (.aload_n 0, 1) := by decide +kernel
theorem dX11_bearsBy_1 : decode cX11_bearsBy 1 = .ok (.iload_n 1, 1) := by decide +kernel
theorem dX11_bearsBy_2 : decode cX11_bearsBy 2 = .ok (.iload_n 3, 1) := by decide +kernel
theorem dX11_bearsBy_3 : decode cX11_bearsBy 3 = .ok (.iconst 1, 1) := by decide +kernel
theorem dX11_bearsBy_4 : decode cX11_bearsBy 4 = .ok (.iload_n 2, 1) := by decide +kernel
theorem dX11_bearsBy_5 : decode cX11_bearsBy 5 = .ok (.invokevirtual 417, 3) := by decide +kernel
theorem dX11_bearsBy_8 : decode cX11_bearsBy 8 = .ok (.istore 6, 2) := by decide +kernel
theorem dX11_bearsBy_10 : decode cX11_bearsBy 10 = .ok (.iload 6, 2) := by decide +kernel
theorem dX11_bearsBy_12 : decode cX11_bearsBy 12 = .ok (.iconst (-1), 1) := by decide +kernel
theorem dX11_bearsBy_13 : decode cX11_bearsBy 13 = .ok (.if_icmp .ne 7, 3) := by decide +kernel
theorem dX11_bearsBy_16 : decode cX11_bearsBy 16 = .ok (.lconst 0, 1) := by decide +kernel
theorem dX11_bearsBy_17 : decode cX11_bearsBy 17 = .ok (.goto 22, 3) := by decide +kernel
theorem dX11_bearsBy_20 : decode cX11_bearsBy 20 = .ok (.lload 4, 2) := by decide +kernel
theorem dX11_bearsBy_22 : decode cX11_bearsBy 22 = .ok (.aload_n 0, 1) := by decide +kernel
theorem dX11_bearsBy_23 : decode cX11_bearsBy 23 = .ok (.getfield 90, 3) := by decide +kernel
theorem dX11_bearsBy_26 : decode cX11_bearsBy 26 = .ok (.iload 6, 2) := by decide +kernel
theorem dX11_bearsBy_28 : decode cX11_bearsBy 28 = .ok (.iaload, 1) := by decide +kernel
theorem dX11_bearsBy_29 : decode cX11_bearsBy 29 = .ok (.aload_n 0, 1) := by decide +kernel
theorem dX11_bearsBy_30 : decode cX11_bearsBy 30 = .ok (.getfield 93, 3) := by decide +kernel
theorem dX11_bearsBy_33 : decode cX11_bearsBy 33 = .ok (.iload 6, 2) := by decide +kernel
theorem dX11_bearsBy_35 : decode cX11_bearsBy 35 = .ok (.iaload, 1) := by decide +kernel
theorem dX11_bearsBy_36 : decode cX11_bearsBy 36 = .ok (.invokestatic 488, 3) := by decide +kernel
theorem dX11_bearsBy_39 : decode cX11_bearsBy 39 = .ok (.lreturn, 1) := by decide +kernel
theorem dX11_overOf_0 : decode cX11_overOf 0 = .ok (.aload_n 0, 1) := by decide +kernel
theorem dX11_overOf_1 : decode cX11_overOf 1 = .ok (.iload_n 1, 1) := by decide +kernel
theorem dX11_overOf_2 : decode cX11_overOf 2 = .ok (.iload_n 3, 1) := by decide +kernel
theorem dX11_overOf_3 : decode cX11_overOf 3 = .ok (.iconst 3, 1) := by decide +kernel
theorem dX11_overOf_4 : decode cX11_overOf 4 = .ok (.iload_n 2, 1) := by decide +kernel
theorem dX11_overOf_5 : decode cX11_overOf 5 = .ok (.iadd, 1) := by decide +kernel
theorem dX11_overOf_6 : decode cX11_overOf 6 = .ok (.iload 4, 2) := by decide +kernel
theorem dX11_overOf_8 : decode cX11_overOf 8 = .ok (.invokevirtual 198, 3) := by decide +kernel
theorem dX11_overOf_11 : decode cX11_overOf 11 = .ok (.i2l, 1) := by decide +kernel
theorem dX11_overOf_12 : decode cX11_overOf 12 = .ok (.aload_n 0, 1) := by decide +kernel
theorem dX11_overOf_13 : decode cX11_overOf 13 = .ok (.iload_n 1, 1) := by decide +kernel
theorem dX11_overOf_14 : decode cX11_overOf 14 = .ok (.iload_n 2, 1) := by decide +kernel
theorem dX11_overOf_15 : decode cX11_overOf 15 = .ok (.iload_n 3, 1) := by decide +kernel
theorem dX11_overOf_16 : decode cX11_overOf 16 = .ok (.iload 4, 2) := by decide +kernel
theorem dX11_overOf_18 : decode cX11_overOf 18 = .ok (.invokevirtual 482, 3) := by decide +kernel
theorem dX11_overOf_21 : decode cX11_overOf 21 = .ok (.i2l, 1) := by decide +kernel
theorem dX11_overOf_22 : decode cX11_overOf 22 = .ok (.lsub, 1) := by decide +kernel
theorem dX11_overOf_23 : decode cX11_overOf 23 = .ok (.lreturn, 1) := by decide +kernel
theorem dX11_shared_0 : decode cX11_shared 0 = .ok (.aload_n 0, 1) := by decide +kernel
theorem dX11_shared_1 : decode cX11_shared 1 = .ok (.iload_n 1, 1) := by decide +kernel
theorem dX11_shared_2 : decode cX11_shared 2 = .ok (.iload_n 3, 1) := by decide +kernel
theorem dX11_shared_3 : decode cX11_shared 3 = .ok (.iconst 3, 1) := by decide +kernel
theorem dX11_shared_4 : decode cX11_shared 4 = .ok (.iload_n 2, 1) := by decide +kernel
theorem dX11_shared_5 : decode cX11_shared 5 = .ok (.iadd, 1) := by decide +kernel
theorem dX11_shared_6 : decode cX11_shared 6 = .ok (.iload 4, 2) := by decide +kernel
theorem dX11_shared_8 : decode cX11_shared 8 = .ok (.invokevirtual 198, 3) := by decide +kernel
theorem dX11_shared_11 : decode cX11_shared 11 = .ok (.iconst (-1), 1) := by decide +kernel
theorem dX11_shared_12 : decode cX11_shared 12 = .ok (.if_icmp .ne 5, 3) := by decide +kernel
theorem dX11_shared_15 : decode cX11_shared 15 = .ok (.lconst 0, 1) := by decide +kernel
theorem dX11_shared_16 : decode cX11_shared 16 = .ok (.lreturn, 1) := by decide +kernel
theorem dX11_shared_17 : decode cX11_shared 17 = .ok (.aload_n 0, 1) := by decide +kernel
theorem dX11_shared_18 : decode cX11_shared 18 = .ok (.iload_n 1, 1) := by decide +kernel
theorem dX11_shared_19 : decode cX11_shared 19 = .ok (.iload_n 2, 1) := by decide +kernel
theorem dX11_shared_20 : decode cX11_shared 20 = .ok (.iload_n 3, 1) := by decide +kernel
theorem dX11_shared_21 : decode cX11_shared 21 = .ok (.iload 4, 2) := by decide +kernel
theorem dX11_shared_23 : decode cX11_shared 23 = .ok (.invokevirtual 492, 3) := by decide +kernel
theorem dX11_shared_26 : decode cX11_shared 26 = .ok (.lstore 5, 2) := by decide +kernel
theorem dX11_shared_28 : decode cX11_shared 28 = .ok (.lload 5, 2) := by decide +kernel
theorem dX11_shared_30 : decode cX11_shared 30 = .ok (.aload_n 0, 1) := by decide +kernel
theorem dX11_shared_31 : decode cX11_shared 31 = .ok (.iload_n 1, 1) := by decide +kernel
theorem dX11_shared_32 : decode cX11_shared 32 = .ok (.iload_n 2, 1) := by decide +kernel
theorem dX11_shared_33 : decode cX11_shared 33 = .ok (.iload_n 3, 1) := by decide +kernel
theorem dX11_shared_34 : decode cX11_shared 34 = .ok (.lload 5, 2) := by decide +kernel
theorem dX11_shared_36 : decode cX11_shared 36 = .ok (.invokevirtual 496, 3) := by decide +kernel
theorem dX11_shared_39 : decode cX11_shared 39 = .ok (.lsub, 1) := by decide +kernel
theorem dX11_shared_40 : decode cX11_shared 40 = .ok (.lreturn, 1) := by decide +kernel
theorem dX11_earned_0 : decode cX11_earned 0 = .ok (.aload_n 0, 1) := by decide +kernel
theorem dX11_earned_1 : decode cX11_earned 1 = .ok (.iload_n 1, 1) := by decide +kernel
theorem dX11_earned_2 : decode cX11_earned 2 = .ok (.iload_n 3, 1) := by decide +kernel
theorem dX11_earned_3 : decode cX11_earned 3 = .ok (.iconst 2, 1) := by decide +kernel
theorem dX11_earned_4 : decode cX11_earned 4 = .ok (.iload_n 2, 1) := by decide +kernel
theorem dX11_earned_5 : decode cX11_earned 5 = .ok (.invokevirtual 417, 3) := by decide +kernel
theorem dX11_earned_8 : decode cX11_earned 8 = .ok (.istore 5, 2) := by decide +kernel
theorem dX11_earned_10 : decode cX11_earned 10 = .ok (.aload_n 0, 1) := by decide +kernel
theorem dX11_earned_11 : decode cX11_earned 11 = .ok (.iload_n 1, 1) := by decide +kernel
theorem dX11_earned_12 : decode cX11_earned 12 = .ok (.iload_n 3, 1) := by decide +kernel
theorem dX11_earned_13 : decode cX11_earned 13 = .ok (.bipush 14, 2) := by decide +kernel
theorem dX11_earned_15 : decode cX11_earned 15 = .ok (.iload_n 2, 1) := by decide +kernel
theorem dX11_earned_16 : decode cX11_earned 16 = .ok (.iadd, 1) := by decide +kernel
theorem dX11_earned_17 : decode cX11_earned 17 = .ok (.iload 4, 2) := by decide +kernel
theorem dX11_earned_19 : decode cX11_earned 19 = .ok (.invokevirtual 198, 3) := by decide +kernel
theorem dX11_earned_22 : decode cX11_earned 22 = .ok (.istore 6, 2) := by decide +kernel
theorem dX11_earned_24 : decode cX11_earned 24 = .ok (.iload 5, 2) := by decide +kernel
theorem dX11_earned_26 : decode cX11_earned 26 = .ok (.iconst (-1), 1) := by decide +kernel
theorem dX11_earned_27 : decode cX11_earned 27 = .ok (.if_icmp .eq 9, 3) := by decide +kernel
theorem dX11_earned_30 : decode cX11_earned 30 = .ok (.iload 6, 2) := by decide +kernel
theorem dX11_earned_32 : decode cX11_earned 32 = .ok (.iconst (-1), 1) := by decide +kernel
theorem dX11_earned_33 : decode cX11_earned 33 = .ok (.if_icmp .ne 5, 3) := by decide +kernel
theorem dX11_earned_36 : decode cX11_earned 36 = .ok (.lconst 0, 1) := by decide +kernel
theorem dX11_earned_37 : decode cX11_earned 37 = .ok (.lreturn, 1) := by decide +kernel
theorem dX11_earned_38 : decode cX11_earned 38 = .ok (.aload_n 0, 1) := by decide +kernel
theorem dX11_earned_39 : decode cX11_earned 39 = .ok (.getfield 87, 3) := by decide +kernel
theorem dX11_earned_42 : decode cX11_earned 42 = .ok (.iload 5, 2) := by decide +kernel
theorem dX11_earned_44 : decode cX11_earned 44 = .ok (.iaload, 1) := by decide +kernel
theorem dX11_earned_45 : decode cX11_earned 45 = .ok (.ifCond .ne 17, 3) := by decide +kernel
theorem dX11_earned_48 : decode cX11_earned 48 = .ok (.iload 6, 2) := by decide +kernel
theorem dX11_earned_50 : decode cX11_earned 50 = .ok (.aload_n 0, 1) := by decide +kernel
theorem dX11_earned_51 : decode cX11_earned 51 = .ok (.getfield 90, 3) := by decide +kernel
theorem dX11_earned_54 : decode cX11_earned 54 = .ok (.iload 5, 2) := by decide +kernel
theorem dX11_earned_56 : decode cX11_earned 56 = .ok (.iaload, 1) := by decide +kernel
theorem dX11_earned_57 : decode cX11_earned 57 = .ok (.isub, 1) := by decide +kernel
theorem dX11_earned_58 : decode cX11_earned 58 = .ok (.i2l, 1) := by decide +kernel
theorem dX11_earned_59 : decode cX11_earned 59 = .ok (.goto 14, 3) := by decide +kernel
theorem dX11_earned_62 : decode cX11_earned 62 = .ok (.aload_n 0, 1) := by decide +kernel
theorem dX11_earned_63 : decode cX11_earned 63 = .ok (.getfield 90, 3) := by decide +kernel
theorem dX11_earned_66 : decode cX11_earned 66 = .ok (.iload 5, 2) := by decide +kernel
theorem dX11_earned_68 : decode cX11_earned 68 = .ok (.iaload, 1) := by decide +kernel
theorem dX11_earned_69 : decode cX11_earned 69 = .ok (.iload 6, 2) := by decide +kernel
theorem dX11_earned_71 : decode cX11_earned 71 = .ok (.isub, 1) := by decide +kernel
theorem dX11_earned_72 : decode cX11_earned 72 = .ok (.i2l, 1) := by decide +kernel
theorem dX11_earned_73 : decode cX11_earned 73 = .ok (.lstore 7, 2) := by decide +kernel
theorem dX11_earned_75 : decode cX11_earned 75 = .ok (.aload_n 0, 1) := by decide +kernel
theorem dX11_earned_76 : decode cX11_earned 76 = .ok (.getfield 102, 3) := by decide +kernel
theorem dX11_earned_79 : decode cX11_earned 79 = .ok (.iload 5, 2) := by decide +kernel
theorem dX11_earned_81 : decode cX11_earned 81 = .ok (.iaload, 1) := by decide +kernel
theorem dX11_earned_82 : decode cX11_earned 82 = .ok (.i2l, 1) := by decide +kernel
theorem dX11_earned_83 : decode cX11_earned 83 = .ok (.lconst 0, 1) := by decide +kernel
theorem dX11_earned_84 : decode cX11_earned 84 = .ok (.lload 7, 2) := by decide +kernel
theorem dX11_earned_86 : decode cX11_earned 86 = .ok (.invokestatic 485, 3) := by decide +kernel
theorem dX11_earned_89 : decode cX11_earned 89 = .ok (.aload_n 0, 1) := by decide +kernel
theorem dX11_earned_90 : decode cX11_earned 90 = .ok (.getfield 99, 3) := by decide +kernel
theorem dX11_earned_93 : decode cX11_earned 93 = .ok (.iload 5, 2) := by decide +kernel
theorem dX11_earned_95 : decode cX11_earned 95 = .ok (.iaload, 1) := by decide +kernel
theorem dX11_earned_96 : decode cX11_earned 96 = .ok (.i2l, 1) := by decide +kernel
theorem dX11_earned_97 : decode cX11_earned 97 = .ok (.lsub, 1) := by decide +kernel
theorem dX11_earned_98 : decode cX11_earned 98 = .ok (.invokestatic 457, 3) := by decide +kernel
theorem dX11_earned_101 : decode cX11_earned 101 = .ok (.aload_n 0, 1) := by decide +kernel
theorem dX11_earned_102 : decode cX11_earned 102 = .ok (.getfield 93, 3) := by decide +kernel
theorem dX11_earned_105 : decode cX11_earned 105 = .ok (.iload 5, 2) := by decide +kernel
theorem dX11_earned_107 : decode cX11_earned 107 = .ok (.iaload, 1) := by decide +kernel
theorem dX11_earned_108 : decode cX11_earned 108 = .ok (.i2l, 1) := by decide +kernel
theorem dX11_earned_109 : decode cX11_earned 109 = .ok (.ldiv, 1) := by decide +kernel
theorem dX11_earned_110 : decode cX11_earned 110 = .ok (.aload_n 0, 1) := by decide +kernel
theorem dX11_earned_111 : decode cX11_earned 111 = .ok (.getfield 96, 3) := by decide +kernel
theorem dX11_earned_114 : decode cX11_earned 114 = .ok (.iload 5, 2) := by decide +kernel
theorem dX11_earned_116 : decode cX11_earned 116 = .ok (.iaload, 1) := by decide +kernel
theorem dX11_earned_117 : decode cX11_earned 117 = .ok (.i2l, 1) := by decide +kernel
theorem dX11_earned_118 : decode cX11_earned 118 = .ok (.lmul, 1) := by decide +kernel
theorem dX11_earned_119 : decode cX11_earned 119 = .ok (.invokestatic 462, 3) := by decide +kernel
theorem dX11_earned_122 : decode cX11_earned 122 = .ok (.lstore 9, 2) := by decide +kernel
theorem dX11_earned_124 : decode cX11_earned 124 = .ok (.lload 7, 2) := by decide +kernel
theorem dX11_earned_126 : decode cX11_earned 126 = .ok (.lconst 0, 1) := by decide +kernel
theorem dX11_earned_127 : decode cX11_earned 127 = .ok (.lcmp, 1) := by decide +kernel
theorem dX11_earned_128 : decode cX11_earned 128 = .ok (.ifCond .ge 9, 3) := by decide +kernel
theorem dX11_earned_131 : decode cX11_earned 131 = .ok (.lload 9, 2) := by decide +kernel
theorem dX11_earned_133 : decode cX11_earned 133 = .ok (.lneg, 1) := by decide +kernel
theorem dX11_earned_134 : decode cX11_earned 134 = .ok (.goto 5, 3) := by decide +kernel
theorem dX11_earned_137 : decode cX11_earned 137 = .ok (.lload 9, 2) := by decide +kernel
theorem dX11_earned_139 : decode cX11_earned 139 = .ok (.lreturn, 1) := by decide +kernel
theorem dX11_due_0 : decode cX11_due 0 = .ok (.lconst 0, 1) := by decide +kernel
theorem dX11_due_1 : decode cX11_due 1 = .ok (.lstore_n 3, 1) := by decide +kernel
theorem dX11_due_2 : decode cX11_due 2 = .ok (.iconst 0, 1) := by decide +kernel
theorem dX11_due_3 : decode cX11_due 3 = .ok (.istore 5, 2) := by decide +kernel
theorem dX11_due_5 : decode cX11_due 5 = .ok (.iload 5, 2) := by decide +kernel
theorem dX11_due_7 : decode cX11_due 7 = .ok (.aload_n 0, 1) := by decide +kernel
theorem dX11_due_8 : decode cX11_due 8 = .ok (.getfield 202, 3) := by decide +kernel
theorem dX11_due_11 : decode cX11_due 11 = .ok (.if_icmp .ge 42, 3) := by decide +kernel
theorem dX11_due_14 : decode cX11_due 14 = .ok (.aload_n 0, 1) := by decide +kernel
theorem dX11_due_15 : decode cX11_due 15 = .ok (.getfield 26, 3) := by decide +kernel
theorem dX11_due_18 : decode cX11_due 18 = .ok (.iload 5, 2) := by decide +kernel
theorem dX11_due_20 : decode cX11_due 20 = .ok (.iaload, 1) := by decide +kernel
theorem dX11_due_21 : decode cX11_due 21 = .ok (.iload_n 1, 1) := by decide +kernel
theorem dX11_due_22 : decode cX11_due 22 = .ok (.if_icmp .ne 25, 3) := by decide +kernel
theorem dX11_due_25 : decode cX11_due 25 = .ok (.aload_n 0, 1) := by decide +kernel
theorem dX11_due_26 : decode cX11_due 26 = .ok (.getfield 32, 3) := by decide +kernel
theorem dX11_due_29 : decode cX11_due 29 = .ok (.iload 5, 2) := by decide +kernel
theorem dX11_due_31 : decode cX11_due 31 = .ok (.iaload, 1) := by decide +kernel
theorem dX11_due_32 : decode cX11_due 32 = .ok (.iload_n 2, 1) := by decide +kernel
theorem dX11_due_33 : decode cX11_due 33 = .ok (.if_icmp .ne 14, 3) := by decide +kernel
theorem dX11_due_36 : decode cX11_due 36 = .ok (.lload_n 3, 1) := by decide +kernel
theorem dX11_due_37 : decode cX11_due 37 = .ok (.aload_n 0, 1) := by decide +kernel
theorem dX11_due_38 : decode cX11_due 38 = .ok (.getfield 29, 3) := by decide +kernel
theorem dX11_due_41 : decode cX11_due 41 = .ok (.iload 5, 2) := by decide +kernel
theorem dX11_due_43 : decode cX11_due 43 = .ok (.iaload, 1) := by decide +kernel
theorem dX11_due_44 : decode cX11_due 44 = .ok (.i2l, 1) := by decide +kernel
theorem dX11_due_45 : decode cX11_due 45 = .ok (.ladd, 1) := by decide +kernel
theorem dX11_due_46 : decode cX11_due 46 = .ok (.lstore_n 3, 1) := by decide +kernel
theorem dX11_due_47 : decode cX11_due 47 = .ok (.iinc 5 1, 3) := by decide +kernel
theorem dX11_due_50 : decode cX11_due 50 = .ok (.goto (-45), 3) := by decide +kernel
theorem dX11_due_53 : decode cX11_due 53 = .ok (.lload_n 3, 1) := by decide +kernel
theorem dX11_due_54 : decode cX11_due 54 = .ok (.lreturn, 1) := by decide +kernel
theorem dX11_takenBack_0 : decode cX11_takenBack 0 = .ok (.lconst 0, 1) := by decide +kernel
theorem dX11_takenBack_1 : decode cX11_takenBack 1 = .ok (.lstore_n 3, 1) := by decide +kernel
theorem dX11_takenBack_2 : decode cX11_takenBack 2 = .ok (.iconst 0, 1) := by decide +kernel
theorem dX11_takenBack_3 : decode cX11_takenBack 3 = .ok (.istore 5, 2) := by decide +kernel
theorem dX11_takenBack_5 : decode cX11_takenBack 5 = .ok (.iload 5, 2) := by decide +kernel
theorem dX11_takenBack_7 : decode cX11_takenBack 7 = .ok (.aload_n 0, 1) := by decide +kernel
theorem dX11_takenBack_8 : decode cX11_takenBack 8 = .ok (.getfield 202, 3) := by decide +kernel
theorem dX11_takenBack_11 : decode cX11_takenBack 11 = .ok (.if_icmp .ge 117, 3) := by decide +kernel
theorem dX11_takenBack_14 : decode cX11_takenBack 14 = .ok (.aload_n 0, 1) := by decide +kernel
theorem dX11_takenBack_15 : decode cX11_takenBack 15 = .ok (.getfield 26, 3) := by decide +kernel
theorem dX11_takenBack_18 : decode cX11_takenBack 18 = .ok (.iload 5, 2) := by decide +kernel
theorem dX11_takenBack_20 : decode cX11_takenBack 20 = .ok (.iaload, 1) := by decide +kernel
theorem dX11_takenBack_21 : decode cX11_takenBack 21 = .ok (.iload_n 1, 1) := by decide +kernel
theorem dX11_takenBack_22 : decode cX11_takenBack 22 = .ok (.if_icmp .eq 6, 3) := by decide +kernel
theorem dX11_takenBack_25 : decode cX11_takenBack 25 = .ok (.goto 97, 3) := by decide +kernel
theorem dX11_takenBack_28 : decode cX11_takenBack 28 = .ok (.aload_n 0, 1) := by decide +kernel
theorem dX11_takenBack_29 : decode cX11_takenBack 29 = .ok (.getfield 29, 3) := by decide +kernel
theorem dX11_takenBack_32 : decode cX11_takenBack 32 = .ok (.iload 5, 2) := by decide +kernel
theorem dX11_takenBack_34 : decode cX11_takenBack 34 = .ok (.iaload, 1) := by decide +kernel
theorem dX11_takenBack_35 : decode cX11_takenBack 35 = .ok (.i2l, 1) := by decide +kernel
theorem dX11_takenBack_36 : decode cX11_takenBack 36 = .ok (.lstore 6, 2) := by decide +kernel
theorem dX11_takenBack_38 : decode cX11_takenBack 38 = .ok (.lconst 0, 1) := by decide +kernel
theorem dX11_takenBack_39 : decode cX11_takenBack 39 = .ok (.lstore 8, 2) := by decide +kernel
theorem dX11_takenBack_41 : decode cX11_takenBack 41 = .ok (.aload_n 0, 1) := by decide +kernel
theorem dX11_takenBack_42 : decode cX11_takenBack 42 = .ok (.getfield 32, 3) := by decide +kernel
theorem dX11_takenBack_45 : decode cX11_takenBack 45 = .ok (.iload 5, 2) := by decide +kernel
theorem dX11_takenBack_47 : decode cX11_takenBack 47 = .ok (.iaload, 1) := by decide +kernel
theorem dX11_takenBack_48 : decode cX11_takenBack 48 = .ok (.iconst 1, 1) := by decide +kernel
theorem dX11_takenBack_49 : decode cX11_takenBack 49 = .ok (.iadd, 1) := by decide +kernel
theorem dX11_takenBack_50 : decode cX11_takenBack 50 = .ok (.istore 10, 2) := by decide +kernel
theorem dX11_takenBack_52 : decode cX11_takenBack 52 = .ok (.iload 10, 2) := by decide +kernel
theorem dX11_takenBack_54 : decode cX11_takenBack 54 = .ok (.iload_n 2, 1) := by decide +kernel
theorem dX11_takenBack_55 : decode cX11_takenBack 55 = .ok (.if_icmp .gt 62, 3) := by decide +kernel
theorem dX11_takenBack_58 : decode cX11_takenBack 58 = .ok (.aload_n 0, 1) := by decide +kernel
theorem dX11_takenBack_59 : decode cX11_takenBack 59 = .ok (.iload 5, 2) := by decide +kernel
theorem dX11_takenBack_61 : decode cX11_takenBack 61 = .ok (.iload 10, 2) := by decide +kernel
theorem dX11_takenBack_63 : decode cX11_takenBack 63 = .ok (.invokevirtual 423, 3) := by decide +kernel
theorem dX11_takenBack_66 : decode cX11_takenBack 66 = .ok (.ifCond .eq 7, 3) := by decide +kernel
theorem dX11_takenBack_69 : decode cX11_takenBack 69 = .ok (.lconst 0, 1) := by decide +kernel
theorem dX11_takenBack_70 : decode cX11_takenBack 70 = .ok (.goto 32, 3) := by decide +kernel
theorem dX11_takenBack_73 : decode cX11_takenBack 73 = .ok (.lload 6, 2) := by decide +kernel
theorem dX11_takenBack_75 : decode cX11_takenBack 75 = .ok (.aload_n 0, 1) := by decide +kernel
theorem dX11_takenBack_76 : decode cX11_takenBack 76 = .ok (.getfield 29, 3) := by decide +kernel
theorem dX11_takenBack_79 : decode cX11_takenBack 79 = .ok (.iload 5, 2) := by decide +kernel
theorem dX11_takenBack_81 : decode cX11_takenBack 81 = .ok (.iaload, 1) := by decide +kernel
theorem dX11_takenBack_82 : decode cX11_takenBack 82 = .ok (.i2l, 1) := by decide +kernel
theorem dX11_takenBack_83 : decode cX11_takenBack 83 = .ok (.aload_n 0, 1) := by decide +kernel
theorem dX11_takenBack_84 : decode cX11_takenBack 84 = .ok (.iload_n 1, 1) := by decide +kernel
theorem dX11_takenBack_85 : decode cX11_takenBack 85 = .ok (.iload 10, 2) := by decide +kernel
theorem dX11_takenBack_87 : decode cX11_takenBack 87 = .ok (.bipush 6, 2) := by decide +kernel
theorem dX11_takenBack_89 : decode cX11_takenBack 89 = .ok (.iconst 0, 1) := by decide +kernel
theorem dX11_takenBack_90 : decode cX11_takenBack 90 = .ok (.invokevirtual 430, 3) := by decide +kernel
theorem dX11_takenBack_93 : decode cX11_takenBack 93 = .ok (.i2l, 1) := by decide +kernel
theorem dX11_takenBack_94 : decode cX11_takenBack 94 = .ok (.lmul, 1) := by decide +kernel
theorem dX11_takenBack_95 : decode cX11_takenBack 95 = .ok (.ldc2_w 433, 3) := by decide +kernel
theorem dX11_takenBack_98 : decode cX11_takenBack 98 = .ok (.ldiv, 1) := by decide +kernel
theorem dX11_takenBack_99 : decode cX11_takenBack 99 = .ok (.invokestatic 462, 3) := by decide +kernel
theorem dX11_takenBack_102 : decode cX11_takenBack 102 = .ok (.lstore 8, 2) := by decide +kernel
theorem dX11_takenBack_104 : decode cX11_takenBack 104 = .ok (.lload 6, 2) := by decide +kernel
theorem dX11_takenBack_106 : decode cX11_takenBack 106 = .ok (.lload 8, 2) := by decide +kernel
theorem dX11_takenBack_108 : decode cX11_takenBack 108 = .ok (.lsub, 1) := by decide +kernel
theorem dX11_takenBack_109 : decode cX11_takenBack 109 = .ok (.lstore 6, 2) := by decide +kernel
theorem dX11_takenBack_111 : decode cX11_takenBack 111 = .ok (.iinc 10 1, 3) := by decide +kernel
theorem dX11_takenBack_114 : decode cX11_takenBack 114 = .ok (.goto (-62), 3) := by decide +kernel
theorem dX11_takenBack_117 : decode cX11_takenBack 117 = .ok (.lload_n 3, 1) := by decide +kernel
theorem dX11_takenBack_118 : decode cX11_takenBack 118 = .ok (.lload 8, 2) := by decide +kernel
theorem dX11_takenBack_120 : decode cX11_takenBack 120 = .ok (.ladd, 1) := by decide +kernel
theorem dX11_takenBack_121 : decode cX11_takenBack 121 = .ok (.lstore_n 3, 1) := by decide +kernel
theorem dX11_takenBack_122 : decode cX11_takenBack 122 = .ok (.iinc 5 1, 3) := by decide +kernel
theorem dX11_takenBack_125 : decode cX11_takenBack 125 = .ok (.goto (-120), 3) := by decide +kernel
theorem dX11_takenBack_128 : decode cX11_takenBack 128 = .ok (.lload_n 3, 1) := by decide +kernel
theorem dX11_takenBack_129 : decode cX11_takenBack 129 = .ok (.lreturn, 1) := by decide +kernel
theorem dX11_logged_0 : decode cX11_logged 0 = .ok (.lconst 0, 1) := by decide +kernel
theorem dX11_logged_1 : decode cX11_logged 1 = .ok (.lstore 4, 2) := by decide +kernel
theorem dX11_logged_3 : decode cX11_logged 3 = .ok (.iconst 0, 1) := by decide +kernel
theorem dX11_logged_4 : decode cX11_logged 4 = .ok (.istore 6, 2) := by decide +kernel
theorem dX11_logged_6 : decode cX11_logged 6 = .ok (.iload 6, 2) := by decide +kernel
theorem dX11_logged_8 : decode cX11_logged 8 = .ok (.aload_n 0, 1) := by decide +kernel
theorem dX11_logged_9 : decode cX11_logged 9 = .ok (.getfield 211, 3) := by decide +kernel
theorem dX11_logged_12 : decode cX11_logged 12 = .ok (.if_icmp .ge 55, 3) := by decide +kernel
theorem dX11_logged_15 : decode cX11_logged 15 = .ok (.aload_n 0, 1) := by decide +kernel
theorem dX11_logged_16 : decode cX11_logged 16 = .ok (.getfield 53, 3) := by decide +kernel
theorem dX11_logged_19 : decode cX11_logged 19 = .ok (.iload 6, 2) := by decide +kernel
theorem dX11_logged_21 : decode cX11_logged 21 = .ok (.iaload, 1) := by decide +kernel
theorem dX11_logged_22 : decode cX11_logged 22 = .ok (.iload_n 1, 1) := by decide +kernel
theorem dX11_logged_23 : decode cX11_logged 23 = .ok (.if_icmp .ne 38, 3) := by decide +kernel
theorem dX11_logged_26 : decode cX11_logged 26 = .ok (.aload_n 0, 1) := by decide +kernel
theorem dX11_logged_27 : decode cX11_logged 27 = .ok (.getfield 56, 3) := by decide +kernel
theorem dX11_logged_30 : decode cX11_logged 30 = .ok (.iload 6, 2) := by decide +kernel
theorem dX11_logged_32 : decode cX11_logged 32 = .ok (.iaload, 1) := by decide +kernel
theorem dX11_logged_33 : decode cX11_logged 33 = .ok (.iload_n 2, 1) := by decide +kernel
theorem dX11_logged_34 : decode cX11_logged 34 = .ok (.if_icmp .ne 27, 3) := by decide +kernel
theorem dX11_logged_37 : decode cX11_logged 37 = .ok (.aload_n 0, 1) := by decide +kernel
theorem dX11_logged_38 : decode cX11_logged 38 = .ok (.getfield 62, 3) := by decide +kernel
theorem dX11_logged_41 : decode cX11_logged 41 = .ok (.iload 6, 2) := by decide +kernel
theorem dX11_logged_43 : decode cX11_logged 43 = .ok (.iaload, 1) := by decide +kernel
theorem dX11_logged_44 : decode cX11_logged 44 = .ok (.iload_n 3, 1) := by decide +kernel
theorem dX11_logged_45 : decode cX11_logged 45 = .ok (.if_icmp .gt 16, 3) := by decide +kernel
theorem dX11_logged_48 : decode cX11_logged 48 = .ok (.lload 4, 2) := by decide +kernel
theorem dX11_logged_50 : decode cX11_logged 50 = .ok (.aload_n 0, 1) := by decide +kernel
theorem dX11_logged_51 : decode cX11_logged 51 = .ok (.getfield 59, 3) := by decide +kernel
theorem dX11_logged_54 : decode cX11_logged 54 = .ok (.iload 6, 2) := by decide +kernel
theorem dX11_logged_56 : decode cX11_logged 56 = .ok (.iaload, 1) := by decide +kernel
theorem dX11_logged_57 : decode cX11_logged 57 = .ok (.i2l, 1) := by decide +kernel
theorem dX11_logged_58 : decode cX11_logged 58 = .ok (.ladd, 1) := by decide +kernel
theorem dX11_logged_59 : decode cX11_logged 59 = .ok (.lstore 4, 2) := by decide +kernel
theorem dX11_logged_61 : decode cX11_logged 61 = .ok (.iinc 6 1, 3) := by decide +kernel
theorem dX11_logged_64 : decode cX11_logged 64 = .ok (.goto (-58), 3) := by decide +kernel
theorem dX11_logged_67 : decode cX11_logged 67 = .ok (.lconst 0, 1) := by decide +kernel
theorem dX11_logged_68 : decode cX11_logged 68 = .ok (.lstore 6, 2) := by decide +kernel
theorem dX11_logged_70 : decode cX11_logged 70 = .ok (.iconst 0, 1) := by decide +kernel
theorem dX11_logged_71 : decode cX11_logged 71 = .ok (.istore 8, 2) := by decide +kernel
theorem dX11_logged_73 : decode cX11_logged 73 = .ok (.iload 8, 2) := by decide +kernel
theorem dX11_logged_75 : decode cX11_logged 75 = .ok (.iconst 4, 1) := by decide +kernel
theorem dX11_logged_76 : decode cX11_logged 76 = .ok (.if_icmp .ge 24, 3) := by decide +kernel
theorem dX11_logged_79 : decode cX11_logged 79 = .ok (.lload 6, 2) := by decide +kernel
theorem dX11_logged_81 : decode cX11_logged 81 = .ok (.aload_n 0, 1) := by decide +kernel
theorem dX11_logged_82 : decode cX11_logged 82 = .ok (.iload_n 1, 1) := by decide +kernel
theorem dX11_logged_83 : decode cX11_logged 83 = .ok (.iload 8, 2) := by decide +kernel
theorem dX11_logged_85 : decode cX11_logged 85 = .ok (.iload_n 2, 1) := by decide +kernel
theorem dX11_logged_86 : decode cX11_logged 86 = .ok (.iload_n 3, 1) := by decide +kernel
theorem dX11_logged_87 : decode cX11_logged 87 = .ok (.invokevirtual 482, 3) := by decide +kernel
theorem dX11_logged_90 : decode cX11_logged 90 = .ok (.i2l, 1) := by decide +kernel
theorem dX11_logged_91 : decode cX11_logged 91 = .ok (.ladd, 1) := by decide +kernel
theorem dX11_logged_92 : decode cX11_logged 92 = .ok (.lstore 6, 2) := by decide +kernel
theorem dX11_logged_94 : decode cX11_logged 94 = .ok (.iinc 8 1, 3) := by decide +kernel
theorem dX11_logged_97 : decode cX11_logged 97 = .ok (.goto (-24), 3) := by decide +kernel
theorem dX11_logged_100 : decode cX11_logged 100 = .ok (.lload 4, 2) := by decide +kernel
theorem dX11_logged_102 : decode cX11_logged 102 = .ok (.lload 6, 2) := by decide +kernel
theorem dX11_logged_104 : decode cX11_logged 104 = .ok (.aload_n 0, 1) := by decide +kernel
theorem dX11_logged_105 : decode cX11_logged 105 = .ok (.iload_n 1, 1) := by decide +kernel
theorem dX11_logged_106 : decode cX11_logged 106 = .ok (.iload_n 2, 1) := by decide +kernel
theorem dX11_logged_107 : decode cX11_logged 107 = .ok (.bipush 8, 2) := by decide +kernel
theorem dX11_logged_109 : decode cX11_logged 109 = .ok (.iconst 0, 1) := by decide +kernel
theorem dX11_logged_110 : decode cX11_logged 110 = .ok (.invokevirtual 430, 3) := by decide +kernel
theorem dX11_logged_113 : decode cX11_logged 113 = .ok (.i2l, 1) := by decide +kernel
theorem dX11_logged_114 : decode cX11_logged 114 = .ok (.lmul, 1) := by decide +kernel
theorem dX11_logged_115 : decode cX11_logged 115 = .ok (.ldc2_w 433, 3) := by decide +kernel
theorem dX11_logged_118 : decode cX11_logged 118 = .ok (.ldiv, 1) := by decide +kernel
theorem dX11_logged_119 : decode cX11_logged 119 = .ok (.lcmp, 1) := by decide +kernel
theorem dX11_logged_120 : decode cX11_logged 120 = .ok (.ifCond .lt 8, 3) := by decide +kernel
theorem dX11_logged_123 : decode cX11_logged 123 = .ok (.lload 4, 2) := by decide +kernel
theorem dX11_logged_125 : decode cX11_logged 125 = .ok (.goto 4, 3) := by decide +kernel
theorem dX11_logged_128 : decode cX11_logged 128 = .ok (.lconst 0, 1) := by decide +kernel
theorem dX11_logged_129 : decode cX11_logged 129 = .ok (.lreturn, 1) := by decide +kernel
theorem dX11_lineOf_0 : decode cX11_lineOf 0 = .ok (.iload 4, 2) := by decide +kernel
theorem dX11_lineOf_2 : decode cX11_lineOf 2 = .ok (.iconst 4, 1) := by decide +kernel
theorem dX11_lineOf_3 : decode cX11_lineOf 3 = .ok (.if_icmp .ge 14, 3) := by decide +kernel
theorem dX11_lineOf_6 : decode cX11_lineOf 6 = .ok (.aload_n 0, 1) := by decide +kernel
theorem dX11_lineOf_7 : decode cX11_lineOf 7 = .ok (.iload_n 1, 1) := by decide +kernel
theorem dX11_lineOf_8 : decode cX11_lineOf 8 = .ok (.iload 4, 2) := by decide +kernel
theorem dX11_lineOf_10 : decode cX11_lineOf 10 = .ok (.iload_n 2, 1) := by decide +kernel
theorem dX11_lineOf_11 : decode cX11_lineOf 11 = .ok (.iload_n 3, 1) := by decide +kernel
theorem dX11_lineOf_12 : decode cX11_lineOf 12 = .ok (.invokevirtual 482, 3) := by decide +kernel
theorem dX11_lineOf_15 : decode cX11_lineOf 15 = .ok (.i2l, 1) := by decide +kernel
theorem dX11_lineOf_16 : decode cX11_lineOf 16 = .ok (.lreturn, 1) := by decide +kernel
theorem dX11_lineOf_17 : decode cX11_lineOf 17 = .ok (.iload 4, 2) := by decide +kernel
theorem dX11_lineOf_19 : decode cX11_lineOf 19 = .ok (.lookupswitch 85 #[(4, 41), (5, 62), (6, 69), (14, 77)], 41) := by decide +kernel
theorem dX11_lineOf_60 : decode cX11_lineOf 60 = .ok (.aload_n 0, 1) := by decide +kernel
theorem dX11_lineOf_61 : decode cX11_lineOf 61 = .ok (.getfield 141, 3) := by decide +kernel
theorem dX11_lineOf_64 : decode cX11_lineOf 64 = .ok (.iload_n 2, 1) := by decide +kernel
theorem dX11_lineOf_65 : decode cX11_lineOf 65 = .ok (.laload, 1) := by decide +kernel
theorem dX11_lineOf_66 : decode cX11_lineOf 66 = .ok (.aload_n 0, 1) := by decide +kernel
theorem dX11_lineOf_67 : decode cX11_lineOf 67 = .ok (.iload_n 1, 1) := by decide +kernel
theorem dX11_lineOf_68 : decode cX11_lineOf 68 = .ok (.iload_n 2, 1) := by decide +kernel
theorem dX11_lineOf_69 : decode cX11_lineOf 69 = .ok (.iconst 3, 1) := by decide +kernel
theorem dX11_lineOf_70 : decode cX11_lineOf 70 = .ok (.iconst 0, 1) := by decide +kernel
theorem dX11_lineOf_71 : decode cX11_lineOf 71 = .ok (.invokevirtual 430, 3) := by decide +kernel
theorem dX11_lineOf_74 : decode cX11_lineOf 74 = .ok (.i2l, 1) := by decide +kernel
theorem dX11_lineOf_75 : decode cX11_lineOf 75 = .ok (.lmul, 1) := by decide +kernel
theorem dX11_lineOf_76 : decode cX11_lineOf 76 = .ok (.ldc2_w 500, 3) := by decide +kernel
theorem dX11_lineOf_79 : decode cX11_lineOf 79 = .ok (.ldiv, 1) := by decide +kernel
theorem dX11_lineOf_80 : decode cX11_lineOf 80 = .ok (.lreturn, 1) := by decide +kernel
theorem dX11_lineOf_81 : decode cX11_lineOf 81 = .ok (.aload_n 0, 1) := by decide +kernel
theorem dX11_lineOf_82 : decode cX11_lineOf 82 = .ok (.iload_n 1, 1) := by decide +kernel
theorem dX11_lineOf_83 : decode cX11_lineOf 83 = .ok (.iload_n 2, 1) := by decide +kernel
theorem dX11_lineOf_84 : decode cX11_lineOf 84 = .ok (.invokevirtual 502, 3) := by decide +kernel
theorem dX11_lineOf_87 : decode cX11_lineOf 87 = .ok (.lreturn, 1) := by decide +kernel
theorem dX11_lineOf_88 : decode cX11_lineOf 88 = .ok (.aload_n 0, 1) := by decide +kernel
theorem dX11_lineOf_89 : decode cX11_lineOf 89 = .ok (.iload_n 1, 1) := by decide +kernel
theorem dX11_lineOf_90 : decode cX11_lineOf 90 = .ok (.iload_n 2, 1) := by decide +kernel
theorem dX11_lineOf_91 : decode cX11_lineOf 91 = .ok (.invokevirtual 506, 3) := by decide +kernel
theorem dX11_lineOf_94 : decode cX11_lineOf 94 = .ok (.lneg, 1) := by decide +kernel
theorem dX11_lineOf_95 : decode cX11_lineOf 95 = .ok (.lreturn, 1) := by decide +kernel
theorem dX11_lineOf_96 : decode cX11_lineOf 96 = .ok (.aload_n 0, 1) := by decide +kernel
theorem dX11_lineOf_97 : decode cX11_lineOf 97 = .ok (.iload_n 1, 1) := by decide +kernel
theorem dX11_lineOf_98 : decode cX11_lineOf 98 = .ok (.iload_n 2, 1) := by decide +kernel
theorem dX11_lineOf_99 : decode cX11_lineOf 99 = .ok (.iload_n 3, 1) := by decide +kernel
theorem dX11_lineOf_100 : decode cX11_lineOf 100 = .ok (.invokevirtual 509, 3) := by decide +kernel
theorem dX11_lineOf_103 : decode cX11_lineOf 103 = .ok (.lreturn, 1) := by decide +kernel
theorem dX11_lineOf_104 : decode cX11_lineOf 104 = .ok (.iload_n 2, 1) := by decide +kernel
theorem dX11_lineOf_105 : decode cX11_lineOf 105 = .ok (.ifCond .ne 5, 3) := by decide +kernel
theorem dX11_lineOf_108 : decode cX11_lineOf 108 = .ok (.lconst 0, 1) := by decide +kernel
theorem dX11_lineOf_109 : decode cX11_lineOf 109 = .ok (.lreturn, 1) := by decide +kernel
theorem dX11_lineOf_110 : decode cX11_lineOf 110 = .ok (.iload 4, 2) := by decide +kernel
theorem dX11_lineOf_112 : decode cX11_lineOf 112 = .ok (.bipush 10, 2) := by decide +kernel
theorem dX11_lineOf_114 : decode cX11_lineOf 114 = .ok (.if_icmp .ge 20, 3) := by decide +kernel
theorem dX11_lineOf_117 : decode cX11_lineOf 117 = .ok (.aload_n 0, 1) := by decide +kernel
theorem dX11_lineOf_118 : decode cX11_lineOf 118 = .ok (.iload_n 1, 1) := by decide +kernel
theorem dX11_lineOf_119 : decode cX11_lineOf 119 = .ok (.iload 4, 2) := by decide +kernel
theorem dX11_lineOf_121 : decode cX11_lineOf 121 = .ok (.bipush 7, 2) := by decide +kernel
theorem dX11_lineOf_123 : decode cX11_lineOf 123 = .ok (.isub, 1) := by decide +kernel
theorem dX11_lineOf_124 : decode cX11_lineOf 124 = .ok (.iload_n 2, 1) := by decide +kernel
theorem dX11_lineOf_125 : decode cX11_lineOf 125 = .ok (.iconst 1, 1) := by decide +kernel
theorem dX11_lineOf_126 : decode cX11_lineOf 126 = .ok (.isub, 1) := by decide +kernel
theorem dX11_lineOf_127 : decode cX11_lineOf 127 = .ok (.iload_n 3, 1) := by decide +kernel
theorem dX11_lineOf_128 : decode cX11_lineOf 128 = .ok (.invokevirtual 513, 3) := by decide +kernel
theorem dX11_lineOf_131 : decode cX11_lineOf 131 = .ok (.goto 17, 3) := by decide +kernel
theorem dX11_lineOf_134 : decode cX11_lineOf 134 = .ok (.aload_n 0, 1) := by decide +kernel
theorem dX11_lineOf_135 : decode cX11_lineOf 135 = .ok (.iload_n 1, 1) := by decide +kernel
theorem dX11_lineOf_136 : decode cX11_lineOf 136 = .ok (.iload 4, 2) := by decide +kernel
theorem dX11_lineOf_138 : decode cX11_lineOf 138 = .ok (.bipush 10, 2) := by decide +kernel
theorem dX11_lineOf_140 : decode cX11_lineOf 140 = .ok (.isub, 1) := by decide +kernel
theorem dX11_lineOf_141 : decode cX11_lineOf 141 = .ok (.iload_n 2, 1) := by decide +kernel
theorem dX11_lineOf_142 : decode cX11_lineOf 142 = .ok (.iconst 1, 1) := by decide +kernel
theorem dX11_lineOf_143 : decode cX11_lineOf 143 = .ok (.isub, 1) := by decide +kernel
theorem dX11_lineOf_144 : decode cX11_lineOf 144 = .ok (.iload_n 3, 1) := by decide +kernel
theorem dX11_lineOf_145 : decode cX11_lineOf 145 = .ok (.invokevirtual 516, 3) := by decide +kernel
theorem dX11_lineOf_148 : decode cX11_lineOf 148 = .ok (.lreturn, 1) := by decide +kernel
theorem dX11_isYearOf_0 : decode cX11_isYearOf 0 = .ok (.aload_n 0, 1) := by decide +kernel
theorem dX11_isYearOf_1 : decode cX11_isYearOf 1 = .ok (.iload_n 1, 1) := by decide +kernel
theorem dX11_isYearOf_2 : decode cX11_isYearOf 2 = .ok (.invokevirtual 177, 3) := by decide +kernel
theorem dX11_isYearOf_5 : decode cX11_isYearOf 5 = .ok (.ifCond .eq 21, 3) := by decide +kernel
theorem dX11_isYearOf_8 : decode cX11_isYearOf 8 = .ok (.iload_n 2, 1) := by decide +kernel
theorem dX11_isYearOf_9 : decode cX11_isYearOf 9 = .ok (.invokestatic 181, 3) := by decide +kernel
theorem dX11_isYearOf_12 : decode cX11_isYearOf 12 = .ok (.ifCond .eq 14, 3) := by decide +kernel
theorem dX11_isYearOf_15 : decode cX11_isYearOf 15 = .ok (.iload_n 3, 1) := by decide +kernel
theorem dX11_isYearOf_16 : decode cX11_isYearOf 16 = .ok (.invokestatic 195, 3) := by decide +kernel
theorem dX11_isYearOf_19 : decode cX11_isYearOf 19 = .ok (.ifCond .eq 7, 3) := by decide +kernel
theorem dX11_isYearOf_22 : decode cX11_isYearOf 22 = .ok (.iconst 1, 1) := by decide +kernel
theorem dX11_isYearOf_23 : decode cX11_isYearOf 23 = .ok (.goto 4, 3) := by decide +kernel
theorem dX11_isYearOf_26 : decode cX11_isYearOf 26 = .ok (.iconst 0, 1) := by decide +kernel
theorem dX11_isYearOf_27 : decode cX11_isYearOf 27 = .ok (.ireturn, 1) := by decide +kernel
theorem dX11_line_0 : decode cX11_line 0 = .ok (.aload_n 0, 1) := by decide +kernel
theorem dX11_line_1 : decode cX11_line 1 = .ok (.iload_n 1, 1) := by decide +kernel
theorem dX11_line_2 : decode cX11_line 2 = .ok (.iload_n 2, 1) := by decide +kernel
theorem dX11_line_3 : decode cX11_line 3 = .ok (.iload_n 3, 1) := by decide +kernel
theorem dX11_line_4 : decode cX11_line 4 = .ok (.invokevirtual 519, 3) := by decide +kernel
theorem dX11_line_7 : decode cX11_line 7 = .ok (.ifCond .eq 14, 3) := by decide +kernel
theorem dX11_line_10 : decode cX11_line 10 = .ok (.iload 4, 2) := by decide +kernel
theorem dX11_line_12 : decode cX11_line 12 = .ok (.iconst 0, 1) := by decide +kernel
theorem dX11_line_13 : decode cX11_line 13 = .ok (.bipush 14, 2) := by decide +kernel
theorem dX11_line_15 : decode cX11_line 15 = .ok (.invokestatic 165, 3) := by decide +kernel
theorem dX11_line_18 : decode cX11_line 18 = .ok (.ifCond .ne 7, 3) := by decide +kernel
theorem dX11_line_21 : decode cX11_line 21 = .ok (.ldc2_w 441, 3) := by decide +kernel
theorem dX11_line_24 : decode cX11_line 24 = .ok (.lreturn, 1) := by decide +kernel
theorem dX11_line_25 : decode cX11_line 25 = .ok (.aload_n 0, 1) := by decide +kernel
theorem dX11_line_26 : decode cX11_line 26 = .ok (.iload_n 1, 1) := by decide +kernel
theorem dX11_line_27 : decode cX11_line 27 = .ok (.invokevirtual 438, 3) := by decide +kernel
theorem dX11_line_30 : decode cX11_line 30 = .ok (.aload_n 0, 1) := by decide +kernel
theorem dX11_line_31 : decode cX11_line 31 = .ok (.iload_n 1, 1) := by decide +kernel
theorem dX11_line_32 : decode cX11_line 32 = .ok (.iload_n 2, 1) := by decide +kernel
theorem dX11_line_33 : decode cX11_line 33 = .ok (.iload_n 3, 1) := by decide +kernel
theorem dX11_line_34 : decode cX11_line 34 = .ok (.iload 4, 2) := by decide +kernel
theorem dX11_line_36 : decode cX11_line 36 = .ok (.invokevirtual 522, 3) := by decide +kernel
theorem dX11_line_39 : decode cX11_line 39 = .ok (.lreturn, 1) := by decide +kernel
theorem dX11_revenueOf_0 : decode cX11_revenueOf 0 = .ok (.lconst 0, 1) := by decide +kernel
theorem dX11_revenueOf_1 : decode cX11_revenueOf 1 = .ok (.lstore 4, 2) := by decide +kernel
theorem dX11_revenueOf_3 : decode cX11_revenueOf 3 = .ok (.iconst 0, 1) := by decide +kernel
theorem dX11_revenueOf_4 : decode cX11_revenueOf 4 = .ok (.istore 6, 2) := by decide +kernel
theorem dX11_revenueOf_6 : decode cX11_revenueOf 6 = .ok (.iload 6, 2) := by decide +kernel
theorem dX11_revenueOf_8 : decode cX11_revenueOf 8 = .ok (.bipush 15, 2) := by decide +kernel
theorem dX11_revenueOf_10 : decode cX11_revenueOf 10 = .ok (.if_icmp .ge 23, 3) := by decide +kernel
theorem dX11_revenueOf_13 : decode cX11_revenueOf 13 = .ok (.lload 4, 2) := by decide +kernel
theorem dX11_revenueOf_15 : decode cX11_revenueOf 15 = .ok (.aload_n 0, 1) := by decide +kernel
theorem dX11_revenueOf_16 : decode cX11_revenueOf 16 = .ok (.iload_n 1, 1) := by decide +kernel
theorem dX11_revenueOf_17 : decode cX11_revenueOf 17 = .ok (.iload_n 2, 1) := by decide +kernel
theorem dX11_revenueOf_18 : decode cX11_revenueOf 18 = .ok (.iload_n 3, 1) := by decide +kernel
theorem dX11_revenueOf_19 : decode cX11_revenueOf 19 = .ok (.iload 6, 2) := by decide +kernel
theorem dX11_revenueOf_21 : decode cX11_revenueOf 21 = .ok (.invokevirtual 522, 3) := by decide +kernel
theorem dX11_revenueOf_24 : decode cX11_revenueOf 24 = .ok (.ladd, 1) := by decide +kernel
theorem dX11_revenueOf_25 : decode cX11_revenueOf 25 = .ok (.lstore 4, 2) := by decide +kernel
theorem dX11_revenueOf_27 : decode cX11_revenueOf 27 = .ok (.iinc 6 1, 3) := by decide +kernel
theorem dX11_revenueOf_30 : decode cX11_revenueOf 30 = .ok (.goto (-24), 3) := by decide +kernel
theorem dX11_revenueOf_33 : decode cX11_revenueOf 33 = .ok (.lload 4, 2) := by decide +kernel
theorem dX11_revenueOf_35 : decode cX11_revenueOf 35 = .ok (.lreturn, 1) := by decide +kernel
theorem dX11_revenue_0 : decode cX11_revenue 0 = .ok (.aload_n 0, 1) := by decide +kernel
theorem dX11_revenue_1 : decode cX11_revenue 1 = .ok (.iload_n 1, 1) := by decide +kernel
theorem dX11_revenue_2 : decode cX11_revenue 2 = .ok (.iload_n 2, 1) := by decide +kernel
theorem dX11_revenue_3 : decode cX11_revenue 3 = .ok (.iload_n 3, 1) := by decide +kernel
theorem dX11_revenue_4 : decode cX11_revenue 4 = .ok (.invokevirtual 519, 3) := by decide +kernel
theorem dX11_revenue_7 : decode cX11_revenue 7 = .ok (.ifCond .ne 7, 3) := by decide +kernel
theorem dX11_revenue_10 : decode cX11_revenue 10 = .ok (.ldc2_w 441, 3) := by decide +kernel
theorem dX11_revenue_13 : decode cX11_revenue 13 = .ok (.lreturn, 1) := by decide +kernel
theorem dX11_revenue_14 : decode cX11_revenue 14 = .ok (.aload_n 0, 1) := by decide +kernel
theorem dX11_revenue_15 : decode cX11_revenue 15 = .ok (.iload_n 1, 1) := by decide +kernel
theorem dX11_revenue_16 : decode cX11_revenue 16 = .ok (.invokevirtual 438, 3) := by decide +kernel
theorem dX11_revenue_19 : decode cX11_revenue 19 = .ok (.aload_n 0, 1) := by decide +kernel
theorem dX11_revenue_20 : decode cX11_revenue 20 = .ok (.iload_n 1, 1) := by decide +kernel
theorem dX11_revenue_21 : decode cX11_revenue 21 = .ok (.iload_n 2, 1) := by decide +kernel
theorem dX11_revenue_22 : decode cX11_revenue 22 = .ok (.iload_n 3, 1) := by decide +kernel
theorem dX11_revenue_23 : decode cX11_revenue 23 = .ok (.invokevirtual 525, 3) := by decide +kernel
theorem dX11_revenue_26 : decode cX11_revenue 26 = .ok (.lreturn, 1) := by decide +kernel
theorem dX11_billsOf_0 : decode cX11_billsOf 0 = .ok (.lconst 0, 1) := by decide +kernel
theorem dX11_billsOf_1 : decode cX11_billsOf 1 = .ok (.lstore 4, 2) := by decide +kernel
theorem dX11_billsOf_3 : decode cX11_billsOf 3 = .ok (.aload_n 0, 1) := by decide +kernel
theorem dX11_billsOf_4 : decode cX11_billsOf 4 = .ok (.lconst 0, 1) := by decide +kernel
theorem dX11_billsOf_5 : decode cX11_billsOf 5 = .ok (.putfield 528, 3) := by decide +kernel
theorem dX11_billsOf_8 : decode cX11_billsOf 8 = .ok (.iload_n 2, 1) := by decide +kernel
theorem dX11_billsOf_9 : decode cX11_billsOf 9 = .ok (.iconst 5, 1) := by decide +kernel
theorem dX11_billsOf_10 : decode cX11_billsOf 10 = .ok (.idiv, 1) := by decide +kernel
theorem dX11_billsOf_11 : decode cX11_billsOf 11 = .ok (.iconst 5, 1) := by decide +kernel
theorem dX11_billsOf_12 : decode cX11_billsOf 12 = .ok (.imul, 1) := by decide +kernel
theorem dX11_billsOf_13 : decode cX11_billsOf 13 = .ok (.istore 6, 2) := by decide +kernel
theorem dX11_billsOf_15 : decode cX11_billsOf 15 = .ok (.iload 6, 2) := by decide +kernel
theorem dX11_billsOf_17 : decode cX11_billsOf 17 = .ok (.iload_n 2, 1) := by decide +kernel
theorem dX11_billsOf_18 : decode cX11_billsOf 18 = .ok (.if_icmp .gt 110, 3) := by decide +kernel
theorem dX11_billsOf_21 : decode cX11_billsOf 21 = .ok (.aload_n 0, 1) := by decide +kernel
theorem dX11_billsOf_22 : decode cX11_billsOf 22 = .ok (.iload_n 1, 1) := by decide +kernel
theorem dX11_billsOf_23 : decode cX11_billsOf 23 = .ok (.iload 6, 2) := by decide +kernel
theorem dX11_billsOf_25 : decode cX11_billsOf 25 = .ok (.iload_n 3, 1) := by decide +kernel
theorem dX11_billsOf_26 : decode cX11_billsOf 26 = .ok (.invokevirtual 525, 3) := by decide +kernel
theorem dX11_billsOf_29 : decode cX11_billsOf 29 = .ok (.aload_n 0, 1) := by decide +kernel
theorem dX11_billsOf_30 : decode cX11_billsOf 30 = .ok (.getfield 528, 3) := by decide +kernel
theorem dX11_billsOf_33 : decode cX11_billsOf 33 = .ok (.ladd, 1) := by decide +kernel
theorem dX11_billsOf_34 : decode cX11_billsOf 34 = .ok (.lstore 7, 2) := by decide +kernel
theorem dX11_billsOf_36 : decode cX11_billsOf 36 = .ok (.aload_n 0, 1) := by decide +kernel
theorem dX11_billsOf_37 : decode cX11_billsOf 37 = .ok (.iload_n 1, 1) := by decide +kernel
theorem dX11_billsOf_38 : decode cX11_billsOf 38 = .ok (.iload 6, 2) := by decide +kernel
theorem dX11_billsOf_40 : decode cX11_billsOf 40 = .ok (.bipush 7, 2) := by decide +kernel
theorem dX11_billsOf_42 : decode cX11_billsOf 42 = .ok (.iconst (-1), 1) := by decide +kernel
theorem dX11_billsOf_43 : decode cX11_billsOf 43 = .ok (.invokevirtual 430, 3) := by decide +kernel
theorem dX11_billsOf_46 : decode cX11_billsOf 46 = .ok (.istore 9, 2) := by decide +kernel
theorem dX11_billsOf_48 : decode cX11_billsOf 48 = .ok (.lload 7, 2) := by decide +kernel
theorem dX11_billsOf_50 : decode cX11_billsOf 50 = .ok (.lstore 10, 2) := by decide +kernel
theorem dX11_billsOf_52 : decode cX11_billsOf 52 = .ok (.iload 6, 2) := by decide +kernel
theorem dX11_billsOf_54 : decode cX11_billsOf 54 = .ok (.iconst 5, 1) := by decide +kernel
theorem dX11_billsOf_55 : decode cX11_billsOf 55 = .ok (.irem, 1) := by decide +kernel
theorem dX11_billsOf_56 : decode cX11_billsOf 56 = .ok (.ifCond .le 53, 3) := by decide +kernel
theorem dX11_billsOf_59 : decode cX11_billsOf 59 = .ok (.iload 6, 2) := by decide +kernel
theorem dX11_billsOf_61 : decode cX11_billsOf 61 = .ok (.iconst 5, 1) := by decide +kernel
theorem dX11_billsOf_62 : decode cX11_billsOf 62 = .ok (.irem, 1) := by decide +kernel
theorem dX11_billsOf_63 : decode cX11_billsOf 63 = .ok (.iconst 4, 1) := by decide +kernel
theorem dX11_billsOf_64 : decode cX11_billsOf 64 = .ok (.if_icmp .ge 45, 3) := by decide +kernel
theorem dX11_billsOf_67 : decode cX11_billsOf 67 = .ok (.iload 9, 2) := by decide +kernel
theorem dX11_billsOf_69 : decode cX11_billsOf 69 = .ok (.iconst (-1), 1) := by decide +kernel
theorem dX11_billsOf_70 : decode cX11_billsOf 70 = .ok (.if_icmp .eq 39, 3) := by decide +kernel
theorem dX11_billsOf_73 : decode cX11_billsOf 73 = .ok (.lload 4, 2) := by decide +kernel
theorem dX11_billsOf_75 : decode cX11_billsOf 75 = .ok (.bipush 100, 2) := by decide +kernel
theorem dX11_billsOf_77 : decode cX11_billsOf 77 = .ok (.iload 9, 2) := by decide +kernel
theorem dX11_billsOf_79 : decode cX11_billsOf 79 = .ok (.isub, 1) := by decide +kernel
theorem dX11_billsOf_80 : decode cX11_billsOf 80 = .ok (.i2l, 1) := by decide +kernel
theorem dX11_billsOf_81 : decode cX11_billsOf 81 = .ok (.lmul, 1) := by decide +kernel
theorem dX11_billsOf_82 : decode cX11_billsOf 82 = .ok (.ldc2_w 433, 3) := by decide +kernel
theorem dX11_billsOf_85 : decode cX11_billsOf 85 = .ok (.ldiv, 1) := by decide +kernel
theorem dX11_billsOf_86 : decode cX11_billsOf 86 = .ok (.lload 4, 2) := by decide +kernel
theorem dX11_billsOf_88 : decode cX11_billsOf 88 = .ok (.bipush 100, 2) := by decide +kernel
theorem dX11_billsOf_90 : decode cX11_billsOf 90 = .ok (.iload 9, 2) := by decide +kernel
theorem dX11_billsOf_92 : decode cX11_billsOf 92 = .ok (.iadd, 1) := by decide +kernel
theorem dX11_billsOf_93 : decode cX11_billsOf 93 = .ok (.i2l, 1) := by decide +kernel
theorem dX11_billsOf_94 : decode cX11_billsOf 94 = .ok (.lmul, 1) := by decide +kernel
theorem dX11_billsOf_95 : decode cX11_billsOf 95 = .ok (.ldc2_w 433, 3) := by decide +kernel
theorem dX11_billsOf_98 : decode cX11_billsOf 98 = .ok (.ldiv, 1) := by decide +kernel
theorem dX11_billsOf_99 : decode cX11_billsOf 99 = .ok (.lload 7, 2) := by decide +kernel
theorem dX11_billsOf_101 : decode cX11_billsOf 101 = .ok (.invokestatic 462, 3) := by decide +kernel
theorem dX11_billsOf_104 : decode cX11_billsOf 104 = .ok (.invokestatic 457, 3) := by decide +kernel
theorem dX11_billsOf_107 : decode cX11_billsOf 107 = .ok (.lstore 10, 2) := by decide +kernel
theorem dX11_billsOf_109 : decode cX11_billsOf 109 = .ok (.lload 10, 2) := by decide +kernel
theorem dX11_billsOf_111 : decode cX11_billsOf 111 = .ok (.lstore 4, 2) := by decide +kernel
theorem dX11_billsOf_113 : decode cX11_billsOf 113 = .ok (.aload_n 0, 1) := by decide +kernel
theorem dX11_billsOf_114 : decode cX11_billsOf 114 = .ok (.lload 7, 2) := by decide +kernel
theorem dX11_billsOf_116 : decode cX11_billsOf 116 = .ok (.lload 10, 2) := by decide +kernel
theorem dX11_billsOf_118 : decode cX11_billsOf 118 = .ok (.lsub, 1) := by decide +kernel
theorem dX11_billsOf_119 : decode cX11_billsOf 119 = .ok (.putfield 528, 3) := by decide +kernel
theorem dX11_billsOf_122 : decode cX11_billsOf 122 = .ok (.iinc 6 1, 3) := by decide +kernel
theorem dX11_billsOf_125 : decode cX11_billsOf 125 = .ok (.goto (-110), 3) := by decide +kernel
theorem dX11_billsOf_128 : decode cX11_billsOf 128 = .ok (.lload 4, 2) := by decide +kernel
theorem dX11_billsOf_130 : decode cX11_billsOf 130 = .ok (.lreturn, 1) := by decide +kernel
theorem dX11_bills_0 : decode cX11_bills 0 = .ok (.aload_n 0, 1) := by decide +kernel
theorem dX11_bills_1 : decode cX11_bills 1 = .ok (.iload_n 1, 1) := by decide +kernel
theorem dX11_bills_2 : decode cX11_bills 2 = .ok (.iload_n 2, 1) := by decide +kernel
theorem dX11_bills_3 : decode cX11_bills 3 = .ok (.iload_n 3, 1) := by decide +kernel
theorem dX11_bills_4 : decode cX11_bills 4 = .ok (.invokevirtual 519, 3) := by decide +kernel
theorem dX11_bills_7 : decode cX11_bills 7 = .ok (.ifCond .eq 13, 3) := by decide +kernel
theorem dX11_bills_10 : decode cX11_bills 10 = .ok (.iload 4, 2) := by decide +kernel
theorem dX11_bills_12 : decode cX11_bills 12 = .ok (.iconst 0, 1) := by decide +kernel
theorem dX11_bills_13 : decode cX11_bills 13 = .ok (.iconst 1, 1) := by decide +kernel
theorem dX11_bills_14 : decode cX11_bills 14 = .ok (.invokestatic 165, 3) := by decide +kernel
theorem dX11_bills_17 : decode cX11_bills 17 = .ok (.ifCond .ne 7, 3) := by decide +kernel
theorem dX11_bills_20 : decode cX11_bills 20 = .ok (.ldc2_w 441, 3) := by decide +kernel
theorem dX11_bills_23 : decode cX11_bills 23 = .ok (.lreturn, 1) := by decide +kernel
theorem dX11_bills_24 : decode cX11_bills 24 = .ok (.aload_n 0, 1) := by decide +kernel
theorem dX11_bills_25 : decode cX11_bills 25 = .ok (.iload_n 1, 1) := by decide +kernel
theorem dX11_bills_26 : decode cX11_bills 26 = .ok (.invokevirtual 438, 3) := by decide +kernel
theorem dX11_bills_29 : decode cX11_bills 29 = .ok (.aload_n 0, 1) := by decide +kernel
theorem dX11_bills_30 : decode cX11_bills 30 = .ok (.iload_n 1, 1) := by decide +kernel
theorem dX11_bills_31 : decode cX11_bills 31 = .ok (.iload_n 2, 1) := by decide +kernel
theorem dX11_bills_32 : decode cX11_bills 32 = .ok (.iload_n 3, 1) := by decide +kernel
theorem dX11_bills_33 : decode cX11_bills 33 = .ok (.invokevirtual 532, 3) := by decide +kernel
theorem dX11_bills_36 : decode cX11_bills 36 = .ok (.lstore 5, 2) := by decide +kernel
theorem dX11_bills_38 : decode cX11_bills 38 = .ok (.iload 4, 2) := by decide +kernel
theorem dX11_bills_40 : decode cX11_bills 40 = .ok (.ifCond .ne 8, 3) := by decide +kernel
theorem dX11_bills_43 : decode cX11_bills 43 = .ok (.lload 5, 2) := by decide +kernel
theorem dX11_bills_45 : decode cX11_bills 45 = .ok (.goto 7, 3) := by decide +kernel
theorem dX11_bills_48 : decode cX11_bills 48 = .ok (.aload_n 0, 1) := by decide +kernel
theorem dX11_bills_49 : decode cX11_bills 49 = .ok (.getfield 528, 3) := by decide +kernel
theorem dX11_bills_52 : decode cX11_bills 52 = .ok (.lreturn, 1) := by decide +kernel
theorem dX11_partsOf_0 : decode cX11_partsOf 0 = .ok (.iload_n 0, 1) := by decide +kernel
theorem dX11_partsOf_1 : decode cX11_partsOf 1 = .ok (.ifCond .ne 7, 3) := by decide +kernel
theorem dX11_partsOf_4 : decode cX11_partsOf 4 = .ok (.iconst 2, 1) := by decide +kernel
theorem dX11_partsOf_5 : decode cX11_partsOf 5 = .ok (.goto 13, 3) := by decide +kernel
theorem dX11_partsOf_8 : decode cX11_partsOf 8 = .ok (.iload_n 0, 1) := by decide +kernel
theorem dX11_partsOf_9 : decode cX11_partsOf 9 = .ok (.iconst 1, 1) := by decide +kernel
theorem dX11_partsOf_10 : decode cX11_partsOf 10 = .ok (.if_icmp .ne 7, 3) := by decide +kernel
theorem dX11_partsOf_13 : decode cX11_partsOf 13 = .ok (.iconst 3, 1) := by decide +kernel
theorem dX11_partsOf_14 : decode cX11_partsOf 14 = .ok (.goto 4, 3) := by decide +kernel
theorem dX11_partsOf_17 : decode cX11_partsOf 17 = .ok (.iconst 5, 1) := by decide +kernel
theorem dX11_partsOf_18 : decode cX11_partsOf 18 = .ok (.ireturn, 1) := by decide +kernel
theorem dX11_homes_0 : decode cX11_homes 0 = .ok (.iconst 0, 1) := by decide +kernel
theorem dX11_homes_1 : decode cX11_homes 1 = .ok (.aload_n 0, 1) := by decide +kernel
theorem dX11_homes_2 : decode cX11_homes 2 = .ok (.iload_n 1, 1) := by decide +kernel
theorem dX11_homes_3 : decode cX11_homes 3 = .ok (.iload_n 2, 1) := by decide +kernel
theorem dX11_homes_4 : decode cX11_homes 4 = .ok (.bipush 11, 2) := by decide +kernel
theorem dX11_homes_6 : decode cX11_homes 6 = .ok (.iload 4, 2) := by decide +kernel
theorem dX11_homes_8 : decode cX11_homes 8 = .ok (.iadd, 1) := by decide +kernel
theorem dX11_homes_9 : decode cX11_homes 9 = .ok (.iload_n 3, 1) := by decide +kernel
theorem dX11_homes_10 : decode cX11_homes 10 = .ok (.invokevirtual 198, 3) := by decide +kernel
theorem dX11_homes_13 : decode cX11_homes 13 = .ok (.invokestatic 406, 3) := by decide +kernel
theorem dX11_homes_16 : decode cX11_homes 16 = .ok (.ireturn, 1) := by decide +kernel
theorem dX11_paid_0 : decode cX11_paid 0 = .ok (.lconst 0, 1) := by decide +kernel
theorem dX11_paid_1 : decode cX11_paid 1 = .ok (.lstore 7, 2) := by decide +kernel
theorem dX11_paid_3 : decode cX11_paid 3 = .ok (.iconst 0, 1) := by decide +kernel
theorem dX11_paid_4 : decode cX11_paid 4 = .ok (.istore 9, 2) := by decide +kernel
theorem dX11_paid_6 : decode cX11_paid 6 = .ok (.iload 9, 2) := by decide +kernel
theorem dX11_paid_8 : decode cX11_paid 8 = .ok (.iconst 3, 1) := by decide +kernel
theorem dX11_paid_9 : decode cX11_paid 9 = .ok (.if_icmp .ge 33, 3) := by decide +kernel
theorem dX11_paid_12 : decode cX11_paid 12 = .ok (.lload 7, 2) := by decide +kernel
theorem dX11_paid_14 : decode cX11_paid 14 = .ok (.aload_n 0, 1) := by decide +kernel
theorem dX11_paid_15 : decode cX11_paid 15 = .ok (.iload_n 3, 1) := by decide +kernel
theorem dX11_paid_16 : decode cX11_paid 16 = .ok (.iload 4, 2) := by decide +kernel
theorem dX11_paid_18 : decode cX11_paid 18 = .ok (.iload 5, 2) := by decide +kernel
theorem dX11_paid_20 : decode cX11_paid 20 = .ok (.iload 9, 2) := by decide +kernel
theorem dX11_paid_22 : decode cX11_paid 22 = .ok (.invokevirtual 535, 3) := by decide +kernel
theorem dX11_paid_25 : decode cX11_paid 25 = .ok (.i2l, 1) := by decide +kernel
theorem dX11_paid_26 : decode cX11_paid 26 = .ok (.iload 9, 2) := by decide +kernel
theorem dX11_paid_28 : decode cX11_paid 28 = .ok (.invokestatic 538, 3) := by decide +kernel
theorem dX11_paid_31 : decode cX11_paid 31 = .ok (.i2l, 1) := by decide +kernel
theorem dX11_paid_32 : decode cX11_paid 32 = .ok (.lmul, 1) := by decide +kernel
theorem dX11_paid_33 : decode cX11_paid 33 = .ok (.ladd, 1) := by decide +kernel
theorem dX11_paid_34 : decode cX11_paid 34 = .ok (.lstore 7, 2) := by decide +kernel
theorem dX11_paid_36 : decode cX11_paid 36 = .ok (.iinc 9 1, 3) := by decide +kernel
theorem dX11_paid_39 : decode cX11_paid 39 = .ok (.goto (-33), 3) := by decide +kernel
theorem dX11_paid_42 : decode cX11_paid 42 = .ok (.lload 7, 2) := by decide +kernel
theorem dX11_paid_44 : decode cX11_paid 44 = .ok (.lconst 0, 1) := by decide +kernel
theorem dX11_paid_45 : decode cX11_paid 45 = .ok (.lcmp, 1) := by decide +kernel
theorem dX11_paid_46 : decode cX11_paid 46 = .ok (.ifCond .ne 7, 3) := by decide +kernel
theorem dX11_paid_49 : decode cX11_paid 49 = .ok (.lconst 0, 1) := by decide +kernel
theorem dX11_paid_50 : decode cX11_paid 50 = .ok (.goto 14, 3) := by decide +kernel
theorem dX11_paid_53 : decode cX11_paid 53 = .ok (.lload_n 1, 1) := by decide +kernel
theorem dX11_paid_54 : decode cX11_paid 54 = .ok (.iload 6, 2) := by decide +kernel
theorem dX11_paid_56 : decode cX11_paid 56 = .ok (.invokestatic 538, 3) := by decide +kernel
theorem dX11_paid_59 : decode cX11_paid 59 = .ok (.i2l, 1) := by decide +kernel
theorem dX11_paid_60 : decode cX11_paid 60 = .ok (.lmul, 1) := by decide +kernel
theorem dX11_paid_61 : decode cX11_paid 61 = .ok (.lload 7, 2) := by decide +kernel
theorem dX11_paid_63 : decode cX11_paid 63 = .ok (.ldiv, 1) := by decide +kernel
theorem dX11_paid_64 : decode cX11_paid 64 = .ok (.lreturn, 1) := by decide +kernel
theorem dX11_home_0 : decode cX11_home 0 = .ok (.aload_n 0, 1) := by decide +kernel
theorem dX11_home_1 : decode cX11_home 1 = .ok (.iload_n 1, 1) := by decide +kernel
theorem dX11_home_2 : decode cX11_home 2 = .ok (.iload_n 2, 1) := by decide +kernel
theorem dX11_home_3 : decode cX11_home 3 = .ok (.iload_n 3, 1) := by decide +kernel
theorem dX11_home_4 : decode cX11_home 4 = .ok (.invokevirtual 519, 3) := by decide +kernel
theorem dX11_home_7 : decode cX11_home 7 = .ok (.ifCond .eq 13, 3) := by decide +kernel
theorem dX11_home_10 : decode cX11_home 10 = .ok (.iload 4, 2) := by decide +kernel
theorem dX11_home_12 : decode cX11_home 12 = .ok (.iconst 0, 1) := by decide +kernel
theorem dX11_home_13 : decode cX11_home 13 = .ok (.iconst 3, 1) := by decide +kernel
theorem dX11_home_14 : decode cX11_home 14 = .ok (.invokestatic 165, 3) := by decide +kernel
theorem dX11_home_17 : decode cX11_home 17 = .ok (.ifCond .ne 7, 3) := by decide +kernel
theorem dX11_home_20 : decode cX11_home 20 = .ok (.ldc2_w 441, 3) := by decide +kernel
theorem dX11_home_23 : decode cX11_home 23 = .ok (.lreturn, 1) := by decide +kernel
theorem dX11_home_24 : decode cX11_home 24 = .ok (.aload_n 0, 1) := by decide +kernel
theorem dX11_home_25 : decode cX11_home 25 = .ok (.iload_n 1, 1) := by decide +kernel
theorem dX11_home_26 : decode cX11_home 26 = .ok (.invokevirtual 438, 3) := by decide +kernel
theorem dX11_home_29 : decode cX11_home 29 = .ok (.aload_n 0, 1) := by decide +kernel
theorem dX11_home_30 : decode cX11_home 30 = .ok (.iload_n 1, 1) := by decide +kernel
theorem dX11_home_31 : decode cX11_home 31 = .ok (.iload_n 2, 1) := by decide +kernel
theorem dX11_home_32 : decode cX11_home 32 = .ok (.iload_n 3, 1) := by decide +kernel
theorem dX11_home_33 : decode cX11_home 33 = .ok (.invokevirtual 532, 3) := by decide +kernel
theorem dX11_home_36 : decode cX11_home 36 = .ok (.lstore 5, 2) := by decide +kernel
theorem dX11_home_38 : decode cX11_home 38 = .ok (.iload 4, 2) := by decide +kernel
theorem dX11_home_40 : decode cX11_home 40 = .ok (.iconst 3, 1) := by decide +kernel
theorem dX11_home_41 : decode cX11_home 41 = .ok (.if_icmp .ge 15, 3) := by decide +kernel
theorem dX11_home_44 : decode cX11_home 44 = .ok (.aload_n 0, 1) := by decide +kernel
theorem dX11_home_45 : decode cX11_home 45 = .ok (.lload 5, 2) := by decide +kernel
theorem dX11_home_47 : decode cX11_home 47 = .ok (.iload_n 1, 1) := by decide +kernel
theorem dX11_home_48 : decode cX11_home 48 = .ok (.iload_n 2, 1) := by decide +kernel
theorem dX11_home_49 : decode cX11_home 49 = .ok (.iload_n 3, 1) := by decide +kernel
theorem dX11_home_50 : decode cX11_home 50 = .ok (.iload 4, 2) := by decide +kernel
theorem dX11_home_52 : decode cX11_home 52 = .ok (.invokevirtual 541, 3) := by decide +kernel
theorem dX11_home_55 : decode cX11_home 55 = .ok (.lreturn, 1) := by decide +kernel
theorem dX11_home_56 : decode cX11_home 56 = .ok (.lload 5, 2) := by decide +kernel
theorem dX11_home_58 : decode cX11_home 58 = .ok (.lstore 7, 2) := by decide +kernel
theorem dX11_home_60 : decode cX11_home 60 = .ok (.iconst 0, 1) := by decide +kernel
theorem dX11_home_61 : decode cX11_home 61 = .ok (.istore 9, 2) := by decide +kernel
theorem dX11_home_63 : decode cX11_home 63 = .ok (.iload 9, 2) := by decide +kernel
theorem dX11_home_65 : decode cX11_home 65 = .ok (.iconst 3, 1) := by decide +kernel
theorem dX11_home_66 : decode cX11_home 66 = .ok (.if_icmp .ge 36, 3) := by decide +kernel
theorem dX11_home_69 : decode cX11_home 69 = .ok (.lload 7, 2) := by decide +kernel
theorem dX11_home_71 : decode cX11_home 71 = .ok (.aload_n 0, 1) := by decide +kernel
theorem dX11_home_72 : decode cX11_home 72 = .ok (.iload_n 1, 1) := by decide +kernel
theorem dX11_home_73 : decode cX11_home 73 = .ok (.iload_n 2, 1) := by decide +kernel
theorem dX11_home_74 : decode cX11_home 74 = .ok (.iload_n 3, 1) := by decide +kernel
theorem dX11_home_75 : decode cX11_home 75 = .ok (.iload 9, 2) := by decide +kernel
theorem dX11_home_77 : decode cX11_home 77 = .ok (.invokevirtual 535, 3) := by decide +kernel
theorem dX11_home_80 : decode cX11_home 80 = .ok (.i2l, 1) := by decide +kernel
theorem dX11_home_81 : decode cX11_home 81 = .ok (.aload_n 0, 1) := by decide +kernel
theorem dX11_home_82 : decode cX11_home 82 = .ok (.lload 5, 2) := by decide +kernel
theorem dX11_home_84 : decode cX11_home 84 = .ok (.iload_n 1, 1) := by decide +kernel
theorem dX11_home_85 : decode cX11_home 85 = .ok (.iload_n 2, 1) := by decide +kernel
theorem dX11_home_86 : decode cX11_home 86 = .ok (.iload_n 3, 1) := by decide +kernel
theorem dX11_home_87 : decode cX11_home 87 = .ok (.iload 9, 2) := by decide +kernel
theorem dX11_home_89 : decode cX11_home 89 = .ok (.invokevirtual 541, 3) := by decide +kernel
theorem dX11_home_92 : decode cX11_home 92 = .ok (.lmul, 1) := by decide +kernel
theorem dX11_home_93 : decode cX11_home 93 = .ok (.lsub, 1) := by decide +kernel
theorem dX11_home_94 : decode cX11_home 94 = .ok (.lstore 7, 2) := by decide +kernel
theorem dX11_home_96 : decode cX11_home 96 = .ok (.iinc 9 1, 3) := by decide +kernel
theorem dX11_home_99 : decode cX11_home 99 = .ok (.goto (-36), 3) := by decide +kernel
theorem dX11_home_102 : decode cX11_home 102 = .ok (.lload 7, 2) := by decide +kernel
theorem dX11_home_104 : decode cX11_home 104 = .ok (.lreturn, 1) := by decide +kernel
theorem dX11_who_0 : decode cX11_who 0 = .ok (.aload_n 0, 1) := by decide +kernel
theorem dX11_who_1 : decode cX11_who 1 = .ok (.iload_n 1, 1) := by decide +kernel
theorem dX11_who_2 : decode cX11_who 2 = .ok (.iload_n 2, 1) := by decide +kernel
theorem dX11_who_3 : decode cX11_who 3 = .ok (.iload_n 3, 1) := by decide +kernel
theorem dX11_who_4 : decode cX11_who 4 = .ok (.invokevirtual 519, 3) := by decide +kernel
theorem dX11_who_7 : decode cX11_who 7 = .ok (.ifCond .eq 24, 3) := by decide +kernel
theorem dX11_who_10 : decode cX11_who 10 = .ok (.iload 4, 2) := by decide +kernel
theorem dX11_who_12 : decode cX11_who 12 = .ok (.iconst 0, 1) := by decide +kernel
theorem dX11_who_13 : decode cX11_who 13 = .ok (.iconst 2, 1) := by decide +kernel
theorem dX11_who_14 : decode cX11_who 14 = .ok (.invokestatic 165, 3) := by decide +kernel
theorem dX11_who_17 : decode cX11_who 17 = .ok (.ifCond .eq 14, 3) := by decide +kernel
theorem dX11_who_20 : decode cX11_who 20 = .ok (.iload 5, 2) := by decide +kernel
theorem dX11_who_22 : decode cX11_who 22 = .ok (.iconst 0, 1) := by decide +kernel
theorem dX11_who_23 : decode cX11_who 23 = .ok (.bipush 14, 2) := by decide +kernel
theorem dX11_who_25 : decode cX11_who 25 = .ok (.invokestatic 165, 3) := by decide +kernel
theorem dX11_who_28 : decode cX11_who 28 = .ok (.ifCond .ne 7, 3) := by decide +kernel
theorem dX11_who_31 : decode cX11_who 31 = .ok (.ldc2_w 441, 3) := by decide +kernel
theorem dX11_who_34 : decode cX11_who 34 = .ok (.lreturn, 1) := by decide +kernel
theorem dX11_who_35 : decode cX11_who 35 = .ok (.aload_n 0, 1) := by decide +kernel
theorem dX11_who_36 : decode cX11_who 36 = .ok (.iload_n 1, 1) := by decide +kernel
theorem dX11_who_37 : decode cX11_who 37 = .ok (.invokevirtual 438, 3) := by decide +kernel
theorem dX11_who_40 : decode cX11_who 40 = .ok (.aload_n 0, 1) := by decide +kernel
theorem dX11_who_41 : decode cX11_who 41 = .ok (.aload_n 0, 1) := by decide +kernel
theorem dX11_who_42 : decode cX11_who 42 = .ok (.iload_n 1, 1) := by decide +kernel
theorem dX11_who_43 : decode cX11_who 43 = .ok (.iload_n 2, 1) := by decide +kernel
theorem dX11_who_44 : decode cX11_who 44 = .ok (.iload_n 3, 1) := by decide +kernel
theorem dX11_who_45 : decode cX11_who 45 = .ok (.iload 5, 2) := by decide +kernel
theorem dX11_who_47 : decode cX11_who 47 = .ok (.invokevirtual 522, 3) := by decide +kernel
theorem dX11_who_50 : decode cX11_who 50 = .ok (.iload_n 1, 1) := by decide +kernel
theorem dX11_who_51 : decode cX11_who 51 = .ok (.iload_n 2, 1) := by decide +kernel
theorem dX11_who_52 : decode cX11_who 52 = .ok (.iload_n 3, 1) := by decide +kernel
theorem dX11_who_53 : decode cX11_who 53 = .ok (.iload 4, 2) := by decide +kernel
theorem dX11_who_55 : decode cX11_who 55 = .ok (.invokevirtual 541, 3) := by decide +kernel
theorem dX11_who_58 : decode cX11_who 58 = .ok (.lreturn, 1) := by decide +kernel
theorem dX11_tried_0 : decode cX11_tried 0 = .ok (.aload_n 0, 1) := by decide +kernel
theorem dX11_tried_1 : decode cX11_tried 1 = .ok (.getfield 393, 3) := by decide +kernel
theorem dX11_tried_4 : decode cX11_tried 4 = .ok (.ifCond .eq 18, 3) := by decide +kernel
theorem dX11_tried_7 : decode cX11_tried 7 = .ok (.aload_n 0, 1) := by decide +kernel
theorem dX11_tried_8 : decode cX11_tried 8 = .ok (.iload_n 1, 1) := by decide +kernel
theorem dX11_tried_9 : decode cX11_tried 9 = .ok (.invokevirtual 177, 3) := by decide +kernel
theorem dX11_tried_12 : decode cX11_tried 12 = .ok (.ifCond .eq 10, 3) := by decide +kernel
theorem dX11_tried_15 : decode cX11_tried 15 = .ok (.iload_n 2, 1) := by decide +kernel
theorem dX11_tried_16 : decode cX11_tried 16 = .ok (.invokestatic 181, 3) := by decide +kernel
theorem dX11_tried_19 : decode cX11_tried 19 = .ok (.ifCond .ne 7, 3) := by decide +kernel
theorem dX11_tried_22 : decode cX11_tried 22 = .ok (.ldc2_w 441, 3) := by decide +kernel
theorem dX11_tried_25 : decode cX11_tried 25 = .ok (.lreturn, 1) := by decide +kernel
theorem dX11_tried_26 : decode cX11_tried 26 = .ok (.aload_n 0, 1) := by decide +kernel
theorem dX11_tried_27 : decode cX11_tried 27 = .ok (.iload_n 2, 1) := by decide +kernel
theorem dX11_tried_28 : decode cX11_tried 28 = .ok (.iconst 5, 1) := by decide +kernel
theorem dX11_tried_29 : decode cX11_tried 29 = .ok (.idiv, 1) := by decide +kernel
theorem dX11_tried_30 : decode cX11_tried 30 = .ok (.putfield 138, 3) := by decide +kernel
theorem dX11_tried_33 : decode cX11_tried 33 = .ok (.aload_n 0, 1) := by decide +kernel
theorem dX11_tried_34 : decode cX11_tried 34 = .ok (.bipush 8, 2) := by decide +kernel
theorem dX11_tried_36 : decode cX11_tried 36 = .ok (.putfield 397, 3) := by decide +kernel
theorem dX11_tried_39 : decode cX11_tried 39 = .ok (.aload_n 0, 1) := by decide +kernel
theorem dX11_tried_40 : decode cX11_tried 40 = .ok (.iload_n 1, 1) := by decide +kernel
theorem dX11_tried_41 : decode cX11_tried 41 = .ok (.invokevirtual 438, 3) := by decide +kernel
theorem dX11_tried_44 : decode cX11_tried 44 = .ok (.aload_n 0, 1) := by decide +kernel
theorem dX11_tried_45 : decode cX11_tried 45 = .ok (.iload_n 1, 1) := by decide +kernel
theorem dX11_tried_46 : decode cX11_tried 46 = .ok (.iload_n 2, 1) := by decide +kernel
theorem dX11_tried_47 : decode cX11_tried 47 = .ok (.aload_n 0, 1) := by decide +kernel
theorem dX11_tried_48 : decode cX11_tried 48 = .ok (.getfield 172, 3) := by decide +kernel
theorem dX11_tried_51 : decode cX11_tried 51 = .ok (.invokevirtual 525, 3) := by decide +kernel
theorem dX11_tried_54 : decode cX11_tried 54 = .ok (.lstore_n 3, 1) := by decide +kernel
theorem dX11_tried_55 : decode cX11_tried 55 = .ok (.aload_n 0, 1) := by decide +kernel
theorem dX11_tried_56 : decode cX11_tried 56 = .ok (.iconst (-1), 1) := by decide +kernel
theorem dX11_tried_57 : decode cX11_tried 57 = .ok (.putfield 138, 3) := by decide +kernel
theorem dX11_tried_60 : decode cX11_tried 60 = .ok (.lload_n 3, 1) := by decide +kernel
theorem dX11_tried_61 : decode cX11_tried 61 = .ok (.lreturn, 1) := by decide +kernel
theorem dX11_keeps_0 : decode cX11_keeps 0 = .ok (.aload_n 0, 1) := by decide +kernel
theorem dX11_keeps_1 : decode cX11_keeps 1 = .ok (.iload_n 1, 1) := by decide +kernel
theorem dX11_keeps_2 : decode cX11_keeps 2 = .ok (.iload_n 3, 1) := by decide +kernel
theorem dX11_keeps_3 : decode cX11_keeps 3 = .ok (.iconst 3, 1) := by decide +kernel
theorem dX11_keeps_4 : decode cX11_keeps 4 = .ok (.iload_n 2, 1) := by decide +kernel
theorem dX11_keeps_5 : decode cX11_keeps 5 = .ok (.iadd, 1) := by decide +kernel
theorem dX11_keeps_6 : decode cX11_keeps 6 = .ok (.aload_n 0, 1) := by decide +kernel
theorem dX11_keeps_7 : decode cX11_keeps 7 = .ok (.getfield 172, 3) := by decide +kernel
theorem dX11_keeps_10 : decode cX11_keeps 10 = .ok (.invokevirtual 198, 3) := by decide +kernel
theorem dX11_keeps_13 : decode cX11_keeps 13 = .ok (.i2l, 1) := by decide +kernel
theorem dX11_keeps_14 : decode cX11_keeps 14 = .ok (.lstore 6, 2) := by decide +kernel
theorem dX11_keeps_16 : decode cX11_keeps 16 = .ok (.lload 6, 2) := by decide +kernel
theorem dX11_keeps_18 : decode cX11_keeps 18 = .ok (.iload 5, 2) := by decide +kernel
theorem dX11_keeps_20 : decode cX11_keeps 20 = .ok (.i2l, 1) := by decide +kernel
theorem dX11_keeps_21 : decode cX11_keeps 21 = .ok (.lmul, 1) := by decide +kernel
theorem dX11_keeps_22 : decode cX11_keeps 22 = .ok (.ldc2_w 433, 3) := by decide +kernel
theorem dX11_keeps_25 : decode cX11_keeps 25 = .ok (.ldiv, 1) := by decide +kernel
theorem dX11_keeps_26 : decode cX11_keeps 26 = .ok (.invokestatic 474, 3) := by decide +kernel
theorem dX11_keeps_29 : decode cX11_keeps 29 = .ok (.aload_n 0, 1) := by decide +kernel
theorem dX11_keeps_30 : decode cX11_keeps 30 = .ok (.getfield 93, 3) := by decide +kernel
theorem dX11_keeps_33 : decode cX11_keeps 33 = .ok (.iload 4, 2) := by decide +kernel
theorem dX11_keeps_35 : decode cX11_keeps 35 = .ok (.iaload, 1) := by decide +kernel
theorem dX11_keeps_36 : decode cX11_keeps 36 = .ok (.i2l, 1) := by decide +kernel
theorem dX11_keeps_37 : decode cX11_keeps 37 = .ok (.lmul, 1) := by decide +kernel
theorem dX11_keeps_38 : decode cX11_keeps 38 = .ok (.ldc2_w 433, 3) := by decide +kernel
theorem dX11_keeps_41 : decode cX11_keeps 41 = .ok (.ldiv, 1) := by decide +kernel
theorem dX11_keeps_42 : decode cX11_keeps 42 = .ok (.lstore 8, 2) := by decide +kernel
theorem dX11_keeps_44 : decode cX11_keeps 44 = .ok (.aload_n 0, 1) := by decide +kernel
theorem dX11_keeps_45 : decode cX11_keeps 45 = .ok (.iload_n 1, 1) := by decide +kernel
theorem dX11_keeps_46 : decode cX11_keeps 46 = .ok (.iload_n 2, 1) := by decide +kernel
theorem dX11_keeps_47 : decode cX11_keeps 47 = .ok (.iload_n 3, 1) := by decide +kernel
theorem dX11_keeps_48 : decode cX11_keeps 48 = .ok (.lload 6, 2) := by decide +kernel
theorem dX11_keeps_50 : decode cX11_keeps 50 = .ok (.lload 8, 2) := by decide +kernel
theorem dX11_keeps_52 : decode cX11_keeps 52 = .ok (.lsub, 1) := by decide +kernel
theorem dX11_keeps_53 : decode cX11_keeps 53 = .ok (.invokevirtual 496, 3) := by decide +kernel
theorem dX11_keeps_56 : decode cX11_keeps 56 = .ok (.lneg, 1) := by decide +kernel
theorem dX11_keeps_57 : decode cX11_keeps 57 = .ok (.lreturn, 1) := by decide +kernel
theorem dX11_hole_0 : decode cX11_hole 0 = .ok (.aload_n 0, 1) := by decide +kernel
theorem dX11_hole_1 : decode cX11_hole 1 = .ok (.iload_n 1, 1) := by decide +kernel
theorem dX11_hole_2 : decode cX11_hole 2 = .ok (.invokevirtual 177, 3) := by decide +kernel
theorem dX11_hole_5 : decode cX11_hole 5 = .ok (.ifCond .eq 27, 3) := by decide +kernel
theorem dX11_hole_8 : decode cX11_hole 8 = .ok (.iload_n 2, 1) := by decide +kernel
theorem dX11_hole_9 : decode cX11_hole 9 = .ok (.invokestatic 205, 3) := by decide +kernel
theorem dX11_hole_12 : decode cX11_hole 12 = .ok (.ifCond .eq 20, 3) := by decide +kernel
theorem dX11_hole_15 : decode cX11_hole 15 = .ok (.iload_n 3, 1) := by decide +kernel
theorem dX11_hole_16 : decode cX11_hole 16 = .ok (.invokestatic 181, 3) := by decide +kernel
theorem dX11_hole_19 : decode cX11_hole 19 = .ok (.ifCond .eq 13, 3) := by decide +kernel
theorem dX11_hole_22 : decode cX11_hole 22 = .ok (.iload 4, 2) := by decide +kernel
theorem dX11_hole_24 : decode cX11_hole 24 = .ok (.iconst 0, 1) := by decide +kernel
theorem dX11_hole_25 : decode cX11_hole 25 = .ok (.iconst 2, 1) := by decide +kernel
theorem dX11_hole_26 : decode cX11_hole 26 = .ok (.invokestatic 165, 3) := by decide +kernel
theorem dX11_hole_29 : decode cX11_hole 29 = .ok (.ifCond .ne 7, 3) := by decide +kernel
theorem dX11_hole_32 : decode cX11_hole 32 = .ok (.ldc2_w 441, 3) := by decide +kernel
theorem dX11_hole_35 : decode cX11_hole 35 = .ok (.lreturn, 1) := by decide +kernel
theorem dX11_hole_36 : decode cX11_hole 36 = .ok (.aload_n 0, 1) := by decide +kernel
theorem dX11_hole_37 : decode cX11_hole 37 = .ok (.iload_n 1, 1) := by decide +kernel
theorem dX11_hole_38 : decode cX11_hole 38 = .ok (.invokevirtual 438, 3) := by decide +kernel
theorem dX11_hole_41 : decode cX11_hole 41 = .ok (.aload_n 0, 1) := by decide +kernel
theorem dX11_hole_42 : decode cX11_hole 42 = .ok (.iload_n 1, 1) := by decide +kernel
theorem dX11_hole_43 : decode cX11_hole 43 = .ok (.iload_n 3, 1) := by decide +kernel
theorem dX11_hole_44 : decode cX11_hole 44 = .ok (.iconst 0, 1) := by decide +kernel
theorem dX11_hole_45 : decode cX11_hole 45 = .ok (.iload_n 2, 1) := by decide +kernel
theorem dX11_hole_46 : decode cX11_hole 46 = .ok (.invokevirtual 417, 3) := by decide +kernel
theorem dX11_hole_49 : decode cX11_hole 49 = .ok (.istore 5, 2) := by decide +kernel
theorem dX11_hole_51 : decode cX11_hole 51 = .ok (.iload 5, 2) := by decide +kernel
theorem dX11_hole_53 : decode cX11_hole 53 = .ok (.iconst (-1), 1) := by decide +kernel
theorem dX11_hole_54 : decode cX11_hole 54 = .ok (.if_icmp .eq 31, 3) := by decide +kernel
theorem dX11_hole_57 : decode cX11_hole 57 = .ok (.aload_n 0, 1) := by decide +kernel
theorem dX11_hole_58 : decode cX11_hole 58 = .ok (.getfield 87, 3) := by decide +kernel
theorem dX11_hole_61 : decode cX11_hole 61 = .ok (.iload 5, 2) := by decide +kernel
theorem dX11_hole_63 : decode cX11_hole 63 = .ok (.iaload, 1) := by decide +kernel
theorem dX11_hole_64 : decode cX11_hole 64 = .ok (.iconst 3, 1) := by decide +kernel
theorem dX11_hole_65 : decode cX11_hole 65 = .ok (.if_icmp .ne 20, 3) := by decide +kernel
theorem dX11_hole_68 : decode cX11_hole 68 = .ok (.aload_n 0, 1) := by decide +kernel
theorem dX11_hole_69 : decode cX11_hole 69 = .ok (.iload_n 1, 1) := by decide +kernel
theorem dX11_hole_70 : decode cX11_hole 70 = .ok (.iload_n 3, 1) := by decide +kernel
theorem dX11_hole_71 : decode cX11_hole 71 = .ok (.iconst 3, 1) := by decide +kernel
theorem dX11_hole_72 : decode cX11_hole 72 = .ok (.iload_n 2, 1) := by decide +kernel
theorem dX11_hole_73 : decode cX11_hole 73 = .ok (.iadd, 1) := by decide +kernel
theorem dX11_hole_74 : decode cX11_hole 74 = .ok (.aload_n 0, 1) := by decide +kernel
theorem dX11_hole_75 : decode cX11_hole 75 = .ok (.getfield 172, 3) := by decide +kernel
theorem dX11_hole_78 : decode cX11_hole 78 = .ok (.invokevirtual 198, 3) := by decide +kernel
theorem dX11_hole_81 : decode cX11_hole 81 = .ok (.iconst (-1), 1) := by decide +kernel
theorem dX11_hole_82 : decode cX11_hole 82 = .ok (.if_icmp .ne 7, 3) := by decide +kernel
theorem dX11_hole_85 : decode cX11_hole 85 = .ok (.ldc2_w 441, 3) := by decide +kernel
theorem dX11_hole_88 : decode cX11_hole 88 = .ok (.lreturn, 1) := by decide +kernel
theorem dX11_hole_89 : decode cX11_hole 89 = .ok (.iload 4, 2) := by decide +kernel
theorem dX11_hole_91 : decode cX11_hole 91 = .ok (.iconst 2, 1) := by decide +kernel
theorem dX11_hole_92 : decode cX11_hole 92 = .ok (.if_icmp .ne 15, 3) := by decide +kernel
theorem dX11_hole_95 : decode cX11_hole 95 = .ok (.aload_n 0, 1) := by decide +kernel
theorem dX11_hole_96 : decode cX11_hole 96 = .ok (.iload_n 1, 1) := by decide +kernel
theorem dX11_hole_97 : decode cX11_hole 97 = .ok (.iload_n 2, 1) := by decide +kernel
theorem dX11_hole_98 : decode cX11_hole 98 = .ok (.iload_n 3, 1) := by decide +kernel
theorem dX11_hole_99 : decode cX11_hole 99 = .ok (.iload 5, 2) := by decide +kernel
theorem dX11_hole_101 : decode cX11_hole 101 = .ok (.bipush 100, 2) := by decide +kernel
theorem dX11_hole_103 : decode cX11_hole 103 = .ok (.invokevirtual 545, 3) := by decide +kernel
theorem dX11_hole_106 : decode cX11_hole 106 = .ok (.lreturn, 1) := by decide +kernel
theorem dX11_hole_107 : decode cX11_hole 107 = .ok (.bipush 80, 2) := by decide +kernel
theorem dX11_hole_109 : decode cX11_hole 109 = .ok (.istore 6, 2) := by decide +kernel
theorem dX11_hole_111 : decode cX11_hole 111 = .ok (.bipush 85, 2) := by decide +kernel
theorem dX11_hole_113 : decode cX11_hole 113 = .ok (.istore 7, 2) := by decide +kernel
theorem dX11_hole_115 : decode cX11_hole 115 = .ok (.iload 7, 2) := by decide +kernel
theorem dX11_hole_117 : decode cX11_hole 117 = .ok (.bipush 120, 2) := by decide +kernel
theorem dX11_hole_119 : decode cX11_hole 119 = .ok (.if_icmp .gt 39, 3) := by decide +kernel
theorem dX11_hole_122 : decode cX11_hole 122 = .ok (.aload_n 0, 1) := by decide +kernel
theorem dX11_hole_123 : decode cX11_hole 123 = .ok (.iload_n 1, 1) := by decide +kernel
theorem dX11_hole_124 : decode cX11_hole 124 = .ok (.iload_n 2, 1) := by decide +kernel
theorem dX11_hole_125 : decode cX11_hole 125 = .ok (.iload_n 3, 1) := by decide +kernel
theorem dX11_hole_126 : decode cX11_hole 126 = .ok (.iload 5, 2) := by decide +kernel
theorem dX11_hole_128 : decode cX11_hole 128 = .ok (.iload 7, 2) := by decide +kernel
theorem dX11_hole_130 : decode cX11_hole 130 = .ok (.invokevirtual 545, 3) := by decide +kernel
theorem dX11_hole_133 : decode cX11_hole 133 = .ok (.aload_n 0, 1) := by decide +kernel
theorem dX11_hole_134 : decode cX11_hole 134 = .ok (.iload_n 1, 1) := by decide +kernel
theorem dX11_hole_135 : decode cX11_hole 135 = .ok (.iload_n 2, 1) := by decide +kernel
theorem dX11_hole_136 : decode cX11_hole 136 = .ok (.iload_n 3, 1) := by decide +kernel
theorem dX11_hole_137 : decode cX11_hole 137 = .ok (.iload 5, 2) := by decide +kernel
theorem dX11_hole_139 : decode cX11_hole 139 = .ok (.iload 6, 2) := by decide +kernel
theorem dX11_hole_141 : decode cX11_hole 141 = .ok (.invokevirtual 545, 3) := by decide +kernel
theorem dX11_hole_144 : decode cX11_hole 144 = .ok (.lcmp, 1) := by decide +kernel
theorem dX11_hole_145 : decode cX11_hole 145 = .ok (.ifCond .le 7, 3) := by decide +kernel
theorem dX11_hole_148 : decode cX11_hole 148 = .ok (.iload 7, 2) := by decide +kernel
theorem dX11_hole_150 : decode cX11_hole 150 = .ok (.istore 6, 2) := by decide +kernel
theorem dX11_hole_152 : decode cX11_hole 152 = .ok (.iinc 7 5, 3) := by decide +kernel
theorem dX11_hole_155 : decode cX11_hole 155 = .ok (.goto (-40), 3) := by decide +kernel
theorem dX11_hole_158 : decode cX11_hole 158 = .ok (.iload 4, 2) := by decide +kernel
theorem dX11_hole_160 : decode cX11_hole 160 = .ok (.ifCond .ne 17, 3) := by decide +kernel
theorem dX11_hole_163 : decode cX11_hole 163 = .ok (.aload_n 0, 1) := by decide +kernel
theorem dX11_hole_164 : decode cX11_hole 164 = .ok (.iload_n 1, 1) := by decide +kernel
theorem dX11_hole_165 : decode cX11_hole 165 = .ok (.iload_n 2, 1) := by decide +kernel
theorem dX11_hole_166 : decode cX11_hole 166 = .ok (.iload_n 3, 1) := by decide +kernel
theorem dX11_hole_167 : decode cX11_hole 167 = .ok (.iload 5, 2) := by decide +kernel
theorem dX11_hole_169 : decode cX11_hole 169 = .ok (.iload 6, 2) := by decide +kernel
theorem dX11_hole_171 : decode cX11_hole 171 = .ok (.invokevirtual 545, 3) := by decide +kernel
theorem dX11_hole_174 : decode cX11_hole 174 = .ok (.goto 6, 3) := by decide +kernel
theorem dX11_hole_177 : decode cX11_hole 177 = .ok (.iload 6, 2) := by decide +kernel
theorem dX11_hole_179 : decode cX11_hole 179 = .ok (.i2l, 1) := by decide +kernel
theorem dX11_hole_180 : decode cX11_hole 180 = .ok (.lreturn, 1) := by decide +kernel
theorem dX11_putBy_0 : decode cX11_putBy 0 = .ok (.aload_n 0, 1) := by decide +kernel
theorem dX11_putBy_1 : decode cX11_putBy 1 = .ok (.getfield 393, 3) := by decide +kernel
theorem dX11_putBy_4 : decode cX11_putBy 4 = .ok (.ifCond .eq 11, 3) := by decide +kernel
theorem dX11_putBy_7 : decode cX11_putBy 7 = .ok (.aload_n 0, 1) := by decide +kernel
theorem dX11_putBy_8 : decode cX11_putBy 8 = .ok (.getfield 549, 3) := by decide +kernel
theorem dX11_putBy_11 : decode cX11_putBy 11 = .ok (.iconst 4, 1) := by decide +kernel
theorem dX11_putBy_12 : decode cX11_putBy 12 = .ok (.if_icmp .ne 5, 3) := by decide +kernel
theorem dX11_putBy_15 : decode cX11_putBy 15 = .ok (.iconst (-1), 1) := by decide +kernel
theorem dX11_putBy_16 : decode cX11_putBy 16 = .ok (.ireturn, 1) := by decide +kernel
theorem dX11_putBy_17 : decode cX11_putBy 17 = .ok (.aload_n 0, 1) := by decide +kernel
theorem dX11_putBy_18 : decode cX11_putBy 18 = .ok (.bipush 8, 2) := by decide +kernel
theorem dX11_putBy_20 : decode cX11_putBy 20 = .ok (.bipush 9, 2) := by decide +kernel
theorem dX11_putBy_22 : decode cX11_putBy 22 = .ok (.aload_n 0, 1) := by decide +kernel
theorem dX11_putBy_23 : decode cX11_putBy 23 = .ok (.getfield 549, 3) := by decide +kernel
theorem dX11_putBy_26 : decode cX11_putBy 26 = .ok (.iadd, 1) := by decide +kernel
theorem dX11_putBy_27 : decode cX11_putBy 27 = .ok (.invokevirtual 361, 3) := by decide +kernel
theorem dX11_putBy_30 : decode cX11_putBy 30 = .ok (.aload_n 0, 1) := by decide +kernel
theorem dX11_putBy_31 : decode cX11_putBy 31 = .ok (.dup, 1) := by decide +kernel
theorem dX11_putBy_32 : decode cX11_putBy 32 = .ok (.getfield 549, 3) := by decide +kernel
theorem dX11_putBy_35 : decode cX11_putBy 35 = .ok (.iconst 1, 1) := by decide +kernel
theorem dX11_putBy_36 : decode cX11_putBy 36 = .ok (.iadd, 1) := by decide +kernel
theorem dX11_putBy_37 : decode cX11_putBy 37 = .ok (.putfield 549, 3) := by decide +kernel
theorem dX11_putBy_40 : decode cX11_putBy 40 = .ok (.aload_n 0, 1) := by decide +kernel
theorem dX11_putBy_41 : decode cX11_putBy 41 = .ok (.getfield 549, 3) := by decide +kernel
theorem dX11_putBy_44 : decode cX11_putBy 44 = .ok (.iconst 1, 1) := by decide +kernel
theorem dX11_putBy_45 : decode cX11_putBy 45 = .ok (.isub, 1) := by decide +kernel
theorem dX11_putBy_46 : decode cX11_putBy 46 = .ok (.ireturn, 1) := by decide +kernel
theorem dX11_borneOf_0 : decode cX11_borneOf 0 = .ok (.lconst 0, 1) := by decide +kernel
theorem dX11_borneOf_1 : decode cX11_borneOf 1 = .ok (.lstore_n 3, 1) := by decide +kernel
theorem dX11_borneOf_2 : decode cX11_borneOf 2 = .ok (.iconst 5, 1) := by decide +kernel
theorem dX11_borneOf_3 : decode cX11_borneOf 3 = .ok (.iload_n 2, 1) := by decide +kernel
theorem dX11_borneOf_4 : decode cX11_borneOf 4 = .ok (.imul, 1) := by decide +kernel
theorem dX11_borneOf_5 : decode cX11_borneOf 5 = .ok (.istore 5, 2) := by decide +kernel
theorem dX11_borneOf_7 : decode cX11_borneOf 7 = .ok (.iload 5, 2) := by decide +kernel
theorem dX11_borneOf_9 : decode cX11_borneOf 9 = .ok (.iconst 5, 1) := by decide +kernel
theorem dX11_borneOf_10 : decode cX11_borneOf 10 = .ok (.iload_n 2, 1) := by decide +kernel
theorem dX11_borneOf_11 : decode cX11_borneOf 11 = .ok (.imul, 1) := by decide +kernel
theorem dX11_borneOf_12 : decode cX11_borneOf 12 = .ok (.iconst 5, 1) := by decide +kernel
theorem dX11_borneOf_13 : decode cX11_borneOf 13 = .ok (.iadd, 1) := by decide +kernel
theorem dX11_borneOf_14 : decode cX11_borneOf 14 = .ok (.if_icmp .ge 68, 3) := by decide +kernel
theorem dX11_borneOf_17 : decode cX11_borneOf 17 = .ok (.iconst 0, 1) := by decide +kernel
theorem dX11_borneOf_18 : decode cX11_borneOf 18 = .ok (.istore 6, 2) := by decide +kernel
theorem dX11_borneOf_20 : decode cX11_borneOf 20 = .ok (.iload 6, 2) := by decide +kernel
theorem dX11_borneOf_22 : decode cX11_borneOf 22 = .ok (.iconst 4, 1) := by decide +kernel
theorem dX11_borneOf_23 : decode cX11_borneOf 23 = .ok (.if_icmp .ge 53, 3) := by decide +kernel
theorem dX11_borneOf_26 : decode cX11_borneOf 26 = .ok (.aload_n 0, 1) := by decide +kernel
theorem dX11_borneOf_27 : decode cX11_borneOf 27 = .ok (.iload_n 1, 1) := by decide +kernel
theorem dX11_borneOf_28 : decode cX11_borneOf 28 = .ok (.iload 5, 2) := by decide +kernel
theorem dX11_borneOf_30 : decode cX11_borneOf 30 = .ok (.iconst 3, 1) := by decide +kernel
theorem dX11_borneOf_31 : decode cX11_borneOf 31 = .ok (.iload 6, 2) := by decide +kernel
theorem dX11_borneOf_33 : decode cX11_borneOf 33 = .ok (.iadd, 1) := by decide +kernel
theorem dX11_borneOf_34 : decode cX11_borneOf 34 = .ok (.aload_n 0, 1) := by decide +kernel
theorem dX11_borneOf_35 : decode cX11_borneOf 35 = .ok (.getfield 172, 3) := by decide +kernel
theorem dX11_borneOf_38 : decode cX11_borneOf 38 = .ok (.invokevirtual 198, 3) := by decide +kernel
theorem dX11_borneOf_41 : decode cX11_borneOf 41 = .ok (.iconst (-1), 1) := by decide +kernel
theorem dX11_borneOf_42 : decode cX11_borneOf 42 = .ok (.if_icmp .eq 28, 3) := by decide +kernel
theorem dX11_borneOf_45 : decode cX11_borneOf 45 = .ok (.lload_n 3, 1) := by decide +kernel
theorem dX11_borneOf_46 : decode cX11_borneOf 46 = .ok (.aload_n 0, 1) := by decide +kernel
theorem dX11_borneOf_47 : decode cX11_borneOf 47 = .ok (.iload_n 1, 1) := by decide +kernel
theorem dX11_borneOf_48 : decode cX11_borneOf 48 = .ok (.iload 6, 2) := by decide +kernel
theorem dX11_borneOf_50 : decode cX11_borneOf 50 = .ok (.iload 5, 2) := by decide +kernel
theorem dX11_borneOf_52 : decode cX11_borneOf 52 = .ok (.aload_n 0, 1) := by decide +kernel
theorem dX11_borneOf_53 : decode cX11_borneOf 53 = .ok (.iload_n 1, 1) := by decide +kernel
theorem dX11_borneOf_54 : decode cX11_borneOf 54 = .ok (.iload 6, 2) := by decide +kernel
theorem dX11_borneOf_56 : decode cX11_borneOf 56 = .ok (.iload 5, 2) := by decide +kernel
theorem dX11_borneOf_58 : decode cX11_borneOf 58 = .ok (.aload_n 0, 1) := by decide +kernel
theorem dX11_borneOf_59 : decode cX11_borneOf 59 = .ok (.getfield 172, 3) := by decide +kernel
theorem dX11_borneOf_62 : decode cX11_borneOf 62 = .ok (.invokevirtual 492, 3) := by decide +kernel
theorem dX11_borneOf_65 : decode cX11_borneOf 65 = .ok (.invokevirtual 496, 3) := by decide +kernel
theorem dX11_borneOf_68 : decode cX11_borneOf 68 = .ok (.ladd, 1) := by decide +kernel
theorem dX11_borneOf_69 : decode cX11_borneOf 69 = .ok (.lstore_n 3, 1) := by decide +kernel
theorem dX11_borneOf_70 : decode cX11_borneOf 70 = .ok (.iinc 6 1, 3) := by decide +kernel
theorem dX11_borneOf_73 : decode cX11_borneOf 73 = .ok (.goto (-53), 3) := by decide +kernel
theorem dX11_borneOf_76 : decode cX11_borneOf 76 = .ok (.iinc 5 1, 3) := by decide +kernel
theorem dX11_borneOf_79 : decode cX11_borneOf 79 = .ok (.goto (-72), 3) := by decide +kernel
theorem dX11_borneOf_82 : decode cX11_borneOf 82 = .ok (.lload_n 3, 1) := by decide +kernel
theorem dX11_borneOf_83 : decode cX11_borneOf 83 = .ok (.lreturn, 1) := by decide +kernel
theorem dX11_borne_0 : decode cX11_borne 0 = .ok (.aload_n 0, 1) := by decide +kernel
theorem dX11_borne_1 : decode cX11_borne 1 = .ok (.iload_n 1, 1) := by decide +kernel
theorem dX11_borne_2 : decode cX11_borne 2 = .ok (.invokevirtual 177, 3) := by decide +kernel
theorem dX11_borne_5 : decode cX11_borne 5 = .ok (.ifCond .eq 10, 3) := by decide +kernel
theorem dX11_borne_8 : decode cX11_borne 8 = .ok (.iload_n 2, 1) := by decide +kernel
theorem dX11_borne_9 : decode cX11_borne 9 = .ok (.invokestatic 383, 3) := by decide +kernel
theorem dX11_borne_12 : decode cX11_borne 12 = .ok (.ifCond .ne 7, 3) := by decide +kernel
theorem dX11_borne_15 : decode cX11_borne 15 = .ok (.ldc2_w 441, 3) := by decide +kernel
theorem dX11_borne_18 : decode cX11_borne 18 = .ok (.lreturn, 1) := by decide +kernel
theorem dX11_borne_19 : decode cX11_borne 19 = .ok (.aload_n 0, 1) := by decide +kernel
theorem dX11_borne_20 : decode cX11_borne 20 = .ok (.iload_n 1, 1) := by decide +kernel
theorem dX11_borne_21 : decode cX11_borne 21 = .ok (.invokevirtual 438, 3) := by decide +kernel
theorem dX11_borne_24 : decode cX11_borne 24 = .ok (.aload_n 0, 1) := by decide +kernel
theorem dX11_borne_25 : decode cX11_borne 25 = .ok (.iload_n 1, 1) := by decide +kernel
theorem dX11_borne_26 : decode cX11_borne 26 = .ok (.iload_n 2, 1) := by decide +kernel
theorem dX11_borne_27 : decode cX11_borne 27 = .ok (.invokevirtual 552, 3) := by decide +kernel
theorem dX11_borne_30 : decode cX11_borne 30 = .ok (.lreturn, 1) := by decide +kernel
theorem dX11_best_0 : decode cX11_best 0 = .ok (.iload_n 1, 1) := by decide +kernel
theorem dX11_best_1 : decode cX11_best 1 = .ok (.invokestatic 383, 3) := by decide +kernel
theorem dX11_best_4 : decode cX11_best 4 = .ok (.ifCond .eq 13, 3) := by decide +kernel
theorem dX11_best_7 : decode cX11_best 7 = .ok (.iload_n 2, 1) := by decide +kernel
theorem dX11_best_8 : decode cX11_best 8 = .ok (.iconst 0, 1) := by decide +kernel
theorem dX11_best_9 : decode cX11_best 9 = .ok (.ldc 176, 2) := by decide +kernel
theorem dX11_best_11 : decode cX11_best 11 = .ok (.invokestatic 165, 3) := by decide +kernel
theorem dX11_best_14 : decode cX11_best 14 = .ok (.ifCond .ne 5, 3) := by decide +kernel
theorem dX11_best_17 : decode cX11_best 17 = .ok (.iconst (-1), 1) := by decide +kernel
theorem dX11_best_18 : decode cX11_best 18 = .ok (.ireturn, 1) := by decide +kernel
theorem dX11_best_19 : decode cX11_best 19 = .ok (.iconst (-1), 1) := by decide +kernel
theorem dX11_best_20 : decode cX11_best 20 = .ok (.istore_n 3, 1) := by decide +kernel
theorem dX11_best_21 : decode cX11_best 21 = .ok (.lconst 0, 1) := by decide +kernel
theorem dX11_best_22 : decode cX11_best 22 = .ok (.lstore 4, 2) := by decide +kernel
theorem dX11_best_24 : decode cX11_best 24 = .ok (.iconst 0, 1) := by decide +kernel
theorem dX11_best_25 : decode cX11_best 25 = .ok (.istore 6, 2) := by decide +kernel
theorem dX11_best_27 : decode cX11_best 27 = .ok (.iload 6, 2) := by decide +kernel
theorem dX11_best_29 : decode cX11_best 29 = .ok (.aload_n 0, 1) := by decide +kernel
theorem dX11_best_30 : decode cX11_best 30 = .ok (.getfield 549, 3) := by decide +kernel
theorem dX11_best_33 : decode cX11_best 33 = .ok (.if_icmp .ge 149, 3) := by decide +kernel
theorem dX11_best_36 : decode cX11_best 36 = .ok (.aload_n 0, 1) := by decide +kernel
theorem dX11_best_37 : decode cX11_best 37 = .ok (.iload_n 1, 1) := by decide +kernel
theorem dX11_best_38 : decode cX11_best 38 = .ok (.putfield 138, 3) := by decide +kernel
theorem dX11_best_41 : decode cX11_best 41 = .ok (.aload_n 0, 1) := by decide +kernel
theorem dX11_best_42 : decode cX11_best 42 = .ok (.bipush 9, 2) := by decide +kernel
theorem dX11_best_44 : decode cX11_best 44 = .ok (.iload 6, 2) := by decide +kernel
theorem dX11_best_46 : decode cX11_best 46 = .ok (.iadd, 1) := by decide +kernel
theorem dX11_best_47 : decode cX11_best 47 = .ok (.putfield 397, 3) := by decide +kernel
theorem dX11_best_50 : decode cX11_best 50 = .ok (.iconst 1, 1) := by decide +kernel
theorem dX11_best_51 : decode cX11_best 51 = .ok (.istore 7, 2) := by decide +kernel
theorem dX11_best_53 : decode cX11_best 53 = .ok (.lconst 0, 1) := by decide +kernel
theorem dX11_best_54 : decode cX11_best 54 = .ok (.lstore 8, 2) := by decide +kernel
theorem dX11_best_56 : decode cX11_best 56 = .ok (.iconst 0, 1) := by decide +kernel
theorem dX11_best_57 : decode cX11_best 57 = .ok (.istore 10, 2) := by decide +kernel
theorem dX11_best_59 : decode cX11_best 59 = .ok (.iload 10, 2) := by decide +kernel
theorem dX11_best_61 : decode cX11_best 61 = .ok (.aload_n 0, 1) := by decide +kernel
theorem dX11_best_62 : decode cX11_best 62 = .ok (.getfield 169, 3) := by decide +kernel
theorem dX11_best_65 : decode cX11_best 65 = .ok (.if_icmp .ge 78, 3) := by decide +kernel
theorem dX11_best_68 : decode cX11_best 68 = .ok (.aload_n 0, 1) := by decide +kernel
theorem dX11_best_69 : decode cX11_best 69 = .ok (.iload 10, 2) := by decide +kernel
theorem dX11_best_71 : decode cX11_best 71 = .ok (.invokevirtual 438, 3) := by decide +kernel
theorem dX11_best_74 : decode cX11_best 74 = .ok (.iload 7, 2) := by decide +kernel
theorem dX11_best_76 : decode cX11_best 76 = .ok (.ifCond .eq 20, 3) := by decide +kernel
theorem dX11_best_79 : decode cX11_best 79 = .ok (.aload_n 0, 1) := by decide +kernel
theorem dX11_best_80 : decode cX11_best 80 = .ok (.iload 10, 2) := by decide +kernel
theorem dX11_best_82 : decode cX11_best 82 = .ok (.iload_n 1, 1) := by decide +kernel
theorem dX11_best_83 : decode cX11_best 83 = .ok (.invokevirtual 552, 3) := by decide +kernel
theorem dX11_best_86 : decode cX11_best 86 = .ok (.iload_n 2, 1) := by decide +kernel
theorem dX11_best_87 : decode cX11_best 87 = .ok (.i2l, 1) := by decide +kernel
theorem dX11_best_88 : decode cX11_best 88 = .ok (.lcmp, 1) := by decide +kernel
theorem dX11_best_89 : decode cX11_best 89 = .ok (.ifCond .gt 7, 3) := by decide +kernel
theorem dX11_best_92 : decode cX11_best 92 = .ok (.iconst 1, 1) := by decide +kernel
theorem dX11_best_93 : decode cX11_best 93 = .ok (.goto 4, 3) := by decide +kernel
theorem dX11_best_96 : decode cX11_best 96 = .ok (.iconst 0, 1) := by decide +kernel
theorem dX11_best_97 : decode cX11_best 97 = .ok (.istore 7, 2) := by decide +kernel
theorem dX11_best_99 : decode cX11_best 99 = .ok (.iconst 5, 1) := by decide +kernel
theorem dX11_best_100 : decode cX11_best 100 = .ok (.iload_n 1, 1) := by decide +kernel
theorem dX11_best_101 : decode cX11_best 101 = .ok (.imul, 1) := by decide +kernel
theorem dX11_best_102 : decode cX11_best 102 = .ok (.istore 11, 2) := by decide +kernel
theorem dX11_best_104 : decode cX11_best 104 = .ok (.iload 11, 2) := by decide +kernel
theorem dX11_best_106 : decode cX11_best 106 = .ok (.iconst 5, 1) := by decide +kernel
theorem dX11_best_107 : decode cX11_best 107 = .ok (.iload_n 1, 1) := by decide +kernel
theorem dX11_best_108 : decode cX11_best 108 = .ok (.imul, 1) := by decide +kernel
theorem dX11_best_109 : decode cX11_best 109 = .ok (.iconst 5, 1) := by decide +kernel
theorem dX11_best_110 : decode cX11_best 110 = .ok (.iadd, 1) := by decide +kernel
theorem dX11_best_111 : decode cX11_best 111 = .ok (.if_icmp .ge 26, 3) := by decide +kernel
theorem dX11_best_114 : decode cX11_best 114 = .ok (.lload 8, 2) := by decide +kernel
theorem dX11_best_116 : decode cX11_best 116 = .ok (.aload_n 0, 1) := by decide +kernel
theorem dX11_best_117 : decode cX11_best 117 = .ok (.iload 10, 2) := by decide +kernel
theorem dX11_best_119 : decode cX11_best 119 = .ok (.iload 11, 2) := by decide +kernel
theorem dX11_best_121 : decode cX11_best 121 = .ok (.aload_n 0, 1) := by decide +kernel
theorem dX11_best_122 : decode cX11_best 122 = .ok (.getfield 172, 3) := by decide +kernel
theorem dX11_best_125 : decode cX11_best 125 = .ok (.invokevirtual 525, 3) := by decide +kernel
theorem dX11_best_128 : decode cX11_best 128 = .ok (.ladd, 1) := by decide +kernel
theorem dX11_best_129 : decode cX11_best 129 = .ok (.lstore 8, 2) := by decide +kernel
theorem dX11_best_131 : decode cX11_best 131 = .ok (.iinc 11 1, 3) := by decide +kernel
theorem dX11_best_134 : decode cX11_best 134 = .ok (.goto (-30), 3) := by decide +kernel
theorem dX11_best_137 : decode cX11_best 137 = .ok (.iinc 10 1, 3) := by decide +kernel
theorem dX11_best_140 : decode cX11_best 140 = .ok (.goto (-81), 3) := by decide +kernel
theorem dX11_best_143 : decode cX11_best 143 = .ok (.aload_n 0, 1) := by decide +kernel
theorem dX11_best_144 : decode cX11_best 144 = .ok (.iconst (-1), 1) := by decide +kernel
theorem dX11_best_145 : decode cX11_best 145 = .ok (.putfield 138, 3) := by decide +kernel
theorem dX11_best_148 : decode cX11_best 148 = .ok (.iload 7, 2) := by decide +kernel
theorem dX11_best_150 : decode cX11_best 150 = .ok (.ifCond .eq 26, 3) := by decide +kernel
theorem dX11_best_153 : decode cX11_best 153 = .ok (.iload_n 3, 1) := by decide +kernel
theorem dX11_best_154 : decode cX11_best 154 = .ok (.iconst (-1), 1) := by decide +kernel
theorem dX11_best_155 : decode cX11_best 155 = .ok (.if_icmp .eq 14, 3) := by decide +kernel
theorem dX11_best_158 : decode cX11_best 158 = .ok (.lload 8, 2) := by decide +kernel
theorem dX11_best_160 : decode cX11_best 160 = .ok (.lload 4, 2) := by decide +kernel
theorem dX11_best_162 : decode cX11_best 162 = .ok (.lcmp, 1) := by decide +kernel
theorem dX11_best_163 : decode cX11_best 163 = .ok (.ifCond .lt 6, 3) := by decide +kernel
theorem dX11_best_166 : decode cX11_best 166 = .ok (.goto 10, 3) := by decide +kernel
theorem dX11_best_169 : decode cX11_best 169 = .ok (.iload 6, 2) := by decide +kernel
theorem dX11_best_171 : decode cX11_best 171 = .ok (.istore_n 3, 1) := by decide +kernel
theorem dX11_best_172 : decode cX11_best 172 = .ok (.lload 8, 2) := by decide +kernel
theorem dX11_best_174 : decode cX11_best 174 = .ok (.lstore 4, 2) := by decide +kernel
theorem dX11_best_176 : decode cX11_best 176 = .ok (.iinc 6 1, 3) := by decide +kernel
theorem dX11_best_179 : decode cX11_best 179 = .ok (.goto (-152), 3) := by decide +kernel
theorem dX11_best_182 : decode cX11_best 182 = .ok (.iload_n 3, 1) := by decide +kernel
theorem dX11_best_183 : decode cX11_best 183 = .ok (.ireturn, 1) := by decide +kernel
theorem dX11_tell_0 : decode cX11_tell 0 = .ok (.iload_n 1, 1) := by decide +kernel
theorem dX11_tell_1 : decode cX11_tell 1 = .ok (.iconst 0, 1) := by decide +kernel
theorem dX11_tell_2 : decode cX11_tell 2 = .ok (.bipush 14, 2) := by decide +kernel
theorem dX11_tell_4 : decode cX11_tell 4 = .ok (.invokestatic 165, 3) := by decide +kernel
theorem dX11_tell_7 : decode cX11_tell 7 = .ok (.ifCond .ne 5, 3) := by decide +kernel
theorem dX11_tell_10 : decode cX11_tell 10 = .ok (.iconst 0, 1) := by decide +kernel
theorem dX11_tell_11 : decode cX11_tell 11 = .ok (.ireturn, 1) := by decide +kernel
theorem dX11_tell_12 : decode cX11_tell 12 = .ok (.aload_n 0, 1) := by decide +kernel
theorem dX11_tell_13 : decode cX11_tell 13 = .ok (.getfield 162, 3) := by decide +kernel
theorem dX11_tell_16 : decode cX11_tell 16 = .ok (.iload_n 1, 1) := by decide +kernel
theorem dX11_tell_17 : decode cX11_tell 17 = .ok (.iload_n 2, 1) := by decide +kernel
theorem dX11_tell_18 : decode cX11_tell 18 = .ok (.iastore, 1) := by decide +kernel
theorem dX11_tell_19 : decode cX11_tell 19 = .ok (.iconst 1, 1) := by decide +kernel
theorem dX11_tell_20 : decode cX11_tell 20 = .ok (.ireturn, 1) := by decide +kernel
theorem dX11_check_0 : decode cX11_check 0 = .ok (.aload_n 0, 1) := by decide +kernel
theorem dX11_check_1 : decode cX11_check 1 = .ok (.iload_n 1, 1) := by decide +kernel
theorem dX11_check_2 : decode cX11_check 2 = .ok (.iload_n 2, 1) := by decide +kernel
theorem dX11_check_3 : decode cX11_check 3 = .ok (.iload_n 3, 1) := by decide +kernel
theorem dX11_check_4 : decode cX11_check 4 = .ok (.invokevirtual 519, 3) := by decide +kernel
theorem dX11_check_7 : decode cX11_check 7 = .ok (.ifCond .ne 6, 3) := by decide +kernel
theorem dX11_check_10 : decode cX11_check 10 = .ok (.bipush (-2), 2) := by decide +kernel
theorem dX11_check_12 : decode cX11_check 12 = .ok (.ireturn, 1) := by decide +kernel
theorem dX11_check_13 : decode cX11_check 13 = .ok (.aload_n 0, 1) := by decide +kernel
theorem dX11_check_14 : decode cX11_check 14 = .ok (.iload_n 1, 1) := by decide +kernel
theorem dX11_check_15 : decode cX11_check 15 = .ok (.invokevirtual 438, 3) := by decide +kernel
theorem dX11_check_18 : decode cX11_check 18 = .ok (.iconst 0, 1) := by decide +kernel
theorem dX11_check_19 : decode cX11_check 19 = .ok (.istore 4, 2) := by decide +kernel
theorem dX11_check_21 : decode cX11_check 21 = .ok (.iload 4, 2) := by decide +kernel
theorem dX11_check_23 : decode cX11_check 23 = .ok (.bipush 15, 2) := by decide +kernel
theorem dX11_check_25 : decode cX11_check 25 = .ok (.if_icmp .ge 33, 3) := by decide +kernel
theorem dX11_check_28 : decode cX11_check 28 = .ok (.aload_n 0, 1) := by decide +kernel
theorem dX11_check_29 : decode cX11_check 29 = .ok (.iload_n 1, 1) := by decide +kernel
theorem dX11_check_30 : decode cX11_check 30 = .ok (.iload_n 2, 1) := by decide +kernel
theorem dX11_check_31 : decode cX11_check 31 = .ok (.iload_n 3, 1) := by decide +kernel
theorem dX11_check_32 : decode cX11_check 32 = .ok (.iload 4, 2) := by decide +kernel
theorem dX11_check_34 : decode cX11_check 34 = .ok (.invokevirtual 522, 3) := by decide +kernel
theorem dX11_check_37 : decode cX11_check 37 = .ok (.aload_n 0, 1) := by decide +kernel
theorem dX11_check_38 : decode cX11_check 38 = .ok (.getfield 162, 3) := by decide +kernel
theorem dX11_check_41 : decode cX11_check 41 = .ok (.iload 4, 2) := by decide +kernel
theorem dX11_check_43 : decode cX11_check 43 = .ok (.iaload, 1) := by decide +kernel
theorem dX11_check_44 : decode cX11_check 44 = .ok (.i2l, 1) := by decide +kernel
theorem dX11_check_45 : decode cX11_check 45 = .ok (.lcmp, 1) := by decide +kernel
theorem dX11_check_46 : decode cX11_check 46 = .ok (.ifCond .eq 6, 3) := by decide +kernel
theorem dX11_check_49 : decode cX11_check 49 = .ok (.iload 4, 2) := by decide +kernel
theorem dX11_check_51 : decode cX11_check 51 = .ok (.ireturn, 1) := by decide +kernel
theorem dX11_check_52 : decode cX11_check 52 = .ok (.iinc 4 1, 3) := by decide +kernel
theorem dX11_check_55 : decode cX11_check 55 = .ok (.goto (-34), 3) := by decide +kernel
theorem dX11_check_58 : decode cX11_check 58 = .ok (.iconst (-1), 1) := by decide +kernel
theorem dX11_check_59 : decode cX11_check 59 = .ok (.ireturn, 1) := by decide +kernel
theorem dX11_twice_0 : decode cX11_twice 0 = .ok (.iload_n 1, 1) := by decide +kernel
theorem dX11_twice_1 : decode cX11_twice 1 = .ok (.istore_n 3, 1) := by decide +kernel
theorem dX11_twice_2 : decode cX11_twice 2 = .ok (.iconst 0, 1) := by decide +kernel
theorem dX11_twice_3 : decode cX11_twice 3 = .ok (.istore 4, 2) := by decide +kernel
theorem dX11_twice_5 : decode cX11_twice 5 = .ok (.iload 4, 2) := by decide +kernel
theorem dX11_twice_7 : decode cX11_twice 7 = .ok (.aload_n 0, 1) := by decide +kernel
theorem dX11_twice_8 : decode cX11_twice 8 = .ok (.getfield 202, 3) := by decide +kernel
theorem dX11_twice_11 : decode cX11_twice 11 = .ok (.if_icmp .ge 121, 3) := by decide +kernel
theorem dX11_twice_14 : decode cX11_twice 14 = .ok (.iload_n 1, 1) := by decide +kernel
theorem dX11_twice_15 : decode cX11_twice 15 = .ok (.ifCond .lt 117, 3) := by decide +kernel
theorem dX11_twice_18 : decode cX11_twice 18 = .ok (.iload_n 2, 1) := by decide +kernel
theorem dX11_twice_19 : decode cX11_twice 19 = .ok (.iconst 0, 1) := by decide +kernel
theorem dX11_twice_20 : decode cX11_twice 20 = .ok (.iconst 1, 1) := by decide +kernel
theorem dX11_twice_21 : decode cX11_twice 21 = .ok (.invokestatic 165, 3) := by decide +kernel
theorem dX11_twice_24 : decode cX11_twice 24 = .ok (.ifCond .eq 108, 3) := by decide +kernel
theorem dX11_twice_27 : decode cX11_twice 27 = .ok (.iload 4, 2) := by decide +kernel
theorem dX11_twice_29 : decode cX11_twice 29 = .ok (.iconst 1, 1) := by decide +kernel
theorem dX11_twice_30 : decode cX11_twice 30 = .ok (.iadd, 1) := by decide +kernel
theorem dX11_twice_31 : decode cX11_twice 31 = .ok (.istore 5, 2) := by decide +kernel
theorem dX11_twice_33 : decode cX11_twice 33 = .ok (.iload 5, 2) := by decide +kernel
theorem dX11_twice_35 : decode cX11_twice 35 = .ok (.aload_n 0, 1) := by decide +kernel
theorem dX11_twice_36 : decode cX11_twice 36 = .ok (.getfield 202, 3) := by decide +kernel
theorem dX11_twice_39 : decode cX11_twice 39 = .ok (.if_icmp .ge 87, 3) := by decide +kernel
theorem dX11_twice_42 : decode cX11_twice 42 = .ok (.aload_n 0, 1) := by decide +kernel
theorem dX11_twice_43 : decode cX11_twice 43 = .ok (.getfield 26, 3) := by decide +kernel
theorem dX11_twice_46 : decode cX11_twice 46 = .ok (.iload 4, 2) := by decide +kernel
theorem dX11_twice_48 : decode cX11_twice 48 = .ok (.iaload, 1) := by decide +kernel
theorem dX11_twice_49 : decode cX11_twice 49 = .ok (.aload_n 0, 1) := by decide +kernel
theorem dX11_twice_50 : decode cX11_twice 50 = .ok (.getfield 26, 3) := by decide +kernel
theorem dX11_twice_53 : decode cX11_twice 53 = .ok (.iload 5, 2) := by decide +kernel
theorem dX11_twice_55 : decode cX11_twice 55 = .ok (.iaload, 1) := by decide +kernel
theorem dX11_twice_56 : decode cX11_twice 56 = .ok (.if_icmp .ne 64, 3) := by decide +kernel
theorem dX11_twice_59 : decode cX11_twice 59 = .ok (.aload_n 0, 1) := by decide +kernel
theorem dX11_twice_60 : decode cX11_twice 60 = .ok (.getfield 29, 3) := by decide +kernel
theorem dX11_twice_63 : decode cX11_twice 63 = .ok (.iload 4, 2) := by decide +kernel
theorem dX11_twice_65 : decode cX11_twice 65 = .ok (.iaload, 1) := by decide +kernel
theorem dX11_twice_66 : decode cX11_twice 66 = .ok (.aload_n 0, 1) := by decide +kernel
theorem dX11_twice_67 : decode cX11_twice 67 = .ok (.getfield 29, 3) := by decide +kernel
theorem dX11_twice_70 : decode cX11_twice 70 = .ok (.iload 5, 2) := by decide +kernel
theorem dX11_twice_72 : decode cX11_twice 72 = .ok (.iaload, 1) := by decide +kernel
theorem dX11_twice_73 : decode cX11_twice 73 = .ok (.if_icmp .ne 47, 3) := by decide +kernel
theorem dX11_twice_76 : decode cX11_twice 76 = .ok (.aload_n 0, 1) := by decide +kernel
theorem dX11_twice_77 : decode cX11_twice 77 = .ok (.getfield 32, 3) := by decide +kernel
theorem dX11_twice_80 : decode cX11_twice 80 = .ok (.iload 4, 2) := by decide +kernel
theorem dX11_twice_82 : decode cX11_twice 82 = .ok (.iaload, 1) := by decide +kernel
theorem dX11_twice_83 : decode cX11_twice 83 = .ok (.aload_n 0, 1) := by decide +kernel
theorem dX11_twice_84 : decode cX11_twice 84 = .ok (.getfield 32, 3) := by decide +kernel
theorem dX11_twice_87 : decode cX11_twice 87 = .ok (.iload 5, 2) := by decide +kernel
theorem dX11_twice_89 : decode cX11_twice 89 = .ok (.iaload, 1) := by decide +kernel
theorem dX11_twice_90 : decode cX11_twice 90 = .ok (.isub, 1) := by decide +kernel
theorem dX11_twice_91 : decode cX11_twice 91 = .ok (.invokestatic 555, 3) := by decide +kernel
theorem dX11_twice_94 : decode cX11_twice 94 = .ok (.iconst 1, 1) := by decide +kernel
theorem dX11_twice_95 : decode cX11_twice 95 = .ok (.if_icmp .le 6, 3) := by decide +kernel
theorem dX11_twice_98 : decode cX11_twice 98 = .ok (.goto 22, 3) := by decide +kernel
theorem dX11_twice_101 : decode cX11_twice 101 = .ok (.iload_n 3, 1) := by decide +kernel
theorem dX11_twice_102 : decode cX11_twice 102 = .ok (.ifCond .ne 15, 3) := by decide +kernel
theorem dX11_twice_105 : decode cX11_twice 105 = .ok (.iload_n 2, 1) := by decide +kernel
theorem dX11_twice_106 : decode cX11_twice 106 = .ok (.ifCond .ne 8, 3) := by decide +kernel
theorem dX11_twice_109 : decode cX11_twice 109 = .ok (.iload 4, 2) := by decide +kernel
theorem dX11_twice_111 : decode cX11_twice 111 = .ok (.goto 5, 3) := by decide +kernel
theorem dX11_twice_114 : decode cX11_twice 114 = .ok (.iload 5, 2) := by decide +kernel
theorem dX11_twice_116 : decode cX11_twice 116 = .ok (.ireturn, 1) := by decide +kernel
theorem dX11_twice_117 : decode cX11_twice 117 = .ok (.iinc 3 (-1), 3) := by decide +kernel
theorem dX11_twice_120 : decode cX11_twice 120 = .ok (.iinc 5 1, 3) := by decide +kernel
theorem dX11_twice_123 : decode cX11_twice 123 = .ok (.goto (-90), 3) := by decide +kernel
theorem dX11_twice_126 : decode cX11_twice 126 = .ok (.iinc 4 1, 3) := by decide +kernel
theorem dX11_twice_129 : decode cX11_twice 129 = .ok (.goto (-124), 3) := by decide +kernel
theorem dX11_twice_132 : decode cX11_twice 132 = .ok (.iconst (-1), 1) := by decide +kernel
theorem dX11_twice_133 : decode cX11_twice 133 = .ok (.ireturn, 1) := by decide +kernel
theorem dX11_count_0 : decode cX11_count 0 = .ok (.iconst 0, 1) := by decide +kernel
theorem dX11_count_1 : decode cX11_count 1 = .ok (.istore_n 2, 1) := by decide +kernel
theorem dX11_count_2 : decode cX11_count 2 = .ok (.iload_n 1, 1) := by decide +kernel
theorem dX11_count_3 : decode cX11_count 3 = .ok (.tableswitch 151 0 10 #[57, 62, 67, 72, 77, 118, 123, 128, 133, 141, 146], 57) := by decide +kernel
theorem dX11_count_60 : decode cX11_count 60 = .ok (.aload_n 0, 1) := by decide +kernel
theorem dX11_count_61 : decode cX11_count 61 = .ok (.getfield 172, 3) := by decide +kernel
theorem dX11_count_64 : decode cX11_count 64 = .ok (.ireturn, 1) := by decide +kernel
theorem dX11_count_65 : decode cX11_count 65 = .ok (.aload_n 0, 1) := by decide +kernel
theorem dX11_count_66 : decode cX11_count 66 = .ok (.getfield 169, 3) := by decide +kernel
theorem dX11_count_69 : decode cX11_count 69 = .ok (.ireturn, 1) := by decide +kernel
theorem dX11_count_70 : decode cX11_count 70 = .ok (.aload_n 0, 1) := by decide +kernel
theorem dX11_count_71 : decode cX11_count 71 = .ok (.getfield 188, 3) := by decide +kernel
theorem dX11_count_74 : decode cX11_count 74 = .ok (.ireturn, 1) := by decide +kernel
theorem dX11_count_75 : decode cX11_count 75 = .ok (.aload_n 0, 1) := by decide +kernel
theorem dX11_count_76 : decode cX11_count 76 = .ok (.getfield 202, 3) := by decide +kernel
theorem dX11_count_79 : decode cX11_count 79 = .ok (.ireturn, 1) := by decide +kernel
theorem dX11_count_80 : decode cX11_count 80 = .ok (.iconst 0, 1) := by decide +kernel
theorem dX11_count_81 : decode cX11_count 81 = .ok (.istore_n 3, 1) := by decide +kernel
theorem dX11_count_82 : decode cX11_count 82 = .ok (.iload_n 3, 1) := by decide +kernel
theorem dX11_count_83 : decode cX11_count 83 = .ok (.aload_n 0, 1) := by decide +kernel
theorem dX11_count_84 : decode cX11_count 84 = .ok (.getfield 202, 3) := by decide +kernel
theorem dX11_count_87 : decode cX11_count 87 = .ok (.if_icmp .ge 32, 3) := by decide +kernel
theorem dX11_count_90 : decode cX11_count 90 = .ok (.iload_n 2, 1) := by decide +kernel
theorem dX11_count_91 : decode cX11_count 91 = .ok (.aload_n 0, 1) := by decide +kernel
theorem dX11_count_92 : decode cX11_count 92 = .ok (.getfield 35, 3) := by decide +kernel
theorem dX11_count_95 : decode cX11_count 95 = .ok (.iload_n 3, 1) := by decide +kernel
theorem dX11_count_96 : decode cX11_count 96 = .ok (.iaload, 1) := by decide +kernel
theorem dX11_count_97 : decode cX11_count 97 = .ok (.sipush 5000, 3) := by decide +kernel
theorem dX11_count_100 : decode cX11_count 100 = .ok (.if_icmp .eq 7, 3) := by decide +kernel
theorem dX11_count_103 : decode cX11_count 103 = .ok (.iconst 1, 1) := by decide +kernel
theorem dX11_count_104 : decode cX11_count 104 = .ok (.goto 4, 3) := by decide +kernel
theorem dX11_count_107 : decode cX11_count 107 = .ok (.iconst 0, 1) := by decide +kernel
theorem dX11_count_108 : decode cX11_count 108 = .ok (.invokestatic 426, 3) := by decide +kernel
theorem dX11_count_111 : decode cX11_count 111 = .ok (.iadd, 1) := by decide +kernel
theorem dX11_count_112 : decode cX11_count 112 = .ok (.istore_n 2, 1) := by decide +kernel
theorem dX11_count_113 : decode cX11_count 113 = .ok (.iinc 3 1, 3) := by decide +kernel
theorem dX11_count_116 : decode cX11_count 116 = .ok (.goto (-34), 3) := by decide +kernel
theorem dX11_count_119 : decode cX11_count 119 = .ok (.iload_n 2, 1) := by decide +kernel
theorem dX11_count_120 : decode cX11_count 120 = .ok (.ireturn, 1) := by decide +kernel
theorem dX11_count_121 : decode cX11_count 121 = .ok (.aload_n 0, 1) := by decide +kernel
theorem dX11_count_122 : decode cX11_count 122 = .ok (.getfield 208, 3) := by decide +kernel
theorem dX11_count_125 : decode cX11_count 125 = .ok (.ireturn, 1) := by decide +kernel
theorem dX11_count_126 : decode cX11_count 126 = .ok (.aload_n 0, 1) := by decide +kernel
theorem dX11_count_127 : decode cX11_count 127 = .ok (.getfield 211, 3) := by decide +kernel
theorem dX11_count_130 : decode cX11_count 130 = .ok (.ireturn, 1) := by decide +kernel
theorem dX11_count_131 : decode cX11_count 131 = .ok (.aload_n 0, 1) := by decide +kernel
theorem dX11_count_132 : decode cX11_count 132 = .ok (.getfield 380, 3) := by decide +kernel
theorem dX11_count_135 : decode cX11_count 135 = .ok (.ireturn, 1) := by decide +kernel
theorem dX11_count_136 : decode cX11_count 136 = .ok (.aload_n 0, 1) := by decide +kernel
theorem dX11_count_137 : decode cX11_count 137 = .ok (.getfield 393, 3) := by decide +kernel
theorem dX11_count_140 : decode cX11_count 140 = .ok (.invokestatic 426, 3) := by decide +kernel
theorem dX11_count_143 : decode cX11_count 143 = .ok (.ireturn, 1) := by decide +kernel
theorem dX11_count_144 : decode cX11_count 144 = .ok (.aload_n 0, 1) := by decide +kernel
theorem dX11_count_145 : decode cX11_count 145 = .ok (.getfield 214, 3) := by decide +kernel
theorem dX11_count_148 : decode cX11_count 148 = .ok (.ireturn, 1) := by decide +kernel
theorem dX11_count_149 : decode cX11_count 149 = .ok (.aload_n 0, 1) := by decide +kernel
theorem dX11_count_150 : decode cX11_count 150 = .ok (.getfield 549, 3) := by decide +kernel
theorem dX11_count_153 : decode cX11_count 153 = .ok (.ireturn, 1) := by decide +kernel
theorem dX11_count_154 : decode cX11_count 154 = .ok (.iconst (-1), 1) := by decide +kernel
theorem dX11_count_155 : decode cX11_count 155 = .ok (.ireturn, 1) := by decide +kernel
theorem dJ9_abs_0f7a4_0 : decode cJ9_abs_0f7a4 0 = .ok (.iload_n 0, 1) := by decide +kernel
theorem dJ9_abs_0f7a4_1 : decode cJ9_abs_0f7a4 1 = .ok (.ifCond .ge 8, 3) := by decide +kernel
theorem dJ9_abs_0f7a4_4 : decode cJ9_abs_0f7a4 4 = .ok (.iload_n 0, 1) := by decide +kernel
theorem dJ9_abs_0f7a4_5 : decode cJ9_abs_0f7a4 5 = .ok (.ineg, 1) := by decide +kernel
theorem dJ9_abs_0f7a4_6 : decode cJ9_abs_0f7a4 6 = .ok (.goto 4, 3) := by decide +kernel
theorem dJ9_abs_0f7a4_9 : decode cJ9_abs_0f7a4 9 = .ok (.iload_n 0, 1) := by decide +kernel
theorem dJ9_abs_0f7a4_10 : decode cJ9_abs_0f7a4 10 = .ok (.ireturn, 1) := by decide +kernel
theorem dJ9_abs_067f4_0 : decode cJ9_abs_067f4 0 = .ok (.lload_n 0, 1) := by decide +kernel
theorem dJ9_abs_067f4_1 : decode cJ9_abs_067f4 1 = .ok (.lconst 0, 1) := by decide +kernel
theorem dJ9_abs_067f4_2 : decode cJ9_abs_067f4 2 = .ok (.lcmp, 1) := by decide +kernel
theorem dJ9_abs_067f4_3 : decode cJ9_abs_067f4 3 = .ok (.ifCond .ge 8, 3) := by decide +kernel
theorem dJ9_abs_067f4_6 : decode cJ9_abs_067f4 6 = .ok (.lload_n 0, 1) := by decide +kernel
theorem dJ9_abs_067f4_7 : decode cJ9_abs_067f4 7 = .ok (.lneg, 1) := by decide +kernel
theorem dJ9_abs_067f4_8 : decode cJ9_abs_067f4 8 = .ok (.goto 4, 3) := by decide +kernel
theorem dJ9_abs_067f4_11 : decode cJ9_abs_067f4 11 = .ok (.lload_n 0, 1) := by decide +kernel
theorem dJ9_abs_067f4_12 : decode cJ9_abs_067f4 12 = .ok (.lreturn, 1) := by decide +kernel
theorem dJ9_max_7cf53_0 : decode cJ9_max_7cf53 0 = .ok (.iload_n 0, 1) := by decide +kernel
theorem dJ9_max_7cf53_1 : decode cJ9_max_7cf53 1 = .ok (.iload_n 1, 1) := by decide +kernel
theorem dJ9_max_7cf53_2 : decode cJ9_max_7cf53 2 = .ok (.if_icmp .lt 7, 3) := by decide +kernel
theorem dJ9_max_7cf53_5 : decode cJ9_max_7cf53 5 = .ok (.iload_n 0, 1) := by decide +kernel
theorem dJ9_max_7cf53_6 : decode cJ9_max_7cf53 6 = .ok (.goto 4, 3) := by decide +kernel
theorem dJ9_max_7cf53_9 : decode cJ9_max_7cf53 9 = .ok (.iload_n 1, 1) := by decide +kernel
theorem dJ9_max_7cf53_10 : decode cJ9_max_7cf53 10 = .ok (.ireturn, 1) := by decide +kernel
theorem dJ9_max_f86c9_0 : decode cJ9_max_f86c9 0 = .ok (.lload_n 0, 1) := by decide +kernel
theorem dJ9_max_f86c9_1 : decode cJ9_max_f86c9 1 = .ok (.lload_n 2, 1) := by decide +kernel
theorem dJ9_max_f86c9_2 : decode cJ9_max_f86c9 2 = .ok (.lcmp, 1) := by decide +kernel
theorem dJ9_max_f86c9_3 : decode cJ9_max_f86c9 3 = .ok (.ifCond .lt 7, 3) := by decide +kernel
theorem dJ9_max_f86c9_6 : decode cJ9_max_f86c9 6 = .ok (.lload_n 0, 1) := by decide +kernel
theorem dJ9_max_f86c9_7 : decode cJ9_max_f86c9 7 = .ok (.goto 4, 3) := by decide +kernel
theorem dJ9_max_f86c9_10 : decode cJ9_max_f86c9 10 = .ok (.lload_n 2, 1) := by decide +kernel
theorem dJ9_max_f86c9_11 : decode cJ9_max_f86c9 11 = .ok (.lreturn, 1) := by decide +kernel
theorem dJ9_min_7cf53_0 : decode cJ9_min_7cf53 0 = .ok (.iload_n 0, 1) := by decide +kernel
theorem dJ9_min_7cf53_1 : decode cJ9_min_7cf53 1 = .ok (.iload_n 1, 1) := by decide +kernel
theorem dJ9_min_7cf53_2 : decode cJ9_min_7cf53 2 = .ok (.if_icmp .gt 7, 3) := by decide +kernel
theorem dJ9_min_7cf53_5 : decode cJ9_min_7cf53 5 = .ok (.iload_n 0, 1) := by decide +kernel
theorem dJ9_min_7cf53_6 : decode cJ9_min_7cf53 6 = .ok (.goto 4, 3) := by decide +kernel
theorem dJ9_min_7cf53_9 : decode cJ9_min_7cf53 9 = .ok (.iload_n 1, 1) := by decide +kernel
theorem dJ9_min_7cf53_10 : decode cJ9_min_7cf53 10 = .ok (.ireturn, 1) := by decide +kernel
theorem dJ9_min_f86c9_0 : decode cJ9_min_f86c9 0 = .ok (.lload_n 0, 1) := by decide +kernel
theorem dJ9_min_f86c9_1 : decode cJ9_min_f86c9 1 = .ok (.lload_n 2, 1) := by decide +kernel
theorem dJ9_min_f86c9_2 : decode cJ9_min_f86c9 2 = .ok (.lcmp, 1) := by decide +kernel
theorem dJ9_min_f86c9_3 : decode cJ9_min_f86c9 3 = .ok (.ifCond .gt 7, 3) := by decide +kernel
theorem dJ9_min_f86c9_6 : decode cJ9_min_f86c9 6 = .ok (.lload_n 0, 1) := by decide +kernel
theorem dJ9_min_f86c9_7 : decode cJ9_min_f86c9 7 = .ok (.goto 4, 3) := by decide +kernel
theorem dJ9_min_f86c9_10 : decode cJ9_min_f86c9 10 = .ok (.lload_n 2, 1) := by decide +kernel
theorem dJ9_min_f86c9_11 : decode cJ9_min_f86c9 11 = .ok (.lreturn, 1) := by decide +kernel
theorem dJ0_length_8abf5_0 : decode cJ0_length_8abf5 0 = .ok (.aload_n 0, 1) := by decide +kernel
theorem dJ0_length_8abf5_1 : decode cJ0_length_8abf5 1 = .ok (.getfield 9, 3) := by decide +kernel
theorem dJ0_length_8abf5_4 : decode cJ0_length_8abf5 4 = .ok (.arraylength, 1) := by decide +kernel
theorem dJ0_length_8abf5_5 : decode cJ0_length_8abf5 5 = .ok (.aload_n 0, 1) := by decide +kernel
theorem dJ0_length_8abf5_6 : decode cJ0_length_8abf5 6 = .ok (.invokevirtual 335, 3) := by decide +kernel
theorem dJ0_length_8abf5_9 : decode cJ0_length_8abf5 9 = .ok (.ishr, 1) := by decide +kernel
theorem dJ0_length_8abf5_10 : decode cJ0_length_8abf5 10 = .ok (.ireturn, 1) := by decide +kernel
theorem dJ0_charAt_5068e_0 : decode cJ0_charAt_5068e 0 = .ok (.aload_n 0, 1) := by decide +kernel
theorem dJ0_charAt_5068e_1 : decode cJ0_charAt_5068e 1 = .ok (.invokevirtual 492, 3) := by decide +kernel
theorem dJ0_charAt_5068e_4 : decode cJ0_charAt_5068e 4 = .ok (.ifCond .eq 12, 3) := by decide +kernel
theorem dJ0_charAt_5068e_7 : decode cJ0_charAt_5068e 7 = .ok (.aload_n 0, 1) := by decide +kernel
theorem dJ0_charAt_5068e_8 : decode cJ0_charAt_5068e 8 = .ok (.getfield 9, 3) := by decide +kernel
theorem dJ0_charAt_5068e_11 : decode cJ0_charAt_5068e 11 = .ok (.iload_n 1, 1) := by decide +kernel
theorem dJ0_charAt_5068e_12 : decode cJ0_charAt_5068e 12 = .ok (.invokestatic 495, 3) := by decide +kernel
theorem dJ0_charAt_5068e_15 : decode cJ0_charAt_5068e 15 = .ok (.ireturn, 1) := by decide +kernel
theorem dJ0_charAt_5068e_16 : decode cJ0_charAt_5068e 16 = .ok (.aload_n 0, 1) := by decide +kernel
theorem dJ0_charAt_5068e_17 : decode cJ0_charAt_5068e 17 = .ok (.getfield 9, 3) := by decide +kernel
theorem dJ0_charAt_5068e_20 : decode cJ0_charAt_5068e 20 = .ok (.iload_n 1, 1) := by decide +kernel
theorem dJ0_charAt_5068e_21 : decode cJ0_charAt_5068e 21 = .ok (.invokestatic 498, 3) := by decide +kernel
theorem dJ0_charAt_5068e_24 : decode cJ0_charAt_5068e 24 = .ok (.ireturn, 1) := by decide +kernel
theorem dJ0_coder_7d493_0 : decode cJ0_coder_7d493 0 = .ok (.getstatic 38, 3) := by decide +kernel
theorem dJ0_coder_7d493_3 : decode cJ0_coder_7d493 3 = .ok (.ifCond .eq 10, 3) := by decide +kernel
theorem dJ0_coder_7d493_6 : decode cJ0_coder_7d493 6 = .ok (.aload_n 0, 1) := by decide +kernel
theorem dJ0_coder_7d493_7 : decode cJ0_coder_7d493 7 = .ok (.getfield 15, 3) := by decide +kernel
theorem dJ0_coder_7d493_10 : decode cJ0_coder_7d493 10 = .ok (.goto 4, 3) := by decide +kernel
theorem dJ0_coder_7d493_13 : decode cJ0_coder_7d493 13 = .ok (.iconst 1, 1) := by decide +kernel
theorem dJ0_coder_7d493_14 : decode cJ0_coder_7d493 14 = .ok (.ireturn, 1) := by decide +kernel
theorem dJ0_isLatin1_aae02_0 : decode cJ0_isLatin1_aae02 0 = .ok (.getstatic 38, 3) := by decide +kernel
theorem dJ0_isLatin1_aae02_3 : decode cJ0_isLatin1_aae02 3 = .ok (.ifCond .eq 14, 3) := by decide +kernel
theorem dJ0_isLatin1_aae02_6 : decode cJ0_isLatin1_aae02 6 = .ok (.aload_n 0, 1) := by decide +kernel
theorem dJ0_isLatin1_aae02_7 : decode cJ0_isLatin1_aae02 7 = .ok (.getfield 15, 3) := by decide +kernel
theorem dJ0_isLatin1_aae02_10 : decode cJ0_isLatin1_aae02 10 = .ok (.ifCond .ne 7, 3) := by decide +kernel
theorem dJ0_isLatin1_aae02_13 : decode cJ0_isLatin1_aae02 13 = .ok (.iconst 1, 1) := by decide +kernel
theorem dJ0_isLatin1_aae02_14 : decode cJ0_isLatin1_aae02 14 = .ok (.goto 4, 3) := by decide +kernel
theorem dJ0_isLatin1_aae02_17 : decode cJ0_isLatin1_aae02 17 = .ok (.iconst 0, 1) := by decide +kernel
theorem dJ0_isLatin1_aae02_18 : decode cJ0_isLatin1_aae02 18 = .ok (.ireturn, 1) := by decide +kernel
theorem dJ0_checkIndex_df160_0 : decode cJ0_checkIndex_df160 0 = .ok (.iload_n 0, 1) := by decide +kernel
theorem dJ0_checkIndex_df160_1 : decode cJ0_checkIndex_df160 1 = .ok (.iload_n 1, 1) := by decide +kernel
theorem dJ0_checkIndex_df160_2 : decode cJ0_checkIndex_df160 2 = .ok (.getstatic 1053, 3) := by decide +kernel
theorem dJ0_checkIndex_df160_5 : decode cJ0_checkIndex_df160 5 = .ok (.invokestatic 1059, 3) := by decide +kernel
theorem dJ0_checkIndex_df160_8 : decode cJ0_checkIndex_df160 8 = .ok (.pop, 1) := by decide +kernel
theorem dJ0_checkIndex_df160_9 : decode cJ0_checkIndex_df160 9 = .ok (.return_, 1) := by decide +kernel
theorem dJ1_charAt_3b067_0 : decode cJ1_charAt_3b067 0 = .ok (.iload_n 1, 1) := by decide +kernel
theorem dJ1_charAt_3b067_1 : decode cJ1_charAt_3b067 1 = .ok (.aload_n 0, 1) := by decide +kernel
theorem dJ1_charAt_3b067_2 : decode cJ1_charAt_3b067 2 = .ok (.arraylength, 1) := by decide +kernel
theorem dJ1_charAt_3b067_3 : decode cJ1_charAt_3b067 3 = .ok (.invokestatic 9, 3) := by decide +kernel
theorem dJ1_charAt_3b067_6 : decode cJ1_charAt_3b067 6 = .ok (.aload_n 0, 1) := by decide +kernel
theorem dJ1_charAt_3b067_7 : decode cJ1_charAt_3b067 7 = .ok (.iload_n 1, 1) := by decide +kernel
theorem dJ1_charAt_3b067_8 : decode cJ1_charAt_3b067 8 = .ok (.baload, 1) := by decide +kernel
theorem dJ1_charAt_3b067_9 : decode cJ1_charAt_3b067 9 = .ok (.sipush 255, 3) := by decide +kernel
theorem dJ1_charAt_3b067_12 : decode cJ1_charAt_3b067 12 = .ok (.iand, 1) := by decide +kernel
theorem dJ1_charAt_3b067_13 : decode cJ1_charAt_3b067 13 = .ok (.i2c, 1) := by decide +kernel
theorem dJ1_charAt_3b067_14 : decode cJ1_charAt_3b067 14 = .ok (.ireturn, 1) := by decide +kernel
theorem dJ2_getChar_3b067_0 : decode cJ2_getChar_3b067 0 = .ok (.getstatic 44, 3) := by decide +kernel
theorem dJ2_getChar_3b067_3 : decode cJ2_getChar_3b067 3 = .ok (.ifCond .ne 25, 3) := by decide +kernel
theorem dJ2_getChar_3b067_6 : decode cJ2_getChar_3b067 6 = .ok (.iload_n 1, 1) := by decide +kernel
theorem dJ2_getChar_3b067_7 : decode cJ2_getChar_3b067 7 = .ok (.ifCond .lt 11, 3) := by decide +kernel
theorem dJ2_getChar_3b067_10 : decode cJ2_getChar_3b067 10 = .ok (.iload_n 1, 1) := by decide +kernel
theorem dJ2_getChar_3b067_11 : decode cJ2_getChar_3b067 11 = .ok (.aload_n 0, 1) := by decide +kernel
theorem dJ2_getChar_3b067_12 : decode cJ2_getChar_3b067 12 = .ok (.invokestatic 48, 3) := by decide +kernel
theorem dJ2_getChar_3b067_15 : decode cJ2_getChar_3b067 15 = .ok (.if_icmp .lt 13, 3) := by decide +kernel
theorem dJ2_getChar_3b067_18 : decode cJ2_getChar_3b067 18 = .ok (.new 52, 3) := by decide +kernel
theorem dJ2_getChar_3b067_21 : decode cJ2_getChar_3b067 21 = .ok (.dup, 1) := by decide +kernel
theorem dJ2_getChar_3b067_22 : decode cJ2_getChar_3b067 22 = .ok (.ldc 54, 2) := by decide +kernel
theorem dJ2_getChar_3b067_24 : decode cJ2_getChar_3b067 24 = .ok (.invokespecial 56, 3) := by decide +kernel
theorem dJ2_getChar_3b067_27 : decode cJ2_getChar_3b067 27 = .ok (.athrow, 1) := by decide +kernel
theorem dJ2_getChar_3b067_28 : decode cJ2_getChar_3b067 28 = .ok (.iload_n 1, 1) := by decide +kernel
theorem dJ2_getChar_3b067_29 : decode cJ2_getChar_3b067 29 = .ok (.iconst 1, 1) := by decide +kernel
theorem dJ2_getChar_3b067_30 : decode cJ2_getChar_3b067 30 = .ok (.ishl, 1) := by decide +kernel
theorem dJ2_getChar_3b067_31 : decode cJ2_getChar_3b067 31 = .ok (.istore_n 1, 1) := by decide +kernel
theorem dJ2_getChar_3b067_32 : decode cJ2_getChar_3b067 32 = .ok (.aload_n 0, 1) := by decide +kernel
theorem dJ2_getChar_3b067_33 : decode cJ2_getChar_3b067 33 = .ok (.iload_n 1, 1) := by decide +kernel
theorem dJ2_getChar_3b067_34 : decode cJ2_getChar_3b067 34 = .ok (.iinc 1 1, 3) := by decide +kernel
theorem dJ2_getChar_3b067_37 : decode cJ2_getChar_3b067 37 = .ok (.baload, 1) := by decide +kernel
theorem dJ2_getChar_3b067_38 : decode cJ2_getChar_3b067 38 = .ok (.sipush 255, 3) := by decide +kernel
theorem dJ2_getChar_3b067_41 : decode cJ2_getChar_3b067 41 = .ok (.iand, 1) := by decide +kernel
theorem dJ2_getChar_3b067_42 : decode cJ2_getChar_3b067 42 = .ok (.getstatic 59, 3) := by decide +kernel
theorem dJ2_getChar_3b067_45 : decode cJ2_getChar_3b067 45 = .ok (.ishl, 1) := by decide +kernel
theorem dJ2_getChar_3b067_46 : decode cJ2_getChar_3b067 46 = .ok (.aload_n 0, 1) := by decide +kernel
theorem dJ2_getChar_3b067_47 : decode cJ2_getChar_3b067 47 = .ok (.iload_n 1, 1) := by decide +kernel
theorem dJ2_getChar_3b067_48 : decode cJ2_getChar_3b067 48 = .ok (.baload, 1) := by decide +kernel
theorem dJ2_getChar_3b067_49 : decode cJ2_getChar_3b067 49 = .ok (.sipush 255, 3) := by decide +kernel
theorem dJ2_getChar_3b067_52 : decode cJ2_getChar_3b067 52 = .ok (.iand, 1) := by decide +kernel
theorem dJ2_getChar_3b067_53 : decode cJ2_getChar_3b067 53 = .ok (.getstatic 63, 3) := by decide +kernel
theorem dJ2_getChar_3b067_56 : decode cJ2_getChar_3b067 56 = .ok (.ishl, 1) := by decide +kernel
theorem dJ2_getChar_3b067_57 : decode cJ2_getChar_3b067 57 = .ok (.ior, 1) := by decide +kernel
theorem dJ2_getChar_3b067_58 : decode cJ2_getChar_3b067 58 = .ok (.i2c, 1) := by decide +kernel
theorem dJ2_getChar_3b067_59 : decode cJ2_getChar_3b067 59 = .ok (.ireturn, 1) := by decide +kernel
theorem dJ2_length_9d52b_0 : decode cJ2_length_9d52b 0 = .ok (.aload_n 0, 1) := by decide +kernel
theorem dJ2_length_9d52b_1 : decode cJ2_length_9d52b 1 = .ok (.arraylength, 1) := by decide +kernel
theorem dJ2_length_9d52b_2 : decode cJ2_length_9d52b 2 = .ok (.iconst 1, 1) := by decide +kernel
theorem dJ2_length_9d52b_3 : decode cJ2_length_9d52b 3 = .ok (.ishr, 1) := by decide +kernel
theorem dJ2_length_9d52b_4 : decode cJ2_length_9d52b 4 = .ok (.ireturn, 1) := by decide +kernel
theorem dJ2_charAt_3b067_0 : decode cJ2_charAt_3b067 0 = .ok (.iload_n 1, 1) := by decide +kernel
theorem dJ2_charAt_3b067_1 : decode cJ2_charAt_3b067 1 = .ok (.aload_n 0, 1) := by decide +kernel
theorem dJ2_charAt_3b067_2 : decode cJ2_charAt_3b067 2 = .ok (.invokestatic 67, 3) := by decide +kernel
theorem dJ2_charAt_3b067_5 : decode cJ2_charAt_3b067 5 = .ok (.aload_n 0, 1) := by decide +kernel
theorem dJ2_charAt_3b067_6 : decode cJ2_charAt_3b067 6 = .ok (.iload_n 1, 1) := by decide +kernel
theorem dJ2_charAt_3b067_7 : decode cJ2_charAt_3b067 7 = .ok (.invokestatic 71, 3) := by decide +kernel
theorem dJ2_charAt_3b067_10 : decode cJ2_charAt_3b067 10 = .ok (.ireturn, 1) := by decide +kernel
theorem dJ2_checkIndex_2214a_0 : decode cJ2_checkIndex_2214a 0 = .ok (.iload_n 0, 1) := by decide +kernel
theorem dJ2_checkIndex_2214a_1 : decode cJ2_checkIndex_2214a 1 = .ok (.aload_n 1, 1) := by decide +kernel
theorem dJ2_checkIndex_2214a_2 : decode cJ2_checkIndex_2214a 2 = .ok (.invokestatic 48, 3) := by decide +kernel
theorem dJ2_checkIndex_2214a_5 : decode cJ2_checkIndex_2214a 5 = .ok (.invokestatic 414, 3) := by decide +kernel
theorem dJ2_checkIndex_2214a_8 : decode cJ2_checkIndex_2214a 8 = .ok (.return_, 1) := by decide +kernel
theorem dJ7_fill_d0a16_0 : decode cJ7_fill_d0a16 0 = .ok (.iconst 0, 1) := by decide +kernel
theorem dJ7_fill_d0a16_1 : decode cJ7_fill_d0a16 1 = .ok (.istore_n 3, 1) := by decide +kernel
theorem dJ7_fill_d0a16_2 : decode cJ7_fill_d0a16 2 = .ok (.aload_n 0, 1) := by decide +kernel
theorem dJ7_fill_d0a16_3 : decode cJ7_fill_d0a16 3 = .ok (.arraylength, 1) := by decide +kernel
theorem dJ7_fill_d0a16_4 : decode cJ7_fill_d0a16 4 = .ok (.istore 4, 2) := by decide +kernel
theorem dJ7_fill_d0a16_6 : decode cJ7_fill_d0a16 6 = .ok (.iload_n 3, 1) := by decide +kernel
theorem dJ7_fill_d0a16_7 : decode cJ7_fill_d0a16 7 = .ok (.iload 4, 2) := by decide +kernel
theorem dJ7_fill_d0a16_9 : decode cJ7_fill_d0a16 9 = .ok (.if_icmp .ge 13, 3) := by decide +kernel
theorem dJ7_fill_d0a16_12 : decode cJ7_fill_d0a16 12 = .ok (.aload_n 0, 1) := by decide +kernel
theorem dJ7_fill_d0a16_13 : decode cJ7_fill_d0a16 13 = .ok (.iload_n 3, 1) := by decide +kernel
theorem dJ7_fill_d0a16_14 : decode cJ7_fill_d0a16 14 = .ok (.lload_n 1, 1) := by decide +kernel
theorem dJ7_fill_d0a16_15 : decode cJ7_fill_d0a16 15 = .ok (.lastore, 1) := by decide +kernel
theorem dJ7_fill_d0a16_16 : decode cJ7_fill_d0a16 16 = .ok (.iinc 3 1, 3) := by decide +kernel
theorem dJ7_fill_d0a16_19 : decode cJ7_fill_d0a16 19 = .ok (.goto (-13), 3) := by decide +kernel
theorem dJ7_fill_d0a16_22 : decode cJ7_fill_d0a16 22 = .ok (.return_, 1) := by decide +kernel
theorem dJ7_fill_53178_0 : decode cJ7_fill_53178 0 = .ok (.iconst 0, 1) := by decide +kernel
theorem dJ7_fill_53178_1 : decode cJ7_fill_53178 1 = .ok (.istore_n 2, 1) := by decide +kernel
theorem dJ7_fill_53178_2 : decode cJ7_fill_53178 2 = .ok (.aload_n 0, 1) := by decide +kernel
theorem dJ7_fill_53178_3 : decode cJ7_fill_53178 3 = .ok (.arraylength, 1) := by decide +kernel
theorem dJ7_fill_53178_4 : decode cJ7_fill_53178 4 = .ok (.istore_n 3, 1) := by decide +kernel
theorem dJ7_fill_53178_5 : decode cJ7_fill_53178 5 = .ok (.iload_n 2, 1) := by decide +kernel
theorem dJ7_fill_53178_6 : decode cJ7_fill_53178 6 = .ok (.iload_n 3, 1) := by decide +kernel
theorem dJ7_fill_53178_7 : decode cJ7_fill_53178 7 = .ok (.if_icmp .ge 13, 3) := by decide +kernel
theorem dJ7_fill_53178_10 : decode cJ7_fill_53178 10 = .ok (.aload_n 0, 1) := by decide +kernel
theorem dJ7_fill_53178_11 : decode cJ7_fill_53178 11 = .ok (.iload_n 2, 1) := by decide +kernel
theorem dJ7_fill_53178_12 : decode cJ7_fill_53178 12 = .ok (.iload_n 1, 1) := by decide +kernel
theorem dJ7_fill_53178_13 : decode cJ7_fill_53178 13 = .ok (.iastore, 1) := by decide +kernel
theorem dJ7_fill_53178_14 : decode cJ7_fill_53178 14 = .ok (.iinc 2 1, 3) := by decide +kernel
theorem dJ7_fill_53178_17 : decode cJ7_fill_53178 17 = .ok (.goto (-12), 3) := by decide +kernel
theorem dJ7_fill_53178_20 : decode cJ7_fill_53178 20 = .ok (.return_, 1) := by decide +kernel
theorem dJ7_copyOf_59c91_0 : decode cJ7_copyOf_59c91 0 = .ok (.iload_n 1, 1) := by decide +kernel
theorem dJ7_copyOf_59c91_1 : decode cJ7_copyOf_59c91 1 = .ok (.aload_n 0, 1) := by decide +kernel
theorem dJ7_copyOf_59c91_2 : decode cJ7_copyOf_59c91 2 = .ok (.arraylength, 1) := by decide +kernel
theorem dJ7_copyOf_59c91_3 : decode cJ7_copyOf_59c91 3 = .ok (.if_icmp .ne 11, 3) := by decide +kernel
theorem dJ7_copyOf_59c91_6 : decode cJ7_copyOf_59c91 6 = .ok (.aload_n 0, 1) := by decide +kernel
theorem dJ7_copyOf_59c91_7 : decode cJ7_copyOf_59c91 7 = .ok (.invokevirtual 316, 3) := by decide +kernel
theorem dJ7_copyOf_59c91_10 : decode cJ7_copyOf_59c91 10 = .ok (.checkcast 317, 3) := by decide +kernel
theorem dJ7_copyOf_59c91_13 : decode cJ7_copyOf_59c91 13 = .ok (.areturn, 1) := by decide +kernel
theorem dJ7_copyOf_59c91_14 : decode cJ7_copyOf_59c91 14 = .ok (.iload_n 1, 1) := by decide +kernel
theorem dJ7_copyOf_59c91_15 : decode cJ7_copyOf_59c91 15 = .ok (.newarray .int, 2) := by decide +kernel
theorem dJ7_copyOf_59c91_17 : decode cJ7_copyOf_59c91 17 = .ok (.astore_n 2, 1) := by decide +kernel
theorem dJ7_copyOf_59c91_18 : decode cJ7_copyOf_59c91 18 = .ok (.aload_n 0, 1) := by decide +kernel
theorem dJ7_copyOf_59c91_19 : decode cJ7_copyOf_59c91 19 = .ok (.iconst 0, 1) := by decide +kernel
theorem dJ7_copyOf_59c91_20 : decode cJ7_copyOf_59c91 20 = .ok (.aload_n 2, 1) := by decide +kernel
theorem dJ7_copyOf_59c91_21 : decode cJ7_copyOf_59c91 21 = .ok (.iconst 0, 1) := by decide +kernel
theorem dJ7_copyOf_59c91_22 : decode cJ7_copyOf_59c91 22 = .ok (.aload_n 0, 1) := by decide +kernel
theorem dJ7_copyOf_59c91_23 : decode cJ7_copyOf_59c91 23 = .ok (.arraylength, 1) := by decide +kernel
theorem dJ7_copyOf_59c91_24 : decode cJ7_copyOf_59c91 24 = .ok (.iload_n 1, 1) := by decide +kernel
theorem dJ7_copyOf_59c91_25 : decode cJ7_copyOf_59c91 25 = .ok (.invokestatic 304, 3) := by decide +kernel
theorem dJ7_copyOf_59c91_28 : decode cJ7_copyOf_59c91 28 = .ok (.invokestatic 150, 3) := by decide +kernel
theorem dJ7_copyOf_59c91_31 : decode cJ7_copyOf_59c91 31 = .ok (.aload_n 2, 1) := by decide +kernel
theorem dJ7_copyOf_59c91_32 : decode cJ7_copyOf_59c91 32 = .ok (.areturn, 1) := by decide +kernel
theorem dJ3_checkIndex_8e157_0 : decode cJ3_checkIndex_8e157 0 = .ok (.iload_n 0, 1) := by decide +kernel
theorem dJ3_checkIndex_8e157_1 : decode cJ3_checkIndex_8e157 1 = .ok (.ifCond .lt 8, 3) := by decide +kernel
theorem dJ3_checkIndex_8e157_4 : decode cJ3_checkIndex_8e157 4 = .ok (.iload_n 0, 1) := by decide +kernel
theorem dJ3_checkIndex_8e157_5 : decode cJ3_checkIndex_8e157 5 = .ok (.iload_n 1, 1) := by decide +kernel
theorem dJ3_checkIndex_8e157_6 : decode cJ3_checkIndex_8e157 6 = .ok (.if_icmp .lt 10, 3) := by decide +kernel
theorem dJ3_checkIndex_8e157_9 : decode cJ3_checkIndex_8e157 9 = .ok (.aload_n 2, 1) := by decide +kernel
theorem dJ3_checkIndex_8e157_10 : decode cJ3_checkIndex_8e157 10 = .ok (.iload_n 0, 1) := by decide +kernel
theorem dJ3_checkIndex_8e157_11 : decode cJ3_checkIndex_8e157 11 = .ok (.iload_n 1, 1) := by decide +kernel
theorem dJ3_checkIndex_8e157_12 : decode cJ3_checkIndex_8e157 12 = .ok (.invokestatic 95, 3) := by decide +kernel
theorem dJ3_checkIndex_8e157_15 : decode cJ3_checkIndex_8e157 15 = .ok (.athrow, 1) := by decide +kernel
theorem dJ3_checkIndex_8e157_16 : decode cJ3_checkIndex_8e157 16 = .ok (.iload_n 0, 1) := by decide +kernel
theorem dJ3_checkIndex_8e157_17 : decode cJ3_checkIndex_8e157 17 = .ok (.ireturn, 1) := by decide +kernel
theorem dL_law_0 : decode cL_law 0 = .ok (.new 7, 3) := by decide +kernel
theorem dL_law_3 : decode cL_law 3 = .ok (.dup, 1) := by decide +kernel
theorem dL_law_4 : decode cL_law 4 = .ok (.invokespecial 9, 3) := by decide +kernel
theorem dL_law_7 : decode cL_law 7 = .ok (.astore_n 1, 1) := by decide +kernel
theorem dL_law_8 : decode cL_law 8 = .ok (.new 10, 3) := by decide +kernel
theorem dL_law_11 : decode cL_law 11 = .ok (.dup, 1) := by decide +kernel
theorem dL_law_12 : decode cL_law 12 = .ok (.invokespecial 12, 3) := by decide +kernel
theorem dL_law_15 : decode cL_law 15 = .ok (.astore_n 2, 1) := by decide +kernel
theorem dL_law_16 : decode cL_law 16 = .ok (.iconst 0, 1) := by decide +kernel
theorem dL_law_17 : decode cL_law 17 = .ok (.istore_n 3, 1) := by decide +kernel
theorem dL_law_18 : decode cL_law 18 = .ok (.iload_n 3, 1) := by decide +kernel
theorem dL_law_19 : decode cL_law 19 = .ok (.aload_n 0, 1) := by decide +kernel
theorem dL_law_20 : decode cL_law 20 = .ok (.arraylength, 1) := by decide +kernel
theorem dL_law_21 : decode cL_law 21 = .ok (.bipush 7, 2) := by decide +kernel
theorem dL_law_23 : decode cL_law 23 = .ok (.isub, 1) := by decide +kernel
theorem dL_law_24 : decode cL_law 24 = .ok (.if_icmp .gt 1532, 3) := by decide +kernel
theorem dL_law_27 : decode cL_law 27 = .ok (.aload_n 0, 1) := by decide +kernel
theorem dL_law_28 : decode cL_law 28 = .ok (.iload_n 3, 1) := by decide +kernel
theorem dL_law_29 : decode cL_law 29 = .ok (.iaload, 1) := by decide +kernel
theorem dL_law_30 : decode cL_law 30 = .ok (.bipush 63, 2) := by decide +kernel
theorem dL_law_32 : decode cL_law 32 = .ok (.iand, 1) := by decide +kernel
theorem dL_law_33 : decode cL_law 33 = .ok (.tableswitch 1517 0 32 #[147, 170, 193, 246, 299, 342, 365, 418, 461, 524, 557, 580, 593, 626, 679, 732, 795, 829, 883, 927, 981, 1035, 1069, 1123, 1198, 1241, 1254, 1288, 1321, 1354, 1397, 1430, 1494], 147) := by decide +kernel
theorem dL_law_180 : decode cL_law 180 = .ok (.aload_n 1, 1) := by decide +kernel
theorem dL_law_181 : decode cL_law 181 = .ok (.aload_n 0, 1) := by decide +kernel
theorem dL_law_182 : decode cL_law 182 = .ok (.iload_n 3, 1) := by decide +kernel
theorem dL_law_183 : decode cL_law 183 = .ok (.iconst 1, 1) := by decide +kernel
theorem dL_law_184 : decode cL_law 184 = .ok (.iadd, 1) := by decide +kernel
theorem dL_law_185 : decode cL_law 185 = .ok (.iaload, 1) := by decide +kernel
theorem dL_law_186 : decode cL_law 186 = .ok (.invokevirtual 13, 3) := by decide +kernel
theorem dL_law_189 : decode cL_law 189 = .ok (.aload_n 2, 1) := by decide +kernel
theorem dL_law_190 : decode cL_law 190 = .ok (.aload_n 0, 1) := by decide +kernel
theorem dL_law_191 : decode cL_law 191 = .ok (.iload_n 3, 1) := by decide +kernel
theorem dL_law_192 : decode cL_law 192 = .ok (.iconst 1, 1) := by decide +kernel
theorem dL_law_193 : decode cL_law 193 = .ok (.iadd, 1) := by decide +kernel
theorem dL_law_194 : decode cL_law 194 = .ok (.iaload, 1) := by decide +kernel
theorem dL_law_195 : decode cL_law 195 = .ok (.invokevirtual 17, 3) := by decide +kernel
theorem dL_law_198 : decode cL_law 198 = .ok (.if_icmp .eq 1352, 3) := by decide +kernel
theorem dL_law_201 : decode cL_law 201 = .ok (.iconst 0, 1) := by decide +kernel
theorem dL_law_202 : decode cL_law 202 = .ok (.ireturn, 1) := by decide +kernel
theorem dL_law_203 : decode cL_law 203 = .ok (.aload_n 1, 1) := by decide +kernel
theorem dL_law_204 : decode cL_law 204 = .ok (.aload_n 0, 1) := by decide +kernel
theorem dL_law_205 : decode cL_law 205 = .ok (.iload_n 3, 1) := by decide +kernel
theorem dL_law_206 : decode cL_law 206 = .ok (.iconst 1, 1) := by decide +kernel
theorem dL_law_207 : decode cL_law 207 = .ok (.iadd, 1) := by decide +kernel
theorem dL_law_208 : decode cL_law 208 = .ok (.iaload, 1) := by decide +kernel
theorem dL_law_209 : decode cL_law 209 = .ok (.invokevirtual 18, 3) := by decide +kernel
theorem dL_law_212 : decode cL_law 212 = .ok (.aload_n 2, 1) := by decide +kernel
theorem dL_law_213 : decode cL_law 213 = .ok (.aload_n 0, 1) := by decide +kernel
theorem dL_law_214 : decode cL_law 214 = .ok (.iload_n 3, 1) := by decide +kernel
theorem dL_law_215 : decode cL_law 215 = .ok (.iconst 1, 1) := by decide +kernel
theorem dL_law_216 : decode cL_law 216 = .ok (.iadd, 1) := by decide +kernel
theorem dL_law_217 : decode cL_law 217 = .ok (.iaload, 1) := by decide +kernel
theorem dL_law_218 : decode cL_law 218 = .ok (.invokevirtual 22, 3) := by decide +kernel
theorem dL_law_221 : decode cL_law 221 = .ok (.if_icmp .eq 1329, 3) := by decide +kernel
theorem dL_law_224 : decode cL_law 224 = .ok (.iconst 0, 1) := by decide +kernel
theorem dL_law_225 : decode cL_law 225 = .ok (.ireturn, 1) := by decide +kernel
theorem dL_law_226 : decode cL_law 226 = .ok (.aload_n 1, 1) := by decide +kernel
theorem dL_law_227 : decode cL_law 227 = .ok (.aload_n 0, 1) := by decide +kernel
theorem dL_law_228 : decode cL_law 228 = .ok (.iload_n 3, 1) := by decide +kernel
theorem dL_law_229 : decode cL_law 229 = .ok (.iconst 1, 1) := by decide +kernel
theorem dL_law_230 : decode cL_law 230 = .ok (.iadd, 1) := by decide +kernel
theorem dL_law_231 : decode cL_law 231 = .ok (.iaload, 1) := by decide +kernel
theorem dL_law_232 : decode cL_law 232 = .ok (.aload_n 0, 1) := by decide +kernel
theorem dL_law_233 : decode cL_law 233 = .ok (.iload_n 3, 1) := by decide +kernel
theorem dL_law_234 : decode cL_law 234 = .ok (.iconst 2, 1) := by decide +kernel
theorem dL_law_235 : decode cL_law 235 = .ok (.iadd, 1) := by decide +kernel
theorem dL_law_236 : decode cL_law 236 = .ok (.iaload, 1) := by decide +kernel
theorem dL_law_237 : decode cL_law 237 = .ok (.aload_n 0, 1) := by decide +kernel
theorem dL_law_238 : decode cL_law 238 = .ok (.iload_n 3, 1) := by decide +kernel
theorem dL_law_239 : decode cL_law 239 = .ok (.iconst 3, 1) := by decide +kernel
theorem dL_law_240 : decode cL_law 240 = .ok (.iadd, 1) := by decide +kernel
theorem dL_law_241 : decode cL_law 241 = .ok (.iaload, 1) := by decide +kernel
theorem dL_law_242 : decode cL_law 242 = .ok (.aload_n 0, 1) := by decide +kernel
theorem dL_law_243 : decode cL_law 243 = .ok (.iload_n 3, 1) := by decide +kernel
theorem dL_law_244 : decode cL_law 244 = .ok (.iconst 4, 1) := by decide +kernel
theorem dL_law_245 : decode cL_law 245 = .ok (.iadd, 1) := by decide +kernel
theorem dL_law_246 : decode cL_law 246 = .ok (.iaload, 1) := by decide +kernel
theorem dL_law_247 : decode cL_law 247 = .ok (.invokevirtual 23, 3) := by decide +kernel
theorem dL_law_250 : decode cL_law 250 = .ok (.aload_n 2, 1) := by decide +kernel
theorem dL_law_251 : decode cL_law 251 = .ok (.aload_n 0, 1) := by decide +kernel
theorem dL_law_252 : decode cL_law 252 = .ok (.iload_n 3, 1) := by decide +kernel
theorem dL_law_253 : decode cL_law 253 = .ok (.iconst 1, 1) := by decide +kernel
theorem dL_law_254 : decode cL_law 254 = .ok (.iadd, 1) := by decide +kernel
theorem dL_law_255 : decode cL_law 255 = .ok (.iaload, 1) := by decide +kernel
theorem dL_law_256 : decode cL_law 256 = .ok (.aload_n 0, 1) := by decide +kernel
theorem dL_law_257 : decode cL_law 257 = .ok (.iload_n 3, 1) := by decide +kernel
theorem dL_law_258 : decode cL_law 258 = .ok (.iconst 2, 1) := by decide +kernel
theorem dL_law_259 : decode cL_law 259 = .ok (.iadd, 1) := by decide +kernel
theorem dL_law_260 : decode cL_law 260 = .ok (.iaload, 1) := by decide +kernel
theorem dL_law_261 : decode cL_law 261 = .ok (.aload_n 0, 1) := by decide +kernel
theorem dL_law_262 : decode cL_law 262 = .ok (.iload_n 3, 1) := by decide +kernel
theorem dL_law_263 : decode cL_law 263 = .ok (.iconst 3, 1) := by decide +kernel
theorem dL_law_264 : decode cL_law 264 = .ok (.iadd, 1) := by decide +kernel
theorem dL_law_265 : decode cL_law 265 = .ok (.iaload, 1) := by decide +kernel
theorem dL_law_266 : decode cL_law 266 = .ok (.aload_n 0, 1) := by decide +kernel
theorem dL_law_267 : decode cL_law 267 = .ok (.iload_n 3, 1) := by decide +kernel
theorem dL_law_268 : decode cL_law 268 = .ok (.iconst 4, 1) := by decide +kernel
theorem dL_law_269 : decode cL_law 269 = .ok (.iadd, 1) := by decide +kernel
theorem dL_law_270 : decode cL_law 270 = .ok (.iaload, 1) := by decide +kernel
theorem dL_law_271 : decode cL_law 271 = .ok (.invokevirtual 27, 3) := by decide +kernel
theorem dL_law_274 : decode cL_law 274 = .ok (.if_icmp .eq 1276, 3) := by decide +kernel
theorem dL_law_277 : decode cL_law 277 = .ok (.iconst 0, 1) := by decide +kernel
theorem dL_law_278 : decode cL_law 278 = .ok (.ireturn, 1) := by decide +kernel
theorem dL_law_279 : decode cL_law 279 = .ok (.aload_n 1, 1) := by decide +kernel
theorem dL_law_280 : decode cL_law 280 = .ok (.aload_n 0, 1) := by decide +kernel
theorem dL_law_281 : decode cL_law 281 = .ok (.iload_n 3, 1) := by decide +kernel
theorem dL_law_282 : decode cL_law 282 = .ok (.iconst 1, 1) := by decide +kernel
theorem dL_law_283 : decode cL_law 283 = .ok (.iadd, 1) := by decide +kernel
theorem dL_law_284 : decode cL_law 284 = .ok (.iaload, 1) := by decide +kernel
theorem dL_law_285 : decode cL_law 285 = .ok (.aload_n 0, 1) := by decide +kernel
theorem dL_law_286 : decode cL_law 286 = .ok (.iload_n 3, 1) := by decide +kernel
theorem dL_law_287 : decode cL_law 287 = .ok (.iconst 2, 1) := by decide +kernel
theorem dL_law_288 : decode cL_law 288 = .ok (.iadd, 1) := by decide +kernel
theorem dL_law_289 : decode cL_law 289 = .ok (.iaload, 1) := by decide +kernel
theorem dL_law_290 : decode cL_law 290 = .ok (.aload_n 0, 1) := by decide +kernel
theorem dL_law_291 : decode cL_law 291 = .ok (.iload_n 3, 1) := by decide +kernel
theorem dL_law_292 : decode cL_law 292 = .ok (.iconst 3, 1) := by decide +kernel
theorem dL_law_293 : decode cL_law 293 = .ok (.iadd, 1) := by decide +kernel
theorem dL_law_294 : decode cL_law 294 = .ok (.iaload, 1) := by decide +kernel
theorem dL_law_295 : decode cL_law 295 = .ok (.aload_n 0, 1) := by decide +kernel
theorem dL_law_296 : decode cL_law 296 = .ok (.iload_n 3, 1) := by decide +kernel
theorem dL_law_297 : decode cL_law 297 = .ok (.iconst 4, 1) := by decide +kernel
theorem dL_law_298 : decode cL_law 298 = .ok (.iadd, 1) := by decide +kernel
theorem dL_law_299 : decode cL_law 299 = .ok (.iaload, 1) := by decide +kernel
theorem dL_law_300 : decode cL_law 300 = .ok (.invokevirtual 28, 3) := by decide +kernel
theorem dL_law_303 : decode cL_law 303 = .ok (.aload_n 2, 1) := by decide +kernel
theorem dL_law_304 : decode cL_law 304 = .ok (.aload_n 0, 1) := by decide +kernel
theorem dL_law_305 : decode cL_law 305 = .ok (.iload_n 3, 1) := by decide +kernel
theorem dL_law_306 : decode cL_law 306 = .ok (.iconst 1, 1) := by decide +kernel
theorem dL_law_307 : decode cL_law 307 = .ok (.iadd, 1) := by decide +kernel
theorem dL_law_308 : decode cL_law 308 = .ok (.iaload, 1) := by decide +kernel
theorem dL_law_309 : decode cL_law 309 = .ok (.aload_n 0, 1) := by decide +kernel
theorem dL_law_310 : decode cL_law 310 = .ok (.iload_n 3, 1) := by decide +kernel
theorem dL_law_311 : decode cL_law 311 = .ok (.iconst 2, 1) := by decide +kernel
theorem dL_law_312 : decode cL_law 312 = .ok (.iadd, 1) := by decide +kernel
theorem dL_law_313 : decode cL_law 313 = .ok (.iaload, 1) := by decide +kernel
theorem dL_law_314 : decode cL_law 314 = .ok (.aload_n 0, 1) := by decide +kernel
theorem dL_law_315 : decode cL_law 315 = .ok (.iload_n 3, 1) := by decide +kernel
theorem dL_law_316 : decode cL_law 316 = .ok (.iconst 3, 1) := by decide +kernel
theorem dL_law_317 : decode cL_law 317 = .ok (.iadd, 1) := by decide +kernel
theorem dL_law_318 : decode cL_law 318 = .ok (.iaload, 1) := by decide +kernel
theorem dL_law_319 : decode cL_law 319 = .ok (.aload_n 0, 1) := by decide +kernel
theorem dL_law_320 : decode cL_law 320 = .ok (.iload_n 3, 1) := by decide +kernel
theorem dL_law_321 : decode cL_law 321 = .ok (.iconst 4, 1) := by decide +kernel
theorem dL_law_322 : decode cL_law 322 = .ok (.iadd, 1) := by decide +kernel
theorem dL_law_323 : decode cL_law 323 = .ok (.iaload, 1) := by decide +kernel
theorem dL_law_324 : decode cL_law 324 = .ok (.invokevirtual 31, 3) := by decide +kernel
theorem dL_law_327 : decode cL_law 327 = .ok (.if_icmp .eq 1223, 3) := by decide +kernel
theorem dL_law_330 : decode cL_law 330 = .ok (.iconst 0, 1) := by decide +kernel
theorem dL_law_331 : decode cL_law 331 = .ok (.ireturn, 1) := by decide +kernel
theorem dL_law_332 : decode cL_law 332 = .ok (.aload_n 1, 1) := by decide +kernel
theorem dL_law_333 : decode cL_law 333 = .ok (.aload_n 0, 1) := by decide +kernel
theorem dL_law_334 : decode cL_law 334 = .ok (.iload_n 3, 1) := by decide +kernel
theorem dL_law_335 : decode cL_law 335 = .ok (.iconst 1, 1) := by decide +kernel
theorem dL_law_336 : decode cL_law 336 = .ok (.iadd, 1) := by decide +kernel
theorem dL_law_337 : decode cL_law 337 = .ok (.iaload, 1) := by decide +kernel
theorem dL_law_338 : decode cL_law 338 = .ok (.aload_n 0, 1) := by decide +kernel
theorem dL_law_339 : decode cL_law 339 = .ok (.iload_n 3, 1) := by decide +kernel
theorem dL_law_340 : decode cL_law 340 = .ok (.iconst 2, 1) := by decide +kernel
theorem dL_law_341 : decode cL_law 341 = .ok (.iadd, 1) := by decide +kernel
theorem dL_law_342 : decode cL_law 342 = .ok (.iaload, 1) := by decide +kernel
theorem dL_law_343 : decode cL_law 343 = .ok (.aload_n 0, 1) := by decide +kernel
theorem dL_law_344 : decode cL_law 344 = .ok (.iload_n 3, 1) := by decide +kernel
theorem dL_law_345 : decode cL_law 345 = .ok (.iconst 3, 1) := by decide +kernel
theorem dL_law_346 : decode cL_law 346 = .ok (.iadd, 1) := by decide +kernel
theorem dL_law_347 : decode cL_law 347 = .ok (.iaload, 1) := by decide +kernel
theorem dL_law_348 : decode cL_law 348 = .ok (.invokevirtual 32, 3) := by decide +kernel
theorem dL_law_351 : decode cL_law 351 = .ok (.aload_n 2, 1) := by decide +kernel
theorem dL_law_352 : decode cL_law 352 = .ok (.aload_n 0, 1) := by decide +kernel
theorem dL_law_353 : decode cL_law 353 = .ok (.iload_n 3, 1) := by decide +kernel
theorem dL_law_354 : decode cL_law 354 = .ok (.iconst 1, 1) := by decide +kernel
theorem dL_law_355 : decode cL_law 355 = .ok (.iadd, 1) := by decide +kernel
theorem dL_law_356 : decode cL_law 356 = .ok (.iaload, 1) := by decide +kernel
theorem dL_law_357 : decode cL_law 357 = .ok (.aload_n 0, 1) := by decide +kernel
theorem dL_law_358 : decode cL_law 358 = .ok (.iload_n 3, 1) := by decide +kernel
theorem dL_law_359 : decode cL_law 359 = .ok (.iconst 2, 1) := by decide +kernel
theorem dL_law_360 : decode cL_law 360 = .ok (.iadd, 1) := by decide +kernel
theorem dL_law_361 : decode cL_law 361 = .ok (.iaload, 1) := by decide +kernel
theorem dL_law_362 : decode cL_law 362 = .ok (.aload_n 0, 1) := by decide +kernel
theorem dL_law_363 : decode cL_law 363 = .ok (.iload_n 3, 1) := by decide +kernel
theorem dL_law_364 : decode cL_law 364 = .ok (.iconst 3, 1) := by decide +kernel
theorem dL_law_365 : decode cL_law 365 = .ok (.iadd, 1) := by decide +kernel
theorem dL_law_366 : decode cL_law 366 = .ok (.iaload, 1) := by decide +kernel
theorem dL_law_367 : decode cL_law 367 = .ok (.invokevirtual 36, 3) := by decide +kernel
theorem dL_law_370 : decode cL_law 370 = .ok (.if_icmp .eq 1180, 3) := by decide +kernel
theorem dL_law_373 : decode cL_law 373 = .ok (.iconst 0, 1) := by decide +kernel
theorem dL_law_374 : decode cL_law 374 = .ok (.ireturn, 1) := by decide +kernel
theorem dL_law_375 : decode cL_law 375 = .ok (.aload_n 1, 1) := by decide +kernel
theorem dL_law_376 : decode cL_law 376 = .ok (.aload_n 0, 1) := by decide +kernel
theorem dL_law_377 : decode cL_law 377 = .ok (.iload_n 3, 1) := by decide +kernel
theorem dL_law_378 : decode cL_law 378 = .ok (.iconst 1, 1) := by decide +kernel
theorem dL_law_379 : decode cL_law 379 = .ok (.iadd, 1) := by decide +kernel
theorem dL_law_380 : decode cL_law 380 = .ok (.iaload, 1) := by decide +kernel
theorem dL_law_381 : decode cL_law 381 = .ok (.invokevirtual 37, 3) := by decide +kernel
theorem dL_law_384 : decode cL_law 384 = .ok (.aload_n 2, 1) := by decide +kernel
theorem dL_law_385 : decode cL_law 385 = .ok (.aload_n 0, 1) := by decide +kernel
theorem dL_law_386 : decode cL_law 386 = .ok (.iload_n 3, 1) := by decide +kernel
theorem dL_law_387 : decode cL_law 387 = .ok (.iconst 1, 1) := by decide +kernel
theorem dL_law_388 : decode cL_law 388 = .ok (.iadd, 1) := by decide +kernel
theorem dL_law_389 : decode cL_law 389 = .ok (.iaload, 1) := by decide +kernel
theorem dL_law_390 : decode cL_law 390 = .ok (.invokevirtual 40, 3) := by decide +kernel
theorem dL_law_393 : decode cL_law 393 = .ok (.if_icmp .eq 1157, 3) := by decide +kernel
theorem dL_law_396 : decode cL_law 396 = .ok (.iconst 0, 1) := by decide +kernel
theorem dL_law_397 : decode cL_law 397 = .ok (.ireturn, 1) := by decide +kernel
theorem dL_law_398 : decode cL_law 398 = .ok (.aload_n 1, 1) := by decide +kernel
theorem dL_law_399 : decode cL_law 399 = .ok (.aload_n 0, 1) := by decide +kernel
theorem dL_law_400 : decode cL_law 400 = .ok (.iload_n 3, 1) := by decide +kernel
theorem dL_law_401 : decode cL_law 401 = .ok (.iconst 1, 1) := by decide +kernel
theorem dL_law_402 : decode cL_law 402 = .ok (.iadd, 1) := by decide +kernel
theorem dL_law_403 : decode cL_law 403 = .ok (.iaload, 1) := by decide +kernel
theorem dL_law_404 : decode cL_law 404 = .ok (.aload_n 0, 1) := by decide +kernel
theorem dL_law_405 : decode cL_law 405 = .ok (.iload_n 3, 1) := by decide +kernel
theorem dL_law_406 : decode cL_law 406 = .ok (.iconst 2, 1) := by decide +kernel
theorem dL_law_407 : decode cL_law 407 = .ok (.iadd, 1) := by decide +kernel
theorem dL_law_408 : decode cL_law 408 = .ok (.iaload, 1) := by decide +kernel
theorem dL_law_409 : decode cL_law 409 = .ok (.aload_n 0, 1) := by decide +kernel
theorem dL_law_410 : decode cL_law 410 = .ok (.iload_n 3, 1) := by decide +kernel
theorem dL_law_411 : decode cL_law 411 = .ok (.iconst 3, 1) := by decide +kernel
theorem dL_law_412 : decode cL_law 412 = .ok (.iadd, 1) := by decide +kernel
theorem dL_law_413 : decode cL_law 413 = .ok (.iaload, 1) := by decide +kernel
theorem dL_law_414 : decode cL_law 414 = .ok (.aload_n 0, 1) := by decide +kernel
theorem dL_law_415 : decode cL_law 415 = .ok (.iload_n 3, 1) := by decide +kernel
theorem dL_law_416 : decode cL_law 416 = .ok (.iconst 4, 1) := by decide +kernel
theorem dL_law_417 : decode cL_law 417 = .ok (.iadd, 1) := by decide +kernel
theorem dL_law_418 : decode cL_law 418 = .ok (.iaload, 1) := by decide +kernel
theorem dL_law_419 : decode cL_law 419 = .ok (.invokevirtual 41, 3) := by decide +kernel
theorem dL_law_422 : decode cL_law 422 = .ok (.aload_n 2, 1) := by decide +kernel
theorem dL_law_423 : decode cL_law 423 = .ok (.aload_n 0, 1) := by decide +kernel
theorem dL_law_424 : decode cL_law 424 = .ok (.iload_n 3, 1) := by decide +kernel
theorem dL_law_425 : decode cL_law 425 = .ok (.iconst 1, 1) := by decide +kernel
theorem dL_law_426 : decode cL_law 426 = .ok (.iadd, 1) := by decide +kernel
theorem dL_law_427 : decode cL_law 427 = .ok (.iaload, 1) := by decide +kernel
theorem dL_law_428 : decode cL_law 428 = .ok (.aload_n 0, 1) := by decide +kernel
theorem dL_law_429 : decode cL_law 429 = .ok (.iload_n 3, 1) := by decide +kernel
theorem dL_law_430 : decode cL_law 430 = .ok (.iconst 2, 1) := by decide +kernel
theorem dL_law_431 : decode cL_law 431 = .ok (.iadd, 1) := by decide +kernel
theorem dL_law_432 : decode cL_law 432 = .ok (.iaload, 1) := by decide +kernel
theorem dL_law_433 : decode cL_law 433 = .ok (.aload_n 0, 1) := by decide +kernel
theorem dL_law_434 : decode cL_law 434 = .ok (.iload_n 3, 1) := by decide +kernel
theorem dL_law_435 : decode cL_law 435 = .ok (.iconst 3, 1) := by decide +kernel
theorem dL_law_436 : decode cL_law 436 = .ok (.iadd, 1) := by decide +kernel
theorem dL_law_437 : decode cL_law 437 = .ok (.iaload, 1) := by decide +kernel
theorem dL_law_438 : decode cL_law 438 = .ok (.aload_n 0, 1) := by decide +kernel
theorem dL_law_439 : decode cL_law 439 = .ok (.iload_n 3, 1) := by decide +kernel
theorem dL_law_440 : decode cL_law 440 = .ok (.iconst 4, 1) := by decide +kernel
theorem dL_law_441 : decode cL_law 441 = .ok (.iadd, 1) := by decide +kernel
theorem dL_law_442 : decode cL_law 442 = .ok (.iaload, 1) := by decide +kernel
theorem dL_law_443 : decode cL_law 443 = .ok (.invokevirtual 44, 3) := by decide +kernel
theorem dL_law_446 : decode cL_law 446 = .ok (.if_icmp .eq 1104, 3) := by decide +kernel
theorem dL_law_449 : decode cL_law 449 = .ok (.iconst 0, 1) := by decide +kernel
theorem dL_law_450 : decode cL_law 450 = .ok (.ireturn, 1) := by decide +kernel
theorem dL_law_451 : decode cL_law 451 = .ok (.aload_n 1, 1) := by decide +kernel
theorem dL_law_452 : decode cL_law 452 = .ok (.aload_n 0, 1) := by decide +kernel
theorem dL_law_453 : decode cL_law 453 = .ok (.iload_n 3, 1) := by decide +kernel
theorem dL_law_454 : decode cL_law 454 = .ok (.iconst 1, 1) := by decide +kernel
theorem dL_law_455 : decode cL_law 455 = .ok (.iadd, 1) := by decide +kernel
theorem dL_law_456 : decode cL_law 456 = .ok (.iaload, 1) := by decide +kernel
theorem dL_law_457 : decode cL_law 457 = .ok (.aload_n 0, 1) := by decide +kernel
theorem dL_law_458 : decode cL_law 458 = .ok (.iload_n 3, 1) := by decide +kernel
theorem dL_law_459 : decode cL_law 459 = .ok (.iconst 2, 1) := by decide +kernel
theorem dL_law_460 : decode cL_law 460 = .ok (.iadd, 1) := by decide +kernel
theorem dL_law_461 : decode cL_law 461 = .ok (.iaload, 1) := by decide +kernel
theorem dL_law_462 : decode cL_law 462 = .ok (.aload_n 0, 1) := by decide +kernel
theorem dL_law_463 : decode cL_law 463 = .ok (.iload_n 3, 1) := by decide +kernel
theorem dL_law_464 : decode cL_law 464 = .ok (.iconst 3, 1) := by decide +kernel
theorem dL_law_465 : decode cL_law 465 = .ok (.iadd, 1) := by decide +kernel
theorem dL_law_466 : decode cL_law 466 = .ok (.iaload, 1) := by decide +kernel
theorem dL_law_467 : decode cL_law 467 = .ok (.invokevirtual 45, 3) := by decide +kernel
theorem dL_law_470 : decode cL_law 470 = .ok (.aload_n 2, 1) := by decide +kernel
theorem dL_law_471 : decode cL_law 471 = .ok (.aload_n 0, 1) := by decide +kernel
theorem dL_law_472 : decode cL_law 472 = .ok (.iload_n 3, 1) := by decide +kernel
theorem dL_law_473 : decode cL_law 473 = .ok (.iconst 1, 1) := by decide +kernel
theorem dL_law_474 : decode cL_law 474 = .ok (.iadd, 1) := by decide +kernel
theorem dL_law_475 : decode cL_law 475 = .ok (.iaload, 1) := by decide +kernel
theorem dL_law_476 : decode cL_law 476 = .ok (.aload_n 0, 1) := by decide +kernel
theorem dL_law_477 : decode cL_law 477 = .ok (.iload_n 3, 1) := by decide +kernel
theorem dL_law_478 : decode cL_law 478 = .ok (.iconst 2, 1) := by decide +kernel
theorem dL_law_479 : decode cL_law 479 = .ok (.iadd, 1) := by decide +kernel
theorem dL_law_480 : decode cL_law 480 = .ok (.iaload, 1) := by decide +kernel
theorem dL_law_481 : decode cL_law 481 = .ok (.aload_n 0, 1) := by decide +kernel
theorem dL_law_482 : decode cL_law 482 = .ok (.iload_n 3, 1) := by decide +kernel
theorem dL_law_483 : decode cL_law 483 = .ok (.iconst 3, 1) := by decide +kernel
theorem dL_law_484 : decode cL_law 484 = .ok (.iadd, 1) := by decide +kernel
theorem dL_law_485 : decode cL_law 485 = .ok (.iaload, 1) := by decide +kernel
theorem dL_law_486 : decode cL_law 486 = .ok (.invokevirtual 48, 3) := by decide +kernel
theorem dL_law_489 : decode cL_law 489 = .ok (.if_icmp .eq 1061, 3) := by decide +kernel
theorem dL_law_492 : decode cL_law 492 = .ok (.iconst 0, 1) := by decide +kernel
theorem dL_law_493 : decode cL_law 493 = .ok (.ireturn, 1) := by decide +kernel
theorem dL_law_494 : decode cL_law 494 = .ok (.aload_n 1, 1) := by decide +kernel
theorem dL_law_495 : decode cL_law 495 = .ok (.aload_n 0, 1) := by decide +kernel
theorem dL_law_496 : decode cL_law 496 = .ok (.iload_n 3, 1) := by decide +kernel
theorem dL_law_497 : decode cL_law 497 = .ok (.iconst 1, 1) := by decide +kernel
theorem dL_law_498 : decode cL_law 498 = .ok (.iadd, 1) := by decide +kernel
theorem dL_law_499 : decode cL_law 499 = .ok (.iaload, 1) := by decide +kernel
theorem dL_law_500 : decode cL_law 500 = .ok (.aload_n 0, 1) := by decide +kernel
theorem dL_law_501 : decode cL_law 501 = .ok (.iload_n 3, 1) := by decide +kernel
theorem dL_law_502 : decode cL_law 502 = .ok (.iconst 2, 1) := by decide +kernel
theorem dL_law_503 : decode cL_law 503 = .ok (.iadd, 1) := by decide +kernel
theorem dL_law_504 : decode cL_law 504 = .ok (.iaload, 1) := by decide +kernel
theorem dL_law_505 : decode cL_law 505 = .ok (.aload_n 0, 1) := by decide +kernel
theorem dL_law_506 : decode cL_law 506 = .ok (.iload_n 3, 1) := by decide +kernel
theorem dL_law_507 : decode cL_law 507 = .ok (.iconst 3, 1) := by decide +kernel
theorem dL_law_508 : decode cL_law 508 = .ok (.iadd, 1) := by decide +kernel
theorem dL_law_509 : decode cL_law 509 = .ok (.iaload, 1) := by decide +kernel
theorem dL_law_510 : decode cL_law 510 = .ok (.aload_n 0, 1) := by decide +kernel
theorem dL_law_511 : decode cL_law 511 = .ok (.iload_n 3, 1) := by decide +kernel
theorem dL_law_512 : decode cL_law 512 = .ok (.iconst 4, 1) := by decide +kernel
theorem dL_law_513 : decode cL_law 513 = .ok (.iadd, 1) := by decide +kernel
theorem dL_law_514 : decode cL_law 514 = .ok (.iaload, 1) := by decide +kernel
theorem dL_law_515 : decode cL_law 515 = .ok (.aload_n 0, 1) := by decide +kernel
theorem dL_law_516 : decode cL_law 516 = .ok (.iload_n 3, 1) := by decide +kernel
theorem dL_law_517 : decode cL_law 517 = .ok (.iconst 5, 1) := by decide +kernel
theorem dL_law_518 : decode cL_law 518 = .ok (.iadd, 1) := by decide +kernel
theorem dL_law_519 : decode cL_law 519 = .ok (.iaload, 1) := by decide +kernel
theorem dL_law_520 : decode cL_law 520 = .ok (.invokevirtual 49, 3) := by decide +kernel
theorem dL_law_523 : decode cL_law 523 = .ok (.aload_n 2, 1) := by decide +kernel
theorem dL_law_524 : decode cL_law 524 = .ok (.aload_n 0, 1) := by decide +kernel
theorem dL_law_525 : decode cL_law 525 = .ok (.iload_n 3, 1) := by decide +kernel
theorem dL_law_526 : decode cL_law 526 = .ok (.iconst 1, 1) := by decide +kernel
theorem dL_law_527 : decode cL_law 527 = .ok (.iadd, 1) := by decide +kernel
theorem dL_law_528 : decode cL_law 528 = .ok (.iaload, 1) := by decide +kernel
theorem dL_law_529 : decode cL_law 529 = .ok (.aload_n 0, 1) := by decide +kernel
theorem dL_law_530 : decode cL_law 530 = .ok (.iload_n 3, 1) := by decide +kernel
theorem dL_law_531 : decode cL_law 531 = .ok (.iconst 2, 1) := by decide +kernel
theorem dL_law_532 : decode cL_law 532 = .ok (.iadd, 1) := by decide +kernel
theorem dL_law_533 : decode cL_law 533 = .ok (.iaload, 1) := by decide +kernel
theorem dL_law_534 : decode cL_law 534 = .ok (.aload_n 0, 1) := by decide +kernel
theorem dL_law_535 : decode cL_law 535 = .ok (.iload_n 3, 1) := by decide +kernel
theorem dL_law_536 : decode cL_law 536 = .ok (.iconst 3, 1) := by decide +kernel
theorem dL_law_537 : decode cL_law 537 = .ok (.iadd, 1) := by decide +kernel
theorem dL_law_538 : decode cL_law 538 = .ok (.iaload, 1) := by decide +kernel
theorem dL_law_539 : decode cL_law 539 = .ok (.aload_n 0, 1) := by decide +kernel
theorem dL_law_540 : decode cL_law 540 = .ok (.iload_n 3, 1) := by decide +kernel
theorem dL_law_541 : decode cL_law 541 = .ok (.iconst 4, 1) := by decide +kernel
theorem dL_law_542 : decode cL_law 542 = .ok (.iadd, 1) := by decide +kernel
theorem dL_law_543 : decode cL_law 543 = .ok (.iaload, 1) := by decide +kernel
theorem dL_law_544 : decode cL_law 544 = .ok (.aload_n 0, 1) := by decide +kernel
theorem dL_law_545 : decode cL_law 545 = .ok (.iload_n 3, 1) := by decide +kernel
theorem dL_law_546 : decode cL_law 546 = .ok (.iconst 5, 1) := by decide +kernel
theorem dL_law_547 : decode cL_law 547 = .ok (.iadd, 1) := by decide +kernel
theorem dL_law_548 : decode cL_law 548 = .ok (.iaload, 1) := by decide +kernel
theorem dL_law_549 : decode cL_law 549 = .ok (.invokevirtual 53, 3) := by decide +kernel
theorem dL_law_552 : decode cL_law 552 = .ok (.if_icmp .eq 998, 3) := by decide +kernel
theorem dL_law_555 : decode cL_law 555 = .ok (.iconst 0, 1) := by decide +kernel
theorem dL_law_556 : decode cL_law 556 = .ok (.ireturn, 1) := by decide +kernel
theorem dL_law_557 : decode cL_law 557 = .ok (.aload_n 1, 1) := by decide +kernel
theorem dL_law_558 : decode cL_law 558 = .ok (.aload_n 0, 1) := by decide +kernel
theorem dL_law_559 : decode cL_law 559 = .ok (.iload_n 3, 1) := by decide +kernel
theorem dL_law_560 : decode cL_law 560 = .ok (.iconst 1, 1) := by decide +kernel
theorem dL_law_561 : decode cL_law 561 = .ok (.iadd, 1) := by decide +kernel
theorem dL_law_562 : decode cL_law 562 = .ok (.iaload, 1) := by decide +kernel
theorem dL_law_563 : decode cL_law 563 = .ok (.aload_n 0, 1) := by decide +kernel
theorem dL_law_564 : decode cL_law 564 = .ok (.iload_n 3, 1) := by decide +kernel
theorem dL_law_565 : decode cL_law 565 = .ok (.iconst 2, 1) := by decide +kernel
theorem dL_law_566 : decode cL_law 566 = .ok (.iadd, 1) := by decide +kernel
theorem dL_law_567 : decode cL_law 567 = .ok (.iaload, 1) := by decide +kernel
theorem dL_law_568 : decode cL_law 568 = .ok (.invokevirtual 54, 3) := by decide +kernel
theorem dL_law_571 : decode cL_law 571 = .ok (.aload_n 2, 1) := by decide +kernel
theorem dL_law_572 : decode cL_law 572 = .ok (.aload_n 0, 1) := by decide +kernel
theorem dL_law_573 : decode cL_law 573 = .ok (.iload_n 3, 1) := by decide +kernel
theorem dL_law_574 : decode cL_law 574 = .ok (.iconst 1, 1) := by decide +kernel
theorem dL_law_575 : decode cL_law 575 = .ok (.iadd, 1) := by decide +kernel
theorem dL_law_576 : decode cL_law 576 = .ok (.iaload, 1) := by decide +kernel
theorem dL_law_577 : decode cL_law 577 = .ok (.aload_n 0, 1) := by decide +kernel
theorem dL_law_578 : decode cL_law 578 = .ok (.iload_n 3, 1) := by decide +kernel
theorem dL_law_579 : decode cL_law 579 = .ok (.iconst 2, 1) := by decide +kernel
theorem dL_law_580 : decode cL_law 580 = .ok (.iadd, 1) := by decide +kernel
theorem dL_law_581 : decode cL_law 581 = .ok (.iaload, 1) := by decide +kernel
theorem dL_law_582 : decode cL_law 582 = .ok (.invokevirtual 58, 3) := by decide +kernel
theorem dL_law_585 : decode cL_law 585 = .ok (.if_icmp .eq 965, 3) := by decide +kernel
theorem dL_law_588 : decode cL_law 588 = .ok (.iconst 0, 1) := by decide +kernel
theorem dL_law_589 : decode cL_law 589 = .ok (.ireturn, 1) := by decide +kernel
theorem dL_law_590 : decode cL_law 590 = .ok (.aload_n 1, 1) := by decide +kernel
theorem dL_law_591 : decode cL_law 591 = .ok (.aload_n 0, 1) := by decide +kernel
theorem dL_law_592 : decode cL_law 592 = .ok (.iload_n 3, 1) := by decide +kernel
theorem dL_law_593 : decode cL_law 593 = .ok (.iconst 1, 1) := by decide +kernel
theorem dL_law_594 : decode cL_law 594 = .ok (.iadd, 1) := by decide +kernel
theorem dL_law_595 : decode cL_law 595 = .ok (.iaload, 1) := by decide +kernel
theorem dL_law_596 : decode cL_law 596 = .ok (.invokevirtual 59, 3) := by decide +kernel
theorem dL_law_599 : decode cL_law 599 = .ok (.aload_n 2, 1) := by decide +kernel
theorem dL_law_600 : decode cL_law 600 = .ok (.aload_n 0, 1) := by decide +kernel
theorem dL_law_601 : decode cL_law 601 = .ok (.iload_n 3, 1) := by decide +kernel
theorem dL_law_602 : decode cL_law 602 = .ok (.iconst 1, 1) := by decide +kernel
theorem dL_law_603 : decode cL_law 603 = .ok (.iadd, 1) := by decide +kernel
theorem dL_law_604 : decode cL_law 604 = .ok (.iaload, 1) := by decide +kernel
theorem dL_law_605 : decode cL_law 605 = .ok (.invokevirtual 62, 3) := by decide +kernel
theorem dL_law_608 : decode cL_law 608 = .ok (.if_icmp .eq 942, 3) := by decide +kernel
theorem dL_law_611 : decode cL_law 611 = .ok (.iconst 0, 1) := by decide +kernel
theorem dL_law_612 : decode cL_law 612 = .ok (.ireturn, 1) := by decide +kernel
theorem dL_law_613 : decode cL_law 613 = .ok (.aload_n 1, 1) := by decide +kernel
theorem dL_law_614 : decode cL_law 614 = .ok (.invokevirtual 63, 3) := by decide +kernel
theorem dL_law_617 : decode cL_law 617 = .ok (.aload_n 2, 1) := by decide +kernel
theorem dL_law_618 : decode cL_law 618 = .ok (.invokevirtual 67, 3) := by decide +kernel
theorem dL_law_621 : decode cL_law 621 = .ok (.if_icmp .eq 929, 3) := by decide +kernel
theorem dL_law_624 : decode cL_law 624 = .ok (.iconst 0, 1) := by decide +kernel
theorem dL_law_625 : decode cL_law 625 = .ok (.ireturn, 1) := by decide +kernel
theorem dL_law_626 : decode cL_law 626 = .ok (.aload_n 1, 1) := by decide +kernel
theorem dL_law_627 : decode cL_law 627 = .ok (.aload_n 0, 1) := by decide +kernel
theorem dL_law_628 : decode cL_law 628 = .ok (.iload_n 3, 1) := by decide +kernel
theorem dL_law_629 : decode cL_law 629 = .ok (.iconst 1, 1) := by decide +kernel
theorem dL_law_630 : decode cL_law 630 = .ok (.iadd, 1) := by decide +kernel
theorem dL_law_631 : decode cL_law 631 = .ok (.iaload, 1) := by decide +kernel
theorem dL_law_632 : decode cL_law 632 = .ok (.aload_n 0, 1) := by decide +kernel
theorem dL_law_633 : decode cL_law 633 = .ok (.iload_n 3, 1) := by decide +kernel
theorem dL_law_634 : decode cL_law 634 = .ok (.iconst 2, 1) := by decide +kernel
theorem dL_law_635 : decode cL_law 635 = .ok (.iadd, 1) := by decide +kernel
theorem dL_law_636 : decode cL_law 636 = .ok (.iaload, 1) := by decide +kernel
theorem dL_law_637 : decode cL_law 637 = .ok (.invokevirtual 68, 3) := by decide +kernel
theorem dL_law_640 : decode cL_law 640 = .ok (.aload_n 2, 1) := by decide +kernel
theorem dL_law_641 : decode cL_law 641 = .ok (.aload_n 0, 1) := by decide +kernel
theorem dL_law_642 : decode cL_law 642 = .ok (.iload_n 3, 1) := by decide +kernel
theorem dL_law_643 : decode cL_law 643 = .ok (.iconst 1, 1) := by decide +kernel
theorem dL_law_644 : decode cL_law 644 = .ok (.iadd, 1) := by decide +kernel
theorem dL_law_645 : decode cL_law 645 = .ok (.iaload, 1) := by decide +kernel
theorem dL_law_646 : decode cL_law 646 = .ok (.aload_n 0, 1) := by decide +kernel
theorem dL_law_647 : decode cL_law 647 = .ok (.iload_n 3, 1) := by decide +kernel
theorem dL_law_648 : decode cL_law 648 = .ok (.iconst 2, 1) := by decide +kernel
theorem dL_law_649 : decode cL_law 649 = .ok (.iadd, 1) := by decide +kernel
theorem dL_law_650 : decode cL_law 650 = .ok (.iaload, 1) := by decide +kernel
theorem dL_law_651 : decode cL_law 651 = .ok (.invokevirtual 71, 3) := by decide +kernel
theorem dL_law_654 : decode cL_law 654 = .ok (.if_icmp .eq 896, 3) := by decide +kernel
theorem dL_law_657 : decode cL_law 657 = .ok (.iconst 0, 1) := by decide +kernel
theorem dL_law_658 : decode cL_law 658 = .ok (.ireturn, 1) := by decide +kernel
theorem dL_law_659 : decode cL_law 659 = .ok (.aload_n 1, 1) := by decide +kernel
theorem dL_law_660 : decode cL_law 660 = .ok (.aload_n 0, 1) := by decide +kernel
theorem dL_law_661 : decode cL_law 661 = .ok (.iload_n 3, 1) := by decide +kernel
theorem dL_law_662 : decode cL_law 662 = .ok (.iconst 1, 1) := by decide +kernel
theorem dL_law_663 : decode cL_law 663 = .ok (.iadd, 1) := by decide +kernel
theorem dL_law_664 : decode cL_law 664 = .ok (.iaload, 1) := by decide +kernel
theorem dL_law_665 : decode cL_law 665 = .ok (.aload_n 0, 1) := by decide +kernel
theorem dL_law_666 : decode cL_law 666 = .ok (.iload_n 3, 1) := by decide +kernel
theorem dL_law_667 : decode cL_law 667 = .ok (.iconst 2, 1) := by decide +kernel
theorem dL_law_668 : decode cL_law 668 = .ok (.iadd, 1) := by decide +kernel
theorem dL_law_669 : decode cL_law 669 = .ok (.iaload, 1) := by decide +kernel
theorem dL_law_670 : decode cL_law 670 = .ok (.aload_n 0, 1) := by decide +kernel
theorem dL_law_671 : decode cL_law 671 = .ok (.iload_n 3, 1) := by decide +kernel
theorem dL_law_672 : decode cL_law 672 = .ok (.iconst 3, 1) := by decide +kernel
theorem dL_law_673 : decode cL_law 673 = .ok (.iadd, 1) := by decide +kernel
theorem dL_law_674 : decode cL_law 674 = .ok (.iaload, 1) := by decide +kernel
theorem dL_law_675 : decode cL_law 675 = .ok (.aload_n 0, 1) := by decide +kernel
theorem dL_law_676 : decode cL_law 676 = .ok (.iload_n 3, 1) := by decide +kernel
theorem dL_law_677 : decode cL_law 677 = .ok (.iconst 4, 1) := by decide +kernel
theorem dL_law_678 : decode cL_law 678 = .ok (.iadd, 1) := by decide +kernel
theorem dL_law_679 : decode cL_law 679 = .ok (.iaload, 1) := by decide +kernel
theorem dL_law_680 : decode cL_law 680 = .ok (.invokevirtual 72, 3) := by decide +kernel
theorem dL_law_683 : decode cL_law 683 = .ok (.aload_n 2, 1) := by decide +kernel
theorem dL_law_684 : decode cL_law 684 = .ok (.aload_n 0, 1) := by decide +kernel
theorem dL_law_685 : decode cL_law 685 = .ok (.iload_n 3, 1) := by decide +kernel
theorem dL_law_686 : decode cL_law 686 = .ok (.iconst 1, 1) := by decide +kernel
theorem dL_law_687 : decode cL_law 687 = .ok (.iadd, 1) := by decide +kernel
theorem dL_law_688 : decode cL_law 688 = .ok (.iaload, 1) := by decide +kernel
theorem dL_law_689 : decode cL_law 689 = .ok (.aload_n 0, 1) := by decide +kernel
theorem dL_law_690 : decode cL_law 690 = .ok (.iload_n 3, 1) := by decide +kernel
theorem dL_law_691 : decode cL_law 691 = .ok (.iconst 2, 1) := by decide +kernel
theorem dL_law_692 : decode cL_law 692 = .ok (.iadd, 1) := by decide +kernel
theorem dL_law_693 : decode cL_law 693 = .ok (.iaload, 1) := by decide +kernel
theorem dL_law_694 : decode cL_law 694 = .ok (.aload_n 0, 1) := by decide +kernel
theorem dL_law_695 : decode cL_law 695 = .ok (.iload_n 3, 1) := by decide +kernel
theorem dL_law_696 : decode cL_law 696 = .ok (.iconst 3, 1) := by decide +kernel
theorem dL_law_697 : decode cL_law 697 = .ok (.iadd, 1) := by decide +kernel
theorem dL_law_698 : decode cL_law 698 = .ok (.iaload, 1) := by decide +kernel
theorem dL_law_699 : decode cL_law 699 = .ok (.aload_n 0, 1) := by decide +kernel
theorem dL_law_700 : decode cL_law 700 = .ok (.iload_n 3, 1) := by decide +kernel
theorem dL_law_701 : decode cL_law 701 = .ok (.iconst 4, 1) := by decide +kernel
theorem dL_law_702 : decode cL_law 702 = .ok (.iadd, 1) := by decide +kernel
theorem dL_law_703 : decode cL_law 703 = .ok (.iaload, 1) := by decide +kernel
theorem dL_law_704 : decode cL_law 704 = .ok (.invokevirtual 75, 3) := by decide +kernel
theorem dL_law_707 : decode cL_law 707 = .ok (.if_icmp .eq 843, 3) := by decide +kernel
theorem dL_law_710 : decode cL_law 710 = .ok (.iconst 0, 1) := by decide +kernel
theorem dL_law_711 : decode cL_law 711 = .ok (.ireturn, 1) := by decide +kernel
theorem dL_law_712 : decode cL_law 712 = .ok (.aload_n 1, 1) := by decide +kernel
theorem dL_law_713 : decode cL_law 713 = .ok (.aload_n 0, 1) := by decide +kernel
theorem dL_law_714 : decode cL_law 714 = .ok (.iload_n 3, 1) := by decide +kernel
theorem dL_law_715 : decode cL_law 715 = .ok (.iconst 1, 1) := by decide +kernel
theorem dL_law_716 : decode cL_law 716 = .ok (.iadd, 1) := by decide +kernel
theorem dL_law_717 : decode cL_law 717 = .ok (.iaload, 1) := by decide +kernel
theorem dL_law_718 : decode cL_law 718 = .ok (.aload_n 0, 1) := by decide +kernel
theorem dL_law_719 : decode cL_law 719 = .ok (.iload_n 3, 1) := by decide +kernel
theorem dL_law_720 : decode cL_law 720 = .ok (.iconst 2, 1) := by decide +kernel
theorem dL_law_721 : decode cL_law 721 = .ok (.iadd, 1) := by decide +kernel
theorem dL_law_722 : decode cL_law 722 = .ok (.iaload, 1) := by decide +kernel
theorem dL_law_723 : decode cL_law 723 = .ok (.aload_n 0, 1) := by decide +kernel
theorem dL_law_724 : decode cL_law 724 = .ok (.iload_n 3, 1) := by decide +kernel
theorem dL_law_725 : decode cL_law 725 = .ok (.iconst 3, 1) := by decide +kernel
theorem dL_law_726 : decode cL_law 726 = .ok (.iadd, 1) := by decide +kernel
theorem dL_law_727 : decode cL_law 727 = .ok (.iaload, 1) := by decide +kernel
theorem dL_law_728 : decode cL_law 728 = .ok (.aload_n 0, 1) := by decide +kernel
theorem dL_law_729 : decode cL_law 729 = .ok (.iload_n 3, 1) := by decide +kernel
theorem dL_law_730 : decode cL_law 730 = .ok (.iconst 4, 1) := by decide +kernel
theorem dL_law_731 : decode cL_law 731 = .ok (.iadd, 1) := by decide +kernel
theorem dL_law_732 : decode cL_law 732 = .ok (.iaload, 1) := by decide +kernel
theorem dL_law_733 : decode cL_law 733 = .ok (.invokevirtual 76, 3) := by decide +kernel
theorem dL_law_736 : decode cL_law 736 = .ok (.aload_n 2, 1) := by decide +kernel
theorem dL_law_737 : decode cL_law 737 = .ok (.aload_n 0, 1) := by decide +kernel
theorem dL_law_738 : decode cL_law 738 = .ok (.iload_n 3, 1) := by decide +kernel
theorem dL_law_739 : decode cL_law 739 = .ok (.iconst 1, 1) := by decide +kernel
theorem dL_law_740 : decode cL_law 740 = .ok (.iadd, 1) := by decide +kernel
theorem dL_law_741 : decode cL_law 741 = .ok (.iaload, 1) := by decide +kernel
theorem dL_law_742 : decode cL_law 742 = .ok (.aload_n 0, 1) := by decide +kernel
theorem dL_law_743 : decode cL_law 743 = .ok (.iload_n 3, 1) := by decide +kernel
theorem dL_law_744 : decode cL_law 744 = .ok (.iconst 2, 1) := by decide +kernel
theorem dL_law_745 : decode cL_law 745 = .ok (.iadd, 1) := by decide +kernel
theorem dL_law_746 : decode cL_law 746 = .ok (.iaload, 1) := by decide +kernel
theorem dL_law_747 : decode cL_law 747 = .ok (.aload_n 0, 1) := by decide +kernel
theorem dL_law_748 : decode cL_law 748 = .ok (.iload_n 3, 1) := by decide +kernel
theorem dL_law_749 : decode cL_law 749 = .ok (.iconst 3, 1) := by decide +kernel
theorem dL_law_750 : decode cL_law 750 = .ok (.iadd, 1) := by decide +kernel
theorem dL_law_751 : decode cL_law 751 = .ok (.iaload, 1) := by decide +kernel
theorem dL_law_752 : decode cL_law 752 = .ok (.aload_n 0, 1) := by decide +kernel
theorem dL_law_753 : decode cL_law 753 = .ok (.iload_n 3, 1) := by decide +kernel
theorem dL_law_754 : decode cL_law 754 = .ok (.iconst 4, 1) := by decide +kernel
theorem dL_law_755 : decode cL_law 755 = .ok (.iadd, 1) := by decide +kernel
theorem dL_law_756 : decode cL_law 756 = .ok (.iaload, 1) := by decide +kernel
theorem dL_law_757 : decode cL_law 757 = .ok (.invokevirtual 79, 3) := by decide +kernel
theorem dL_law_760 : decode cL_law 760 = .ok (.if_icmp .eq 790, 3) := by decide +kernel
theorem dL_law_763 : decode cL_law 763 = .ok (.iconst 0, 1) := by decide +kernel
theorem dL_law_764 : decode cL_law 764 = .ok (.ireturn, 1) := by decide +kernel
theorem dL_law_765 : decode cL_law 765 = .ok (.aload_n 1, 1) := by decide +kernel
theorem dL_law_766 : decode cL_law 766 = .ok (.aload_n 0, 1) := by decide +kernel
theorem dL_law_767 : decode cL_law 767 = .ok (.iload_n 3, 1) := by decide +kernel
theorem dL_law_768 : decode cL_law 768 = .ok (.iconst 1, 1) := by decide +kernel
theorem dL_law_769 : decode cL_law 769 = .ok (.iadd, 1) := by decide +kernel
theorem dL_law_770 : decode cL_law 770 = .ok (.iaload, 1) := by decide +kernel
theorem dL_law_771 : decode cL_law 771 = .ok (.aload_n 0, 1) := by decide +kernel
theorem dL_law_772 : decode cL_law 772 = .ok (.iload_n 3, 1) := by decide +kernel
theorem dL_law_773 : decode cL_law 773 = .ok (.iconst 2, 1) := by decide +kernel
theorem dL_law_774 : decode cL_law 774 = .ok (.iadd, 1) := by decide +kernel
theorem dL_law_775 : decode cL_law 775 = .ok (.iaload, 1) := by decide +kernel
theorem dL_law_776 : decode cL_law 776 = .ok (.aload_n 0, 1) := by decide +kernel
theorem dL_law_777 : decode cL_law 777 = .ok (.iload_n 3, 1) := by decide +kernel
theorem dL_law_778 : decode cL_law 778 = .ok (.iconst 3, 1) := by decide +kernel
theorem dL_law_779 : decode cL_law 779 = .ok (.iadd, 1) := by decide +kernel
theorem dL_law_780 : decode cL_law 780 = .ok (.iaload, 1) := by decide +kernel
theorem dL_law_781 : decode cL_law 781 = .ok (.aload_n 0, 1) := by decide +kernel
theorem dL_law_782 : decode cL_law 782 = .ok (.iload_n 3, 1) := by decide +kernel
theorem dL_law_783 : decode cL_law 783 = .ok (.iconst 4, 1) := by decide +kernel
theorem dL_law_784 : decode cL_law 784 = .ok (.iadd, 1) := by decide +kernel
theorem dL_law_785 : decode cL_law 785 = .ok (.iaload, 1) := by decide +kernel
theorem dL_law_786 : decode cL_law 786 = .ok (.aload_n 0, 1) := by decide +kernel
theorem dL_law_787 : decode cL_law 787 = .ok (.iload_n 3, 1) := by decide +kernel
theorem dL_law_788 : decode cL_law 788 = .ok (.iconst 5, 1) := by decide +kernel
theorem dL_law_789 : decode cL_law 789 = .ok (.iadd, 1) := by decide +kernel
theorem dL_law_790 : decode cL_law 790 = .ok (.iaload, 1) := by decide +kernel
theorem dL_law_791 : decode cL_law 791 = .ok (.invokevirtual 80, 3) := by decide +kernel
theorem dL_law_794 : decode cL_law 794 = .ok (.aload_n 2, 1) := by decide +kernel
theorem dL_law_795 : decode cL_law 795 = .ok (.aload_n 0, 1) := by decide +kernel
theorem dL_law_796 : decode cL_law 796 = .ok (.iload_n 3, 1) := by decide +kernel
theorem dL_law_797 : decode cL_law 797 = .ok (.iconst 1, 1) := by decide +kernel
theorem dL_law_798 : decode cL_law 798 = .ok (.iadd, 1) := by decide +kernel
theorem dL_law_799 : decode cL_law 799 = .ok (.iaload, 1) := by decide +kernel
theorem dL_law_800 : decode cL_law 800 = .ok (.aload_n 0, 1) := by decide +kernel
theorem dL_law_801 : decode cL_law 801 = .ok (.iload_n 3, 1) := by decide +kernel
theorem dL_law_802 : decode cL_law 802 = .ok (.iconst 2, 1) := by decide +kernel
theorem dL_law_803 : decode cL_law 803 = .ok (.iadd, 1) := by decide +kernel
theorem dL_law_804 : decode cL_law 804 = .ok (.iaload, 1) := by decide +kernel
theorem dL_law_805 : decode cL_law 805 = .ok (.aload_n 0, 1) := by decide +kernel
theorem dL_law_806 : decode cL_law 806 = .ok (.iload_n 3, 1) := by decide +kernel
theorem dL_law_807 : decode cL_law 807 = .ok (.iconst 3, 1) := by decide +kernel
theorem dL_law_808 : decode cL_law 808 = .ok (.iadd, 1) := by decide +kernel
theorem dL_law_809 : decode cL_law 809 = .ok (.iaload, 1) := by decide +kernel
theorem dL_law_810 : decode cL_law 810 = .ok (.aload_n 0, 1) := by decide +kernel
theorem dL_law_811 : decode cL_law 811 = .ok (.iload_n 3, 1) := by decide +kernel
theorem dL_law_812 : decode cL_law 812 = .ok (.iconst 4, 1) := by decide +kernel
theorem dL_law_813 : decode cL_law 813 = .ok (.iadd, 1) := by decide +kernel
theorem dL_law_814 : decode cL_law 814 = .ok (.iaload, 1) := by decide +kernel
theorem dL_law_815 : decode cL_law 815 = .ok (.aload_n 0, 1) := by decide +kernel
theorem dL_law_816 : decode cL_law 816 = .ok (.iload_n 3, 1) := by decide +kernel
theorem dL_law_817 : decode cL_law 817 = .ok (.iconst 5, 1) := by decide +kernel
theorem dL_law_818 : decode cL_law 818 = .ok (.iadd, 1) := by decide +kernel
theorem dL_law_819 : decode cL_law 819 = .ok (.iaload, 1) := by decide +kernel
theorem dL_law_820 : decode cL_law 820 = .ok (.invokevirtual 83, 3) := by decide +kernel
theorem dL_law_823 : decode cL_law 823 = .ok (.if_icmp .eq 727, 3) := by decide +kernel
theorem dL_law_826 : decode cL_law 826 = .ok (.iconst 0, 1) := by decide +kernel
theorem dL_law_827 : decode cL_law 827 = .ok (.ireturn, 1) := by decide +kernel
theorem dL_law_828 : decode cL_law 828 = .ok (.aload_n 1, 1) := by decide +kernel
theorem dL_law_829 : decode cL_law 829 = .ok (.aload_n 0, 1) := by decide +kernel
theorem dL_law_830 : decode cL_law 830 = .ok (.iload_n 3, 1) := by decide +kernel
theorem dL_law_831 : decode cL_law 831 = .ok (.iconst 1, 1) := by decide +kernel
theorem dL_law_832 : decode cL_law 832 = .ok (.iadd, 1) := by decide +kernel
theorem dL_law_833 : decode cL_law 833 = .ok (.iaload, 1) := by decide +kernel
theorem dL_law_834 : decode cL_law 834 = .ok (.aload_n 0, 1) := by decide +kernel
theorem dL_law_835 : decode cL_law 835 = .ok (.iload_n 3, 1) := by decide +kernel
theorem dL_law_836 : decode cL_law 836 = .ok (.iconst 2, 1) := by decide +kernel
theorem dL_law_837 : decode cL_law 837 = .ok (.iadd, 1) := by decide +kernel
theorem dL_law_838 : decode cL_law 838 = .ok (.iaload, 1) := by decide +kernel
theorem dL_law_839 : decode cL_law 839 = .ok (.invokevirtual 84, 3) := by decide +kernel
theorem dL_law_842 : decode cL_law 842 = .ok (.aload_n 2, 1) := by decide +kernel
theorem dL_law_843 : decode cL_law 843 = .ok (.aload_n 0, 1) := by decide +kernel
theorem dL_law_844 : decode cL_law 844 = .ok (.iload_n 3, 1) := by decide +kernel
theorem dL_law_845 : decode cL_law 845 = .ok (.iconst 1, 1) := by decide +kernel
theorem dL_law_846 : decode cL_law 846 = .ok (.iadd, 1) := by decide +kernel
theorem dL_law_847 : decode cL_law 847 = .ok (.iaload, 1) := by decide +kernel
theorem dL_law_848 : decode cL_law 848 = .ok (.aload_n 0, 1) := by decide +kernel
theorem dL_law_849 : decode cL_law 849 = .ok (.iload_n 3, 1) := by decide +kernel
theorem dL_law_850 : decode cL_law 850 = .ok (.iconst 2, 1) := by decide +kernel
theorem dL_law_851 : decode cL_law 851 = .ok (.iadd, 1) := by decide +kernel
theorem dL_law_852 : decode cL_law 852 = .ok (.iaload, 1) := by decide +kernel
theorem dL_law_853 : decode cL_law 853 = .ok (.invokevirtual 88, 3) := by decide +kernel
theorem dL_law_856 : decode cL_law 856 = .ok (.lcmp, 1) := by decide +kernel
theorem dL_law_857 : decode cL_law 857 = .ok (.ifCond .eq 693, 3) := by decide +kernel
theorem dL_law_860 : decode cL_law 860 = .ok (.iconst 0, 1) := by decide +kernel
theorem dL_law_861 : decode cL_law 861 = .ok (.ireturn, 1) := by decide +kernel
theorem dL_law_862 : decode cL_law 862 = .ok (.aload_n 1, 1) := by decide +kernel
theorem dL_law_863 : decode cL_law 863 = .ok (.aload_n 0, 1) := by decide +kernel
theorem dL_law_864 : decode cL_law 864 = .ok (.iload_n 3, 1) := by decide +kernel
theorem dL_law_865 : decode cL_law 865 = .ok (.iconst 1, 1) := by decide +kernel
theorem dL_law_866 : decode cL_law 866 = .ok (.iadd, 1) := by decide +kernel
theorem dL_law_867 : decode cL_law 867 = .ok (.iaload, 1) := by decide +kernel
theorem dL_law_868 : decode cL_law 868 = .ok (.aload_n 0, 1) := by decide +kernel
theorem dL_law_869 : decode cL_law 869 = .ok (.iload_n 3, 1) := by decide +kernel
theorem dL_law_870 : decode cL_law 870 = .ok (.iconst 2, 1) := by decide +kernel
theorem dL_law_871 : decode cL_law 871 = .ok (.iadd, 1) := by decide +kernel
theorem dL_law_872 : decode cL_law 872 = .ok (.iaload, 1) := by decide +kernel
theorem dL_law_873 : decode cL_law 873 = .ok (.aload_n 0, 1) := by decide +kernel
theorem dL_law_874 : decode cL_law 874 = .ok (.iload_n 3, 1) := by decide +kernel
theorem dL_law_875 : decode cL_law 875 = .ok (.iconst 3, 1) := by decide +kernel
theorem dL_law_876 : decode cL_law 876 = .ok (.iadd, 1) := by decide +kernel
theorem dL_law_877 : decode cL_law 877 = .ok (.iaload, 1) := by decide +kernel
theorem dL_law_878 : decode cL_law 878 = .ok (.aload_n 0, 1) := by decide +kernel
theorem dL_law_879 : decode cL_law 879 = .ok (.iload_n 3, 1) := by decide +kernel
theorem dL_law_880 : decode cL_law 880 = .ok (.iconst 4, 1) := by decide +kernel
theorem dL_law_881 : decode cL_law 881 = .ok (.iadd, 1) := by decide +kernel
theorem dL_law_882 : decode cL_law 882 = .ok (.iaload, 1) := by decide +kernel
theorem dL_law_883 : decode cL_law 883 = .ok (.invokevirtual 89, 3) := by decide +kernel
theorem dL_law_886 : decode cL_law 886 = .ok (.aload_n 2, 1) := by decide +kernel
theorem dL_law_887 : decode cL_law 887 = .ok (.aload_n 0, 1) := by decide +kernel
theorem dL_law_888 : decode cL_law 888 = .ok (.iload_n 3, 1) := by decide +kernel
theorem dL_law_889 : decode cL_law 889 = .ok (.iconst 1, 1) := by decide +kernel
theorem dL_law_890 : decode cL_law 890 = .ok (.iadd, 1) := by decide +kernel
theorem dL_law_891 : decode cL_law 891 = .ok (.iaload, 1) := by decide +kernel
theorem dL_law_892 : decode cL_law 892 = .ok (.aload_n 0, 1) := by decide +kernel
theorem dL_law_893 : decode cL_law 893 = .ok (.iload_n 3, 1) := by decide +kernel
theorem dL_law_894 : decode cL_law 894 = .ok (.iconst 2, 1) := by decide +kernel
theorem dL_law_895 : decode cL_law 895 = .ok (.iadd, 1) := by decide +kernel
theorem dL_law_896 : decode cL_law 896 = .ok (.iaload, 1) := by decide +kernel
theorem dL_law_897 : decode cL_law 897 = .ok (.aload_n 0, 1) := by decide +kernel
theorem dL_law_898 : decode cL_law 898 = .ok (.iload_n 3, 1) := by decide +kernel
theorem dL_law_899 : decode cL_law 899 = .ok (.iconst 3, 1) := by decide +kernel
theorem dL_law_900 : decode cL_law 900 = .ok (.iadd, 1) := by decide +kernel
theorem dL_law_901 : decode cL_law 901 = .ok (.iaload, 1) := by decide +kernel
theorem dL_law_902 : decode cL_law 902 = .ok (.aload_n 0, 1) := by decide +kernel
theorem dL_law_903 : decode cL_law 903 = .ok (.iload_n 3, 1) := by decide +kernel
theorem dL_law_904 : decode cL_law 904 = .ok (.iconst 4, 1) := by decide +kernel
theorem dL_law_905 : decode cL_law 905 = .ok (.iadd, 1) := by decide +kernel
theorem dL_law_906 : decode cL_law 906 = .ok (.iaload, 1) := by decide +kernel
theorem dL_law_907 : decode cL_law 907 = .ok (.invokevirtual 93, 3) := by decide +kernel
theorem dL_law_910 : decode cL_law 910 = .ok (.lcmp, 1) := by decide +kernel
theorem dL_law_911 : decode cL_law 911 = .ok (.ifCond .eq 639, 3) := by decide +kernel
theorem dL_law_914 : decode cL_law 914 = .ok (.iconst 0, 1) := by decide +kernel
theorem dL_law_915 : decode cL_law 915 = .ok (.ireturn, 1) := by decide +kernel
theorem dL_law_916 : decode cL_law 916 = .ok (.aload_n 1, 1) := by decide +kernel
theorem dL_law_917 : decode cL_law 917 = .ok (.aload_n 0, 1) := by decide +kernel
theorem dL_law_918 : decode cL_law 918 = .ok (.iload_n 3, 1) := by decide +kernel
theorem dL_law_919 : decode cL_law 919 = .ok (.iconst 1, 1) := by decide +kernel
theorem dL_law_920 : decode cL_law 920 = .ok (.iadd, 1) := by decide +kernel
theorem dL_law_921 : decode cL_law 921 = .ok (.iaload, 1) := by decide +kernel
theorem dL_law_922 : decode cL_law 922 = .ok (.aload_n 0, 1) := by decide +kernel
theorem dL_law_923 : decode cL_law 923 = .ok (.iload_n 3, 1) := by decide +kernel
theorem dL_law_924 : decode cL_law 924 = .ok (.iconst 2, 1) := by decide +kernel
theorem dL_law_925 : decode cL_law 925 = .ok (.iadd, 1) := by decide +kernel
theorem dL_law_926 : decode cL_law 926 = .ok (.iaload, 1) := by decide +kernel
theorem dL_law_927 : decode cL_law 927 = .ok (.aload_n 0, 1) := by decide +kernel
theorem dL_law_928 : decode cL_law 928 = .ok (.iload_n 3, 1) := by decide +kernel
theorem dL_law_929 : decode cL_law 929 = .ok (.iconst 3, 1) := by decide +kernel
theorem dL_law_930 : decode cL_law 930 = .ok (.iadd, 1) := by decide +kernel
theorem dL_law_931 : decode cL_law 931 = .ok (.iaload, 1) := by decide +kernel
theorem dL_law_932 : decode cL_law 932 = .ok (.invokevirtual 94, 3) := by decide +kernel
theorem dL_law_935 : decode cL_law 935 = .ok (.aload_n 2, 1) := by decide +kernel
theorem dL_law_936 : decode cL_law 936 = .ok (.aload_n 0, 1) := by decide +kernel
theorem dL_law_937 : decode cL_law 937 = .ok (.iload_n 3, 1) := by decide +kernel
theorem dL_law_938 : decode cL_law 938 = .ok (.iconst 1, 1) := by decide +kernel
theorem dL_law_939 : decode cL_law 939 = .ok (.iadd, 1) := by decide +kernel
theorem dL_law_940 : decode cL_law 940 = .ok (.iaload, 1) := by decide +kernel
theorem dL_law_941 : decode cL_law 941 = .ok (.aload_n 0, 1) := by decide +kernel
theorem dL_law_942 : decode cL_law 942 = .ok (.iload_n 3, 1) := by decide +kernel
theorem dL_law_943 : decode cL_law 943 = .ok (.iconst 2, 1) := by decide +kernel
theorem dL_law_944 : decode cL_law 944 = .ok (.iadd, 1) := by decide +kernel
theorem dL_law_945 : decode cL_law 945 = .ok (.iaload, 1) := by decide +kernel
theorem dL_law_946 : decode cL_law 946 = .ok (.aload_n 0, 1) := by decide +kernel
theorem dL_law_947 : decode cL_law 947 = .ok (.iload_n 3, 1) := by decide +kernel
theorem dL_law_948 : decode cL_law 948 = .ok (.iconst 3, 1) := by decide +kernel
theorem dL_law_949 : decode cL_law 949 = .ok (.iadd, 1) := by decide +kernel
theorem dL_law_950 : decode cL_law 950 = .ok (.iaload, 1) := by decide +kernel
theorem dL_law_951 : decode cL_law 951 = .ok (.invokevirtual 98, 3) := by decide +kernel
theorem dL_law_954 : decode cL_law 954 = .ok (.lcmp, 1) := by decide +kernel
theorem dL_law_955 : decode cL_law 955 = .ok (.ifCond .eq 595, 3) := by decide +kernel
theorem dL_law_958 : decode cL_law 958 = .ok (.iconst 0, 1) := by decide +kernel
theorem dL_law_959 : decode cL_law 959 = .ok (.ireturn, 1) := by decide +kernel
theorem dL_law_960 : decode cL_law 960 = .ok (.aload_n 1, 1) := by decide +kernel
theorem dL_law_961 : decode cL_law 961 = .ok (.aload_n 0, 1) := by decide +kernel
theorem dL_law_962 : decode cL_law 962 = .ok (.iload_n 3, 1) := by decide +kernel
theorem dL_law_963 : decode cL_law 963 = .ok (.iconst 1, 1) := by decide +kernel
theorem dL_law_964 : decode cL_law 964 = .ok (.iadd, 1) := by decide +kernel
theorem dL_law_965 : decode cL_law 965 = .ok (.iaload, 1) := by decide +kernel
theorem dL_law_966 : decode cL_law 966 = .ok (.aload_n 0, 1) := by decide +kernel
theorem dL_law_967 : decode cL_law 967 = .ok (.iload_n 3, 1) := by decide +kernel
theorem dL_law_968 : decode cL_law 968 = .ok (.iconst 2, 1) := by decide +kernel
theorem dL_law_969 : decode cL_law 969 = .ok (.iadd, 1) := by decide +kernel
theorem dL_law_970 : decode cL_law 970 = .ok (.iaload, 1) := by decide +kernel
theorem dL_law_971 : decode cL_law 971 = .ok (.aload_n 0, 1) := by decide +kernel
theorem dL_law_972 : decode cL_law 972 = .ok (.iload_n 3, 1) := by decide +kernel
theorem dL_law_973 : decode cL_law 973 = .ok (.iconst 3, 1) := by decide +kernel
theorem dL_law_974 : decode cL_law 974 = .ok (.iadd, 1) := by decide +kernel
theorem dL_law_975 : decode cL_law 975 = .ok (.iaload, 1) := by decide +kernel
theorem dL_law_976 : decode cL_law 976 = .ok (.aload_n 0, 1) := by decide +kernel
theorem dL_law_977 : decode cL_law 977 = .ok (.iload_n 3, 1) := by decide +kernel
theorem dL_law_978 : decode cL_law 978 = .ok (.iconst 4, 1) := by decide +kernel
theorem dL_law_979 : decode cL_law 979 = .ok (.iadd, 1) := by decide +kernel
theorem dL_law_980 : decode cL_law 980 = .ok (.iaload, 1) := by decide +kernel
theorem dL_law_981 : decode cL_law 981 = .ok (.invokevirtual 99, 3) := by decide +kernel
theorem dL_law_984 : decode cL_law 984 = .ok (.aload_n 2, 1) := by decide +kernel
theorem dL_law_985 : decode cL_law 985 = .ok (.aload_n 0, 1) := by decide +kernel
theorem dL_law_986 : decode cL_law 986 = .ok (.iload_n 3, 1) := by decide +kernel
theorem dL_law_987 : decode cL_law 987 = .ok (.iconst 1, 1) := by decide +kernel
theorem dL_law_988 : decode cL_law 988 = .ok (.iadd, 1) := by decide +kernel
theorem dL_law_989 : decode cL_law 989 = .ok (.iaload, 1) := by decide +kernel
theorem dL_law_990 : decode cL_law 990 = .ok (.aload_n 0, 1) := by decide +kernel
theorem dL_law_991 : decode cL_law 991 = .ok (.iload_n 3, 1) := by decide +kernel
theorem dL_law_992 : decode cL_law 992 = .ok (.iconst 2, 1) := by decide +kernel
theorem dL_law_993 : decode cL_law 993 = .ok (.iadd, 1) := by decide +kernel
theorem dL_law_994 : decode cL_law 994 = .ok (.iaload, 1) := by decide +kernel
theorem dL_law_995 : decode cL_law 995 = .ok (.aload_n 0, 1) := by decide +kernel
theorem dL_law_996 : decode cL_law 996 = .ok (.iload_n 3, 1) := by decide +kernel
theorem dL_law_997 : decode cL_law 997 = .ok (.iconst 3, 1) := by decide +kernel
theorem dL_law_998 : decode cL_law 998 = .ok (.iadd, 1) := by decide +kernel
theorem dL_law_999 : decode cL_law 999 = .ok (.iaload, 1) := by decide +kernel
theorem dL_law_1000 : decode cL_law 1000 = .ok (.aload_n 0, 1) := by decide +kernel
theorem dL_law_1001 : decode cL_law 1001 = .ok (.iload_n 3, 1) := by decide +kernel
theorem dL_law_1002 : decode cL_law 1002 = .ok (.iconst 4, 1) := by decide +kernel
theorem dL_law_1003 : decode cL_law 1003 = .ok (.iadd, 1) := by decide +kernel
theorem dL_law_1004 : decode cL_law 1004 = .ok (.iaload, 1) := by decide +kernel
theorem dL_law_1005 : decode cL_law 1005 = .ok (.invokevirtual 102, 3) := by decide +kernel
theorem dL_law_1008 : decode cL_law 1008 = .ok (.lcmp, 1) := by decide +kernel
theorem dL_law_1009 : decode cL_law 1009 = .ok (.ifCond .eq 541, 3) := by decide +kernel
theorem dL_law_1012 : decode cL_law 1012 = .ok (.iconst 0, 1) := by decide +kernel
theorem dL_law_1013 : decode cL_law 1013 = .ok (.ireturn, 1) := by decide +kernel
theorem dL_law_1014 : decode cL_law 1014 = .ok (.aload_n 1, 1) := by decide +kernel
theorem dL_law_1015 : decode cL_law 1015 = .ok (.aload_n 0, 1) := by decide +kernel
theorem dL_law_1016 : decode cL_law 1016 = .ok (.iload_n 3, 1) := by decide +kernel
theorem dL_law_1017 : decode cL_law 1017 = .ok (.iconst 1, 1) := by decide +kernel
theorem dL_law_1018 : decode cL_law 1018 = .ok (.iadd, 1) := by decide +kernel
theorem dL_law_1019 : decode cL_law 1019 = .ok (.iaload, 1) := by decide +kernel
theorem dL_law_1020 : decode cL_law 1020 = .ok (.aload_n 0, 1) := by decide +kernel
theorem dL_law_1021 : decode cL_law 1021 = .ok (.iload_n 3, 1) := by decide +kernel
theorem dL_law_1022 : decode cL_law 1022 = .ok (.iconst 2, 1) := by decide +kernel
theorem dL_law_1023 : decode cL_law 1023 = .ok (.iadd, 1) := by decide +kernel
theorem dL_law_1024 : decode cL_law 1024 = .ok (.iaload, 1) := by decide +kernel
theorem dL_law_1025 : decode cL_law 1025 = .ok (.aload_n 0, 1) := by decide +kernel
theorem dL_law_1026 : decode cL_law 1026 = .ok (.iload_n 3, 1) := by decide +kernel
theorem dL_law_1027 : decode cL_law 1027 = .ok (.iconst 3, 1) := by decide +kernel
theorem dL_law_1028 : decode cL_law 1028 = .ok (.iadd, 1) := by decide +kernel
theorem dL_law_1029 : decode cL_law 1029 = .ok (.iaload, 1) := by decide +kernel
theorem dL_law_1030 : decode cL_law 1030 = .ok (.aload_n 0, 1) := by decide +kernel
theorem dL_law_1031 : decode cL_law 1031 = .ok (.iload_n 3, 1) := by decide +kernel
theorem dL_law_1032 : decode cL_law 1032 = .ok (.iconst 4, 1) := by decide +kernel
theorem dL_law_1033 : decode cL_law 1033 = .ok (.iadd, 1) := by decide +kernel
theorem dL_law_1034 : decode cL_law 1034 = .ok (.iaload, 1) := by decide +kernel
theorem dL_law_1035 : decode cL_law 1035 = .ok (.invokevirtual 103, 3) := by decide +kernel
theorem dL_law_1038 : decode cL_law 1038 = .ok (.aload_n 2, 1) := by decide +kernel
theorem dL_law_1039 : decode cL_law 1039 = .ok (.aload_n 0, 1) := by decide +kernel
theorem dL_law_1040 : decode cL_law 1040 = .ok (.iload_n 3, 1) := by decide +kernel
theorem dL_law_1041 : decode cL_law 1041 = .ok (.iconst 1, 1) := by decide +kernel
theorem dL_law_1042 : decode cL_law 1042 = .ok (.iadd, 1) := by decide +kernel
theorem dL_law_1043 : decode cL_law 1043 = .ok (.iaload, 1) := by decide +kernel
theorem dL_law_1044 : decode cL_law 1044 = .ok (.aload_n 0, 1) := by decide +kernel
theorem dL_law_1045 : decode cL_law 1045 = .ok (.iload_n 3, 1) := by decide +kernel
theorem dL_law_1046 : decode cL_law 1046 = .ok (.iconst 2, 1) := by decide +kernel
theorem dL_law_1047 : decode cL_law 1047 = .ok (.iadd, 1) := by decide +kernel
theorem dL_law_1048 : decode cL_law 1048 = .ok (.iaload, 1) := by decide +kernel
theorem dL_law_1049 : decode cL_law 1049 = .ok (.aload_n 0, 1) := by decide +kernel
theorem dL_law_1050 : decode cL_law 1050 = .ok (.iload_n 3, 1) := by decide +kernel
theorem dL_law_1051 : decode cL_law 1051 = .ok (.iconst 3, 1) := by decide +kernel
theorem dL_law_1052 : decode cL_law 1052 = .ok (.iadd, 1) := by decide +kernel
theorem dL_law_1053 : decode cL_law 1053 = .ok (.iaload, 1) := by decide +kernel
theorem dL_law_1054 : decode cL_law 1054 = .ok (.aload_n 0, 1) := by decide +kernel
theorem dL_law_1055 : decode cL_law 1055 = .ok (.iload_n 3, 1) := by decide +kernel
theorem dL_law_1056 : decode cL_law 1056 = .ok (.iconst 4, 1) := by decide +kernel
theorem dL_law_1057 : decode cL_law 1057 = .ok (.iadd, 1) := by decide +kernel
theorem dL_law_1058 : decode cL_law 1058 = .ok (.iaload, 1) := by decide +kernel
theorem dL_law_1059 : decode cL_law 1059 = .ok (.invokevirtual 106, 3) := by decide +kernel
theorem dL_law_1062 : decode cL_law 1062 = .ok (.lcmp, 1) := by decide +kernel
theorem dL_law_1063 : decode cL_law 1063 = .ok (.ifCond .eq 487, 3) := by decide +kernel
theorem dL_law_1066 : decode cL_law 1066 = .ok (.iconst 0, 1) := by decide +kernel
theorem dL_law_1067 : decode cL_law 1067 = .ok (.ireturn, 1) := by decide +kernel
theorem dL_law_1068 : decode cL_law 1068 = .ok (.aload_n 1, 1) := by decide +kernel
theorem dL_law_1069 : decode cL_law 1069 = .ok (.aload_n 0, 1) := by decide +kernel
theorem dL_law_1070 : decode cL_law 1070 = .ok (.iload_n 3, 1) := by decide +kernel
theorem dL_law_1071 : decode cL_law 1071 = .ok (.iconst 1, 1) := by decide +kernel
theorem dL_law_1072 : decode cL_law 1072 = .ok (.iadd, 1) := by decide +kernel
theorem dL_law_1073 : decode cL_law 1073 = .ok (.iaload, 1) := by decide +kernel
theorem dL_law_1074 : decode cL_law 1074 = .ok (.aload_n 0, 1) := by decide +kernel
theorem dL_law_1075 : decode cL_law 1075 = .ok (.iload_n 3, 1) := by decide +kernel
theorem dL_law_1076 : decode cL_law 1076 = .ok (.iconst 2, 1) := by decide +kernel
theorem dL_law_1077 : decode cL_law 1077 = .ok (.iadd, 1) := by decide +kernel
theorem dL_law_1078 : decode cL_law 1078 = .ok (.iaload, 1) := by decide +kernel
theorem dL_law_1079 : decode cL_law 1079 = .ok (.invokevirtual 107, 3) := by decide +kernel
theorem dL_law_1082 : decode cL_law 1082 = .ok (.aload_n 2, 1) := by decide +kernel
theorem dL_law_1083 : decode cL_law 1083 = .ok (.aload_n 0, 1) := by decide +kernel
theorem dL_law_1084 : decode cL_law 1084 = .ok (.iload_n 3, 1) := by decide +kernel
theorem dL_law_1085 : decode cL_law 1085 = .ok (.iconst 1, 1) := by decide +kernel
theorem dL_law_1086 : decode cL_law 1086 = .ok (.iadd, 1) := by decide +kernel
theorem dL_law_1087 : decode cL_law 1087 = .ok (.iaload, 1) := by decide +kernel
theorem dL_law_1088 : decode cL_law 1088 = .ok (.aload_n 0, 1) := by decide +kernel
theorem dL_law_1089 : decode cL_law 1089 = .ok (.iload_n 3, 1) := by decide +kernel
theorem dL_law_1090 : decode cL_law 1090 = .ok (.iconst 2, 1) := by decide +kernel
theorem dL_law_1091 : decode cL_law 1091 = .ok (.iadd, 1) := by decide +kernel
theorem dL_law_1092 : decode cL_law 1092 = .ok (.iaload, 1) := by decide +kernel
theorem dL_law_1093 : decode cL_law 1093 = .ok (.invokevirtual 110, 3) := by decide +kernel
theorem dL_law_1096 : decode cL_law 1096 = .ok (.lcmp, 1) := by decide +kernel
theorem dL_law_1097 : decode cL_law 1097 = .ok (.ifCond .eq 453, 3) := by decide +kernel
theorem dL_law_1100 : decode cL_law 1100 = .ok (.iconst 0, 1) := by decide +kernel
theorem dL_law_1101 : decode cL_law 1101 = .ok (.ireturn, 1) := by decide +kernel
theorem dL_law_1102 : decode cL_law 1102 = .ok (.aload_n 1, 1) := by decide +kernel
theorem dL_law_1103 : decode cL_law 1103 = .ok (.aload_n 0, 1) := by decide +kernel
theorem dL_law_1104 : decode cL_law 1104 = .ok (.iload_n 3, 1) := by decide +kernel
theorem dL_law_1105 : decode cL_law 1105 = .ok (.iconst 1, 1) := by decide +kernel
theorem dL_law_1106 : decode cL_law 1106 = .ok (.iadd, 1) := by decide +kernel
theorem dL_law_1107 : decode cL_law 1107 = .ok (.iaload, 1) := by decide +kernel
theorem dL_law_1108 : decode cL_law 1108 = .ok (.aload_n 0, 1) := by decide +kernel
theorem dL_law_1109 : decode cL_law 1109 = .ok (.iload_n 3, 1) := by decide +kernel
theorem dL_law_1110 : decode cL_law 1110 = .ok (.iconst 2, 1) := by decide +kernel
theorem dL_law_1111 : decode cL_law 1111 = .ok (.iadd, 1) := by decide +kernel
theorem dL_law_1112 : decode cL_law 1112 = .ok (.iaload, 1) := by decide +kernel
theorem dL_law_1113 : decode cL_law 1113 = .ok (.aload_n 0, 1) := by decide +kernel
theorem dL_law_1114 : decode cL_law 1114 = .ok (.iload_n 3, 1) := by decide +kernel
theorem dL_law_1115 : decode cL_law 1115 = .ok (.iconst 3, 1) := by decide +kernel
theorem dL_law_1116 : decode cL_law 1116 = .ok (.iadd, 1) := by decide +kernel
theorem dL_law_1117 : decode cL_law 1117 = .ok (.iaload, 1) := by decide +kernel
theorem dL_law_1118 : decode cL_law 1118 = .ok (.aload_n 0, 1) := by decide +kernel
theorem dL_law_1119 : decode cL_law 1119 = .ok (.iload_n 3, 1) := by decide +kernel
theorem dL_law_1120 : decode cL_law 1120 = .ok (.iconst 4, 1) := by decide +kernel
theorem dL_law_1121 : decode cL_law 1121 = .ok (.iadd, 1) := by decide +kernel
theorem dL_law_1122 : decode cL_law 1122 = .ok (.iaload, 1) := by decide +kernel
theorem dL_law_1123 : decode cL_law 1123 = .ok (.invokevirtual 111, 3) := by decide +kernel
theorem dL_law_1126 : decode cL_law 1126 = .ok (.aload_n 2, 1) := by decide +kernel
theorem dL_law_1127 : decode cL_law 1127 = .ok (.aload_n 0, 1) := by decide +kernel
theorem dL_law_1128 : decode cL_law 1128 = .ok (.iload_n 3, 1) := by decide +kernel
theorem dL_law_1129 : decode cL_law 1129 = .ok (.iconst 1, 1) := by decide +kernel
theorem dL_law_1130 : decode cL_law 1130 = .ok (.iadd, 1) := by decide +kernel
theorem dL_law_1131 : decode cL_law 1131 = .ok (.iaload, 1) := by decide +kernel
theorem dL_law_1132 : decode cL_law 1132 = .ok (.aload_n 0, 1) := by decide +kernel
theorem dL_law_1133 : decode cL_law 1133 = .ok (.iload_n 3, 1) := by decide +kernel
theorem dL_law_1134 : decode cL_law 1134 = .ok (.iconst 2, 1) := by decide +kernel
theorem dL_law_1135 : decode cL_law 1135 = .ok (.iadd, 1) := by decide +kernel
theorem dL_law_1136 : decode cL_law 1136 = .ok (.iaload, 1) := by decide +kernel
theorem dL_law_1137 : decode cL_law 1137 = .ok (.aload_n 0, 1) := by decide +kernel
theorem dL_law_1138 : decode cL_law 1138 = .ok (.iload_n 3, 1) := by decide +kernel
theorem dL_law_1139 : decode cL_law 1139 = .ok (.iconst 3, 1) := by decide +kernel
theorem dL_law_1140 : decode cL_law 1140 = .ok (.iadd, 1) := by decide +kernel
theorem dL_law_1141 : decode cL_law 1141 = .ok (.iaload, 1) := by decide +kernel
theorem dL_law_1142 : decode cL_law 1142 = .ok (.aload_n 0, 1) := by decide +kernel
theorem dL_law_1143 : decode cL_law 1143 = .ok (.iload_n 3, 1) := by decide +kernel
theorem dL_law_1144 : decode cL_law 1144 = .ok (.iconst 4, 1) := by decide +kernel
theorem dL_law_1145 : decode cL_law 1145 = .ok (.iadd, 1) := by decide +kernel
theorem dL_law_1146 : decode cL_law 1146 = .ok (.iaload, 1) := by decide +kernel
theorem dL_law_1147 : decode cL_law 1147 = .ok (.invokevirtual 114, 3) := by decide +kernel
theorem dL_law_1150 : decode cL_law 1150 = .ok (.lcmp, 1) := by decide +kernel
theorem dL_law_1151 : decode cL_law 1151 = .ok (.ifCond .eq 399, 3) := by decide +kernel
theorem dL_law_1154 : decode cL_law 1154 = .ok (.iconst 0, 1) := by decide +kernel
theorem dL_law_1155 : decode cL_law 1155 = .ok (.ireturn, 1) := by decide +kernel
theorem dL_law_1156 : decode cL_law 1156 = .ok (.aload_n 1, 1) := by decide +kernel
theorem dL_law_1157 : decode cL_law 1157 = .ok (.aload_n 0, 1) := by decide +kernel
theorem dL_law_1158 : decode cL_law 1158 = .ok (.iload_n 3, 1) := by decide +kernel
theorem dL_law_1159 : decode cL_law 1159 = .ok (.iconst 1, 1) := by decide +kernel
theorem dL_law_1160 : decode cL_law 1160 = .ok (.iadd, 1) := by decide +kernel
theorem dL_law_1161 : decode cL_law 1161 = .ok (.iaload, 1) := by decide +kernel
theorem dL_law_1162 : decode cL_law 1162 = .ok (.aload_n 0, 1) := by decide +kernel
theorem dL_law_1163 : decode cL_law 1163 = .ok (.iload_n 3, 1) := by decide +kernel
theorem dL_law_1164 : decode cL_law 1164 = .ok (.iconst 2, 1) := by decide +kernel
theorem dL_law_1165 : decode cL_law 1165 = .ok (.iadd, 1) := by decide +kernel
theorem dL_law_1166 : decode cL_law 1166 = .ok (.iaload, 1) := by decide +kernel
theorem dL_law_1167 : decode cL_law 1167 = .ok (.aload_n 0, 1) := by decide +kernel
theorem dL_law_1168 : decode cL_law 1168 = .ok (.iload_n 3, 1) := by decide +kernel
theorem dL_law_1169 : decode cL_law 1169 = .ok (.iconst 3, 1) := by decide +kernel
theorem dL_law_1170 : decode cL_law 1170 = .ok (.iadd, 1) := by decide +kernel
theorem dL_law_1171 : decode cL_law 1171 = .ok (.iaload, 1) := by decide +kernel
theorem dL_law_1172 : decode cL_law 1172 = .ok (.aload_n 0, 1) := by decide +kernel
theorem dL_law_1173 : decode cL_law 1173 = .ok (.iload_n 3, 1) := by decide +kernel
theorem dL_law_1174 : decode cL_law 1174 = .ok (.iconst 4, 1) := by decide +kernel
theorem dL_law_1175 : decode cL_law 1175 = .ok (.iadd, 1) := by decide +kernel
theorem dL_law_1176 : decode cL_law 1176 = .ok (.iaload, 1) := by decide +kernel
theorem dL_law_1177 : decode cL_law 1177 = .ok (.aload_n 0, 1) := by decide +kernel
theorem dL_law_1178 : decode cL_law 1178 = .ok (.iload_n 3, 1) := by decide +kernel
theorem dL_law_1179 : decode cL_law 1179 = .ok (.iconst 5, 1) := by decide +kernel
theorem dL_law_1180 : decode cL_law 1180 = .ok (.iadd, 1) := by decide +kernel
theorem dL_law_1181 : decode cL_law 1181 = .ok (.iaload, 1) := by decide +kernel
theorem dL_law_1182 : decode cL_law 1182 = .ok (.aload_n 0, 1) := by decide +kernel
theorem dL_law_1183 : decode cL_law 1183 = .ok (.iload_n 3, 1) := by decide +kernel
theorem dL_law_1184 : decode cL_law 1184 = .ok (.bipush 6, 2) := by decide +kernel
theorem dL_law_1186 : decode cL_law 1186 = .ok (.iadd, 1) := by decide +kernel
theorem dL_law_1187 : decode cL_law 1187 = .ok (.iaload, 1) := by decide +kernel
theorem dL_law_1188 : decode cL_law 1188 = .ok (.invokevirtual 115, 3) := by decide +kernel
theorem dL_law_1191 : decode cL_law 1191 = .ok (.aload_n 2, 1) := by decide +kernel
theorem dL_law_1192 : decode cL_law 1192 = .ok (.aload_n 0, 1) := by decide +kernel
theorem dL_law_1193 : decode cL_law 1193 = .ok (.iload_n 3, 1) := by decide +kernel
theorem dL_law_1194 : decode cL_law 1194 = .ok (.iconst 1, 1) := by decide +kernel
theorem dL_law_1195 : decode cL_law 1195 = .ok (.iadd, 1) := by decide +kernel
theorem dL_law_1196 : decode cL_law 1196 = .ok (.iaload, 1) := by decide +kernel
theorem dL_law_1197 : decode cL_law 1197 = .ok (.aload_n 0, 1) := by decide +kernel
theorem dL_law_1198 : decode cL_law 1198 = .ok (.iload_n 3, 1) := by decide +kernel
theorem dL_law_1199 : decode cL_law 1199 = .ok (.iconst 2, 1) := by decide +kernel
theorem dL_law_1200 : decode cL_law 1200 = .ok (.iadd, 1) := by decide +kernel
theorem dL_law_1201 : decode cL_law 1201 = .ok (.iaload, 1) := by decide +kernel
theorem dL_law_1202 : decode cL_law 1202 = .ok (.aload_n 0, 1) := by decide +kernel
theorem dL_law_1203 : decode cL_law 1203 = .ok (.iload_n 3, 1) := by decide +kernel
theorem dL_law_1204 : decode cL_law 1204 = .ok (.iconst 3, 1) := by decide +kernel
theorem dL_law_1205 : decode cL_law 1205 = .ok (.iadd, 1) := by decide +kernel
theorem dL_law_1206 : decode cL_law 1206 = .ok (.iaload, 1) := by decide +kernel
theorem dL_law_1207 : decode cL_law 1207 = .ok (.aload_n 0, 1) := by decide +kernel
theorem dL_law_1208 : decode cL_law 1208 = .ok (.iload_n 3, 1) := by decide +kernel
theorem dL_law_1209 : decode cL_law 1209 = .ok (.iconst 4, 1) := by decide +kernel
theorem dL_law_1210 : decode cL_law 1210 = .ok (.iadd, 1) := by decide +kernel
theorem dL_law_1211 : decode cL_law 1211 = .ok (.iaload, 1) := by decide +kernel
theorem dL_law_1212 : decode cL_law 1212 = .ok (.aload_n 0, 1) := by decide +kernel
theorem dL_law_1213 : decode cL_law 1213 = .ok (.iload_n 3, 1) := by decide +kernel
theorem dL_law_1214 : decode cL_law 1214 = .ok (.iconst 5, 1) := by decide +kernel
theorem dL_law_1215 : decode cL_law 1215 = .ok (.iadd, 1) := by decide +kernel
theorem dL_law_1216 : decode cL_law 1216 = .ok (.iaload, 1) := by decide +kernel
theorem dL_law_1217 : decode cL_law 1217 = .ok (.aload_n 0, 1) := by decide +kernel
theorem dL_law_1218 : decode cL_law 1218 = .ok (.iload_n 3, 1) := by decide +kernel
theorem dL_law_1219 : decode cL_law 1219 = .ok (.bipush 6, 2) := by decide +kernel
theorem dL_law_1221 : decode cL_law 1221 = .ok (.iadd, 1) := by decide +kernel
theorem dL_law_1222 : decode cL_law 1222 = .ok (.iaload, 1) := by decide +kernel
theorem dL_law_1223 : decode cL_law 1223 = .ok (.invokevirtual 119, 3) := by decide +kernel
theorem dL_law_1226 : decode cL_law 1226 = .ok (.if_icmp .eq 324, 3) := by decide +kernel
theorem dL_law_1229 : decode cL_law 1229 = .ok (.iconst 0, 1) := by decide +kernel
theorem dL_law_1230 : decode cL_law 1230 = .ok (.ireturn, 1) := by decide +kernel
theorem dL_law_1231 : decode cL_law 1231 = .ok (.aload_n 1, 1) := by decide +kernel
theorem dL_law_1232 : decode cL_law 1232 = .ok (.aload_n 0, 1) := by decide +kernel
theorem dL_law_1233 : decode cL_law 1233 = .ok (.iload_n 3, 1) := by decide +kernel
theorem dL_law_1234 : decode cL_law 1234 = .ok (.iconst 1, 1) := by decide +kernel
theorem dL_law_1235 : decode cL_law 1235 = .ok (.iadd, 1) := by decide +kernel
theorem dL_law_1236 : decode cL_law 1236 = .ok (.iaload, 1) := by decide +kernel
theorem dL_law_1237 : decode cL_law 1237 = .ok (.aload_n 0, 1) := by decide +kernel
theorem dL_law_1238 : decode cL_law 1238 = .ok (.iload_n 3, 1) := by decide +kernel
theorem dL_law_1239 : decode cL_law 1239 = .ok (.iconst 2, 1) := by decide +kernel
theorem dL_law_1240 : decode cL_law 1240 = .ok (.iadd, 1) := by decide +kernel
theorem dL_law_1241 : decode cL_law 1241 = .ok (.iaload, 1) := by decide +kernel
theorem dL_law_1242 : decode cL_law 1242 = .ok (.aload_n 0, 1) := by decide +kernel
theorem dL_law_1243 : decode cL_law 1243 = .ok (.iload_n 3, 1) := by decide +kernel
theorem dL_law_1244 : decode cL_law 1244 = .ok (.iconst 3, 1) := by decide +kernel
theorem dL_law_1245 : decode cL_law 1245 = .ok (.iadd, 1) := by decide +kernel
theorem dL_law_1246 : decode cL_law 1246 = .ok (.iaload, 1) := by decide +kernel
theorem dL_law_1247 : decode cL_law 1247 = .ok (.invokevirtual 120, 3) := by decide +kernel
theorem dL_law_1250 : decode cL_law 1250 = .ok (.aload_n 2, 1) := by decide +kernel
theorem dL_law_1251 : decode cL_law 1251 = .ok (.aload_n 0, 1) := by decide +kernel
theorem dL_law_1252 : decode cL_law 1252 = .ok (.iload_n 3, 1) := by decide +kernel
theorem dL_law_1253 : decode cL_law 1253 = .ok (.iconst 1, 1) := by decide +kernel
theorem dL_law_1254 : decode cL_law 1254 = .ok (.iadd, 1) := by decide +kernel
theorem dL_law_1255 : decode cL_law 1255 = .ok (.iaload, 1) := by decide +kernel
theorem dL_law_1256 : decode cL_law 1256 = .ok (.aload_n 0, 1) := by decide +kernel
theorem dL_law_1257 : decode cL_law 1257 = .ok (.iload_n 3, 1) := by decide +kernel
theorem dL_law_1258 : decode cL_law 1258 = .ok (.iconst 2, 1) := by decide +kernel
theorem dL_law_1259 : decode cL_law 1259 = .ok (.iadd, 1) := by decide +kernel
theorem dL_law_1260 : decode cL_law 1260 = .ok (.iaload, 1) := by decide +kernel
theorem dL_law_1261 : decode cL_law 1261 = .ok (.aload_n 0, 1) := by decide +kernel
theorem dL_law_1262 : decode cL_law 1262 = .ok (.iload_n 3, 1) := by decide +kernel
theorem dL_law_1263 : decode cL_law 1263 = .ok (.iconst 3, 1) := by decide +kernel
theorem dL_law_1264 : decode cL_law 1264 = .ok (.iadd, 1) := by decide +kernel
theorem dL_law_1265 : decode cL_law 1265 = .ok (.iaload, 1) := by decide +kernel
theorem dL_law_1266 : decode cL_law 1266 = .ok (.invokevirtual 123, 3) := by decide +kernel
theorem dL_law_1269 : decode cL_law 1269 = .ok (.if_icmp .eq 281, 3) := by decide +kernel
theorem dL_law_1272 : decode cL_law 1272 = .ok (.iconst 0, 1) := by decide +kernel
theorem dL_law_1273 : decode cL_law 1273 = .ok (.ireturn, 1) := by decide +kernel
theorem dL_law_1274 : decode cL_law 1274 = .ok (.aload_n 1, 1) := by decide +kernel
theorem dL_law_1275 : decode cL_law 1275 = .ok (.invokevirtual 124, 3) := by decide +kernel
theorem dL_law_1278 : decode cL_law 1278 = .ok (.aload_n 2, 1) := by decide +kernel
theorem dL_law_1279 : decode cL_law 1279 = .ok (.invokevirtual 127, 3) := by decide +kernel
theorem dL_law_1282 : decode cL_law 1282 = .ok (.if_icmp .eq 268, 3) := by decide +kernel
theorem dL_law_1285 : decode cL_law 1285 = .ok (.iconst 0, 1) := by decide +kernel
theorem dL_law_1286 : decode cL_law 1286 = .ok (.ireturn, 1) := by decide +kernel
theorem dL_law_1287 : decode cL_law 1287 = .ok (.aload_n 1, 1) := by decide +kernel
theorem dL_law_1288 : decode cL_law 1288 = .ok (.aload_n 0, 1) := by decide +kernel
theorem dL_law_1289 : decode cL_law 1289 = .ok (.iload_n 3, 1) := by decide +kernel
theorem dL_law_1290 : decode cL_law 1290 = .ok (.iconst 1, 1) := by decide +kernel
theorem dL_law_1291 : decode cL_law 1291 = .ok (.iadd, 1) := by decide +kernel
theorem dL_law_1292 : decode cL_law 1292 = .ok (.iaload, 1) := by decide +kernel
theorem dL_law_1293 : decode cL_law 1293 = .ok (.aload_n 0, 1) := by decide +kernel
theorem dL_law_1294 : decode cL_law 1294 = .ok (.iload_n 3, 1) := by decide +kernel
theorem dL_law_1295 : decode cL_law 1295 = .ok (.iconst 2, 1) := by decide +kernel
theorem dL_law_1296 : decode cL_law 1296 = .ok (.iadd, 1) := by decide +kernel
theorem dL_law_1297 : decode cL_law 1297 = .ok (.iaload, 1) := by decide +kernel
theorem dL_law_1298 : decode cL_law 1298 = .ok (.invokevirtual 128, 3) := by decide +kernel
theorem dL_law_1301 : decode cL_law 1301 = .ok (.aload_n 2, 1) := by decide +kernel
theorem dL_law_1302 : decode cL_law 1302 = .ok (.aload_n 0, 1) := by decide +kernel
theorem dL_law_1303 : decode cL_law 1303 = .ok (.iload_n 3, 1) := by decide +kernel
theorem dL_law_1304 : decode cL_law 1304 = .ok (.iconst 1, 1) := by decide +kernel
theorem dL_law_1305 : decode cL_law 1305 = .ok (.iadd, 1) := by decide +kernel
theorem dL_law_1306 : decode cL_law 1306 = .ok (.iaload, 1) := by decide +kernel
theorem dL_law_1307 : decode cL_law 1307 = .ok (.aload_n 0, 1) := by decide +kernel
theorem dL_law_1308 : decode cL_law 1308 = .ok (.iload_n 3, 1) := by decide +kernel
theorem dL_law_1309 : decode cL_law 1309 = .ok (.iconst 2, 1) := by decide +kernel
theorem dL_law_1310 : decode cL_law 1310 = .ok (.iadd, 1) := by decide +kernel
theorem dL_law_1311 : decode cL_law 1311 = .ok (.iaload, 1) := by decide +kernel
theorem dL_law_1312 : decode cL_law 1312 = .ok (.invokevirtual 131, 3) := by decide +kernel
theorem dL_law_1315 : decode cL_law 1315 = .ok (.lcmp, 1) := by decide +kernel
theorem dL_law_1316 : decode cL_law 1316 = .ok (.ifCond .eq 234, 3) := by decide +kernel
theorem dL_law_1319 : decode cL_law 1319 = .ok (.iconst 0, 1) := by decide +kernel
theorem dL_law_1320 : decode cL_law 1320 = .ok (.ireturn, 1) := by decide +kernel
theorem dL_law_1321 : decode cL_law 1321 = .ok (.aload_n 1, 1) := by decide +kernel
theorem dL_law_1322 : decode cL_law 1322 = .ok (.aload_n 0, 1) := by decide +kernel
theorem dL_law_1323 : decode cL_law 1323 = .ok (.iload_n 3, 1) := by decide +kernel
theorem dL_law_1324 : decode cL_law 1324 = .ok (.iconst 1, 1) := by decide +kernel
theorem dL_law_1325 : decode cL_law 1325 = .ok (.iadd, 1) := by decide +kernel
theorem dL_law_1326 : decode cL_law 1326 = .ok (.iaload, 1) := by decide +kernel
theorem dL_law_1327 : decode cL_law 1327 = .ok (.aload_n 0, 1) := by decide +kernel
theorem dL_law_1328 : decode cL_law 1328 = .ok (.iload_n 3, 1) := by decide +kernel
theorem dL_law_1329 : decode cL_law 1329 = .ok (.iconst 2, 1) := by decide +kernel
theorem dL_law_1330 : decode cL_law 1330 = .ok (.iadd, 1) := by decide +kernel
theorem dL_law_1331 : decode cL_law 1331 = .ok (.iaload, 1) := by decide +kernel
theorem dL_law_1332 : decode cL_law 1332 = .ok (.invokevirtual 132, 3) := by decide +kernel
theorem dL_law_1335 : decode cL_law 1335 = .ok (.aload_n 2, 1) := by decide +kernel
theorem dL_law_1336 : decode cL_law 1336 = .ok (.aload_n 0, 1) := by decide +kernel
theorem dL_law_1337 : decode cL_law 1337 = .ok (.iload_n 3, 1) := by decide +kernel
theorem dL_law_1338 : decode cL_law 1338 = .ok (.iconst 1, 1) := by decide +kernel
theorem dL_law_1339 : decode cL_law 1339 = .ok (.iadd, 1) := by decide +kernel
theorem dL_law_1340 : decode cL_law 1340 = .ok (.iaload, 1) := by decide +kernel
theorem dL_law_1341 : decode cL_law 1341 = .ok (.aload_n 0, 1) := by decide +kernel
theorem dL_law_1342 : decode cL_law 1342 = .ok (.iload_n 3, 1) := by decide +kernel
theorem dL_law_1343 : decode cL_law 1343 = .ok (.iconst 2, 1) := by decide +kernel
theorem dL_law_1344 : decode cL_law 1344 = .ok (.iadd, 1) := by decide +kernel
theorem dL_law_1345 : decode cL_law 1345 = .ok (.iaload, 1) := by decide +kernel
theorem dL_law_1346 : decode cL_law 1346 = .ok (.invokevirtual 135, 3) := by decide +kernel
theorem dL_law_1349 : decode cL_law 1349 = .ok (.if_icmp .eq 201, 3) := by decide +kernel
theorem dL_law_1352 : decode cL_law 1352 = .ok (.iconst 0, 1) := by decide +kernel
theorem dL_law_1353 : decode cL_law 1353 = .ok (.ireturn, 1) := by decide +kernel
theorem dL_law_1354 : decode cL_law 1354 = .ok (.aload_n 1, 1) := by decide +kernel
theorem dL_law_1355 : decode cL_law 1355 = .ok (.aload_n 0, 1) := by decide +kernel
theorem dL_law_1356 : decode cL_law 1356 = .ok (.iload_n 3, 1) := by decide +kernel
theorem dL_law_1357 : decode cL_law 1357 = .ok (.iconst 1, 1) := by decide +kernel
theorem dL_law_1358 : decode cL_law 1358 = .ok (.iadd, 1) := by decide +kernel
theorem dL_law_1359 : decode cL_law 1359 = .ok (.iaload, 1) := by decide +kernel
theorem dL_law_1360 : decode cL_law 1360 = .ok (.aload_n 0, 1) := by decide +kernel
theorem dL_law_1361 : decode cL_law 1361 = .ok (.iload_n 3, 1) := by decide +kernel
theorem dL_law_1362 : decode cL_law 1362 = .ok (.iconst 2, 1) := by decide +kernel
theorem dL_law_1363 : decode cL_law 1363 = .ok (.iadd, 1) := by decide +kernel
theorem dL_law_1364 : decode cL_law 1364 = .ok (.iaload, 1) := by decide +kernel
theorem dL_law_1365 : decode cL_law 1365 = .ok (.invokevirtual 136, 3) := by decide +kernel
theorem dL_law_1368 : decode cL_law 1368 = .ok (.aload_n 2, 1) := by decide +kernel
theorem dL_law_1369 : decode cL_law 1369 = .ok (.aload_n 0, 1) := by decide +kernel
theorem dL_law_1370 : decode cL_law 1370 = .ok (.iload_n 3, 1) := by decide +kernel
theorem dL_law_1371 : decode cL_law 1371 = .ok (.iconst 1, 1) := by decide +kernel
theorem dL_law_1372 : decode cL_law 1372 = .ok (.iadd, 1) := by decide +kernel
theorem dL_law_1373 : decode cL_law 1373 = .ok (.iaload, 1) := by decide +kernel
theorem dL_law_1374 : decode cL_law 1374 = .ok (.aload_n 0, 1) := by decide +kernel
theorem dL_law_1375 : decode cL_law 1375 = .ok (.iload_n 3, 1) := by decide +kernel
theorem dL_law_1376 : decode cL_law 1376 = .ok (.iconst 2, 1) := by decide +kernel
theorem dL_law_1377 : decode cL_law 1377 = .ok (.iadd, 1) := by decide +kernel
theorem dL_law_1378 : decode cL_law 1378 = .ok (.iaload, 1) := by decide +kernel
theorem dL_law_1379 : decode cL_law 1379 = .ok (.invokevirtual 140, 3) := by decide +kernel
theorem dL_law_1382 : decode cL_law 1382 = .ok (.if_icmp .eq 168, 3) := by decide +kernel
theorem dL_law_1385 : decode cL_law 1385 = .ok (.iconst 0, 1) := by decide +kernel
theorem dL_law_1386 : decode cL_law 1386 = .ok (.ireturn, 1) := by decide +kernel
theorem dL_law_1387 : decode cL_law 1387 = .ok (.aload_n 1, 1) := by decide +kernel
theorem dL_law_1388 : decode cL_law 1388 = .ok (.aload_n 0, 1) := by decide +kernel
theorem dL_law_1389 : decode cL_law 1389 = .ok (.iload_n 3, 1) := by decide +kernel
theorem dL_law_1390 : decode cL_law 1390 = .ok (.iconst 1, 1) := by decide +kernel
theorem dL_law_1391 : decode cL_law 1391 = .ok (.iadd, 1) := by decide +kernel
theorem dL_law_1392 : decode cL_law 1392 = .ok (.iaload, 1) := by decide +kernel
theorem dL_law_1393 : decode cL_law 1393 = .ok (.aload_n 0, 1) := by decide +kernel
theorem dL_law_1394 : decode cL_law 1394 = .ok (.iload_n 3, 1) := by decide +kernel
theorem dL_law_1395 : decode cL_law 1395 = .ok (.iconst 2, 1) := by decide +kernel
theorem dL_law_1396 : decode cL_law 1396 = .ok (.iadd, 1) := by decide +kernel
theorem dL_law_1397 : decode cL_law 1397 = .ok (.iaload, 1) := by decide +kernel
theorem dL_law_1398 : decode cL_law 1398 = .ok (.aload_n 0, 1) := by decide +kernel
theorem dL_law_1399 : decode cL_law 1399 = .ok (.iload_n 3, 1) := by decide +kernel
theorem dL_law_1400 : decode cL_law 1400 = .ok (.iconst 3, 1) := by decide +kernel
theorem dL_law_1401 : decode cL_law 1401 = .ok (.iadd, 1) := by decide +kernel
theorem dL_law_1402 : decode cL_law 1402 = .ok (.iaload, 1) := by decide +kernel
theorem dL_law_1403 : decode cL_law 1403 = .ok (.invokevirtual 141, 3) := by decide +kernel
theorem dL_law_1406 : decode cL_law 1406 = .ok (.aload_n 2, 1) := by decide +kernel
theorem dL_law_1407 : decode cL_law 1407 = .ok (.aload_n 0, 1) := by decide +kernel
theorem dL_law_1408 : decode cL_law 1408 = .ok (.iload_n 3, 1) := by decide +kernel
theorem dL_law_1409 : decode cL_law 1409 = .ok (.iconst 1, 1) := by decide +kernel
theorem dL_law_1410 : decode cL_law 1410 = .ok (.iadd, 1) := by decide +kernel
theorem dL_law_1411 : decode cL_law 1411 = .ok (.iaload, 1) := by decide +kernel
theorem dL_law_1412 : decode cL_law 1412 = .ok (.aload_n 0, 1) := by decide +kernel
theorem dL_law_1413 : decode cL_law 1413 = .ok (.iload_n 3, 1) := by decide +kernel
theorem dL_law_1414 : decode cL_law 1414 = .ok (.iconst 2, 1) := by decide +kernel
theorem dL_law_1415 : decode cL_law 1415 = .ok (.iadd, 1) := by decide +kernel
theorem dL_law_1416 : decode cL_law 1416 = .ok (.iaload, 1) := by decide +kernel
theorem dL_law_1417 : decode cL_law 1417 = .ok (.aload_n 0, 1) := by decide +kernel
theorem dL_law_1418 : decode cL_law 1418 = .ok (.iload_n 3, 1) := by decide +kernel
theorem dL_law_1419 : decode cL_law 1419 = .ok (.iconst 3, 1) := by decide +kernel
theorem dL_law_1420 : decode cL_law 1420 = .ok (.iadd, 1) := by decide +kernel
theorem dL_law_1421 : decode cL_law 1421 = .ok (.iaload, 1) := by decide +kernel
theorem dL_law_1422 : decode cL_law 1422 = .ok (.invokevirtual 144, 3) := by decide +kernel
theorem dL_law_1425 : decode cL_law 1425 = .ok (.if_icmp .eq 125, 3) := by decide +kernel
theorem dL_law_1428 : decode cL_law 1428 = .ok (.iconst 0, 1) := by decide +kernel
theorem dL_law_1429 : decode cL_law 1429 = .ok (.ireturn, 1) := by decide +kernel
theorem dL_law_1430 : decode cL_law 1430 = .ok (.aload_n 1, 1) := by decide +kernel
theorem dL_law_1431 : decode cL_law 1431 = .ok (.aload_n 0, 1) := by decide +kernel
theorem dL_law_1432 : decode cL_law 1432 = .ok (.iload_n 3, 1) := by decide +kernel
theorem dL_law_1433 : decode cL_law 1433 = .ok (.iconst 1, 1) := by decide +kernel
theorem dL_law_1434 : decode cL_law 1434 = .ok (.iadd, 1) := by decide +kernel
theorem dL_law_1435 : decode cL_law 1435 = .ok (.iaload, 1) := by decide +kernel
theorem dL_law_1436 : decode cL_law 1436 = .ok (.aload_n 0, 1) := by decide +kernel
theorem dL_law_1437 : decode cL_law 1437 = .ok (.iload_n 3, 1) := by decide +kernel
theorem dL_law_1438 : decode cL_law 1438 = .ok (.iconst 2, 1) := by decide +kernel
theorem dL_law_1439 : decode cL_law 1439 = .ok (.iadd, 1) := by decide +kernel
theorem dL_law_1440 : decode cL_law 1440 = .ok (.iaload, 1) := by decide +kernel
theorem dL_law_1441 : decode cL_law 1441 = .ok (.invokevirtual 145, 3) := by decide +kernel
theorem dL_law_1444 : decode cL_law 1444 = .ok (.aload_n 2, 1) := by decide +kernel
theorem dL_law_1445 : decode cL_law 1445 = .ok (.aload_n 0, 1) := by decide +kernel
theorem dL_law_1446 : decode cL_law 1446 = .ok (.iload_n 3, 1) := by decide +kernel
theorem dL_law_1447 : decode cL_law 1447 = .ok (.iconst 1, 1) := by decide +kernel
theorem dL_law_1448 : decode cL_law 1448 = .ok (.iadd, 1) := by decide +kernel
theorem dL_law_1449 : decode cL_law 1449 = .ok (.iaload, 1) := by decide +kernel
theorem dL_law_1450 : decode cL_law 1450 = .ok (.aload_n 0, 1) := by decide +kernel
theorem dL_law_1451 : decode cL_law 1451 = .ok (.iload_n 3, 1) := by decide +kernel
theorem dL_law_1452 : decode cL_law 1452 = .ok (.iconst 2, 1) := by decide +kernel
theorem dL_law_1453 : decode cL_law 1453 = .ok (.iadd, 1) := by decide +kernel
theorem dL_law_1454 : decode cL_law 1454 = .ok (.iaload, 1) := by decide +kernel
theorem dL_law_1455 : decode cL_law 1455 = .ok (.invokevirtual 148, 3) := by decide +kernel
theorem dL_law_1458 : decode cL_law 1458 = .ok (.if_icmp .eq 92, 3) := by decide +kernel
theorem dL_law_1461 : decode cL_law 1461 = .ok (.iconst 0, 1) := by decide +kernel
theorem dL_law_1462 : decode cL_law 1462 = .ok (.ireturn, 1) := by decide +kernel
theorem dL_law_1463 : decode cL_law 1463 = .ok (.aload_n 1, 1) := by decide +kernel
theorem dL_law_1464 : decode cL_law 1464 = .ok (.aload_n 0, 1) := by decide +kernel
theorem dL_law_1465 : decode cL_law 1465 = .ok (.iload_n 3, 1) := by decide +kernel
theorem dL_law_1466 : decode cL_law 1466 = .ok (.iconst 1, 1) := by decide +kernel
theorem dL_law_1467 : decode cL_law 1467 = .ok (.iadd, 1) := by decide +kernel
theorem dL_law_1468 : decode cL_law 1468 = .ok (.iaload, 1) := by decide +kernel
theorem dL_law_1469 : decode cL_law 1469 = .ok (.aload_n 0, 1) := by decide +kernel
theorem dL_law_1470 : decode cL_law 1470 = .ok (.iload_n 3, 1) := by decide +kernel
theorem dL_law_1471 : decode cL_law 1471 = .ok (.iconst 2, 1) := by decide +kernel
theorem dL_law_1472 : decode cL_law 1472 = .ok (.iadd, 1) := by decide +kernel
theorem dL_law_1473 : decode cL_law 1473 = .ok (.iaload, 1) := by decide +kernel
theorem dL_law_1474 : decode cL_law 1474 = .ok (.aload_n 0, 1) := by decide +kernel
theorem dL_law_1475 : decode cL_law 1475 = .ok (.iload_n 3, 1) := by decide +kernel
theorem dL_law_1476 : decode cL_law 1476 = .ok (.iconst 3, 1) := by decide +kernel
theorem dL_law_1477 : decode cL_law 1477 = .ok (.iadd, 1) := by decide +kernel
theorem dL_law_1478 : decode cL_law 1478 = .ok (.iaload, 1) := by decide +kernel
theorem dL_law_1479 : decode cL_law 1479 = .ok (.aload_n 0, 1) := by decide +kernel
theorem dL_law_1480 : decode cL_law 1480 = .ok (.iload_n 3, 1) := by decide +kernel
theorem dL_law_1481 : decode cL_law 1481 = .ok (.iconst 4, 1) := by decide +kernel
theorem dL_law_1482 : decode cL_law 1482 = .ok (.iadd, 1) := by decide +kernel
theorem dL_law_1483 : decode cL_law 1483 = .ok (.iaload, 1) := by decide +kernel
theorem dL_law_1484 : decode cL_law 1484 = .ok (.aload_n 0, 1) := by decide +kernel
theorem dL_law_1485 : decode cL_law 1485 = .ok (.iload_n 3, 1) := by decide +kernel
theorem dL_law_1486 : decode cL_law 1486 = .ok (.iconst 5, 1) := by decide +kernel
theorem dL_law_1487 : decode cL_law 1487 = .ok (.iadd, 1) := by decide +kernel
theorem dL_law_1488 : decode cL_law 1488 = .ok (.iaload, 1) := by decide +kernel
theorem dL_law_1489 : decode cL_law 1489 = .ok (.invokevirtual 149, 3) := by decide +kernel
theorem dL_law_1492 : decode cL_law 1492 = .ok (.aload_n 2, 1) := by decide +kernel
theorem dL_law_1493 : decode cL_law 1493 = .ok (.aload_n 0, 1) := by decide +kernel
theorem dL_law_1494 : decode cL_law 1494 = .ok (.iload_n 3, 1) := by decide +kernel
theorem dL_law_1495 : decode cL_law 1495 = .ok (.iconst 1, 1) := by decide +kernel
theorem dL_law_1496 : decode cL_law 1496 = .ok (.iadd, 1) := by decide +kernel
theorem dL_law_1497 : decode cL_law 1497 = .ok (.iaload, 1) := by decide +kernel
theorem dL_law_1498 : decode cL_law 1498 = .ok (.aload_n 0, 1) := by decide +kernel
theorem dL_law_1499 : decode cL_law 1499 = .ok (.iload_n 3, 1) := by decide +kernel
theorem dL_law_1500 : decode cL_law 1500 = .ok (.iconst 2, 1) := by decide +kernel
theorem dL_law_1501 : decode cL_law 1501 = .ok (.iadd, 1) := by decide +kernel
theorem dL_law_1502 : decode cL_law 1502 = .ok (.iaload, 1) := by decide +kernel
theorem dL_law_1503 : decode cL_law 1503 = .ok (.aload_n 0, 1) := by decide +kernel
theorem dL_law_1504 : decode cL_law 1504 = .ok (.iload_n 3, 1) := by decide +kernel
theorem dL_law_1505 : decode cL_law 1505 = .ok (.iconst 3, 1) := by decide +kernel
theorem dL_law_1506 : decode cL_law 1506 = .ok (.iadd, 1) := by decide +kernel
theorem dL_law_1507 : decode cL_law 1507 = .ok (.iaload, 1) := by decide +kernel
theorem dL_law_1508 : decode cL_law 1508 = .ok (.aload_n 0, 1) := by decide +kernel
theorem dL_law_1509 : decode cL_law 1509 = .ok (.iload_n 3, 1) := by decide +kernel
theorem dL_law_1510 : decode cL_law 1510 = .ok (.iconst 4, 1) := by decide +kernel
theorem dL_law_1511 : decode cL_law 1511 = .ok (.iadd, 1) := by decide +kernel
theorem dL_law_1512 : decode cL_law 1512 = .ok (.iaload, 1) := by decide +kernel
theorem dL_law_1513 : decode cL_law 1513 = .ok (.aload_n 0, 1) := by decide +kernel
theorem dL_law_1514 : decode cL_law 1514 = .ok (.iload_n 3, 1) := by decide +kernel
theorem dL_law_1515 : decode cL_law 1515 = .ok (.iconst 5, 1) := by decide +kernel
theorem dL_law_1516 : decode cL_law 1516 = .ok (.iadd, 1) := by decide +kernel
theorem dL_law_1517 : decode cL_law 1517 = .ok (.iaload, 1) := by decide +kernel
theorem dL_law_1518 : decode cL_law 1518 = .ok (.invokevirtual 153, 3) := by decide +kernel
theorem dL_law_1521 : decode cL_law 1521 = .ok (.lcmp, 1) := by decide +kernel
theorem dL_law_1522 : decode cL_law 1522 = .ok (.ifCond .eq 28, 3) := by decide +kernel
theorem dL_law_1525 : decode cL_law 1525 = .ok (.iconst 0, 1) := by decide +kernel
theorem dL_law_1526 : decode cL_law 1526 = .ok (.ireturn, 1) := by decide +kernel
theorem dL_law_1527 : decode cL_law 1527 = .ok (.aload_n 1, 1) := by decide +kernel
theorem dL_law_1528 : decode cL_law 1528 = .ok (.aload_n 0, 1) := by decide +kernel
theorem dL_law_1529 : decode cL_law 1529 = .ok (.iload_n 3, 1) := by decide +kernel
theorem dL_law_1530 : decode cL_law 1530 = .ok (.iconst 1, 1) := by decide +kernel
theorem dL_law_1531 : decode cL_law 1531 = .ok (.iadd, 1) := by decide +kernel
theorem dL_law_1532 : decode cL_law 1532 = .ok (.iaload, 1) := by decide +kernel
theorem dL_law_1533 : decode cL_law 1533 = .ok (.invokevirtual 154, 3) := by decide +kernel
theorem dL_law_1536 : decode cL_law 1536 = .ok (.aload_n 2, 1) := by decide +kernel
theorem dL_law_1537 : decode cL_law 1537 = .ok (.aload_n 0, 1) := by decide +kernel
theorem dL_law_1538 : decode cL_law 1538 = .ok (.iload_n 3, 1) := by decide +kernel
theorem dL_law_1539 : decode cL_law 1539 = .ok (.iconst 1, 1) := by decide +kernel
theorem dL_law_1540 : decode cL_law 1540 = .ok (.iadd, 1) := by decide +kernel
theorem dL_law_1541 : decode cL_law 1541 = .ok (.iaload, 1) := by decide +kernel
theorem dL_law_1542 : decode cL_law 1542 = .ok (.invokevirtual 157, 3) := by decide +kernel
theorem dL_law_1545 : decode cL_law 1545 = .ok (.if_icmp .eq 5, 3) := by decide +kernel
theorem dL_law_1548 : decode cL_law 1548 = .ok (.iconst 0, 1) := by decide +kernel
theorem dL_law_1549 : decode cL_law 1549 = .ok (.ireturn, 1) := by decide +kernel
theorem dL_law_1550 : decode cL_law 1550 = .ok (.iinc 3 7, 3) := by decide +kernel
theorem dL_law_1553 : decode cL_law 1553 = .ok (.goto (-1535), 3) := by decide +kernel
theorem dL_law_1556 : decode cL_law 1556 = .ok (.iconst 1, 1) := by decide +kernel
theorem dL_law_1557 : decode cL_law 1557 = .ok (.ireturn, 1) := by decide +kernel
