theorem dX7_matches_75 : decode cX7_matches 75 = .ok (.aload_n 0, 1) := by decide +kernel
theorem dX7_matches_76 : decode cX7_matches 76 = .ok (.getfield 13, 3) := by decide +kernel
theorem dX7_matches_79 : decode cX7_matches 79 = .ok (.iload 5, 2) := by decide +kernel
theorem dX7_matches_81 : decode cX7_matches 81 = .ok (.iaload, 1) := by decide +kernel
theorem dX7_matches_82 : decode cX7_matches 82 = .ok (.bipush 64, 2) := by decide +kernel
theorem dX7_matches_84 : decode cX7_matches 84 = .ok (.irem, 1) := by decide +kernel
theorem dX7_matches_85 : decode cX7_matches 85 = .ok (.lshr, 1) := by decide +kernel
theorem dX7_matches_86 : decode cX7_matches 86 = .ok (.lconst 1, 1) := by decide +kernel
theorem dX7_matches_87 : decode cX7_matches 87 = .ok (.land, 1) := by decide +kernel
theorem dX7_matches_88 : decode cX7_matches 88 = .ok (.lconst 1, 1) := by decide +kernel
theorem dX7_matches_89 : decode cX7_matches 89 = .ok (.lcmp, 1) := by decide +kernel
theorem dX7_matches_90 : decode cX7_matches 90 = .ok (.ifCond .ne 24, 3) := by decide +kernel
theorem dX7_matches_93 : decode cX7_matches 93 = .ok (.lload 6, 2) := by decide +kernel
theorem dX7_matches_95 : decode cX7_matches 95 = .ok (.lconst 1, 1) := by decide +kernel
theorem dX7_matches_96 : decode cX7_matches 96 = .ok (.iload 10, 2) := by decide +kernel
theorem dX7_matches_98 : decode cX7_matches 98 = .ok (.lshl, 1) := by decide +kernel
theorem dX7_matches_99 : decode cX7_matches 99 = .ok (.lor, 1) := by decide +kernel
theorem dX7_matches_100 : decode cX7_matches 100 = .ok (.lstore 6, 2) := by decide +kernel
theorem dX7_matches_102 : decode cX7_matches 102 = .ok (.lload 8, 2) := by decide +kernel
theorem dX7_matches_104 : decode cX7_matches 104 = .ok (.aload_n 0, 1) := by decide +kernel
theorem dX7_matches_105 : decode cX7_matches 105 = .ok (.getfield 45, 3) := by decide +kernel
theorem dX7_matches_108 : decode cX7_matches 108 = .ok (.iload 10, 2) := by decide +kernel
theorem dX7_matches_110 : decode cX7_matches 110 = .ok (.laload, 1) := by decide +kernel
theorem dX7_matches_111 : decode cX7_matches 111 = .ok (.lor, 1) := by decide +kernel
theorem dX7_matches_112 : decode cX7_matches 112 = .ok (.lstore 8, 2) := by decide +kernel
theorem dX7_matches_114 : decode cX7_matches 114 = .ok (.iinc 10 1, 3) := by decide +kernel
theorem dX7_matches_117 : decode cX7_matches 117 = .ok (.goto (-82), 3) := by decide +kernel
theorem dX7_matches_120 : decode cX7_matches 120 = .ok (.lload 6, 2) := by decide +kernel
theorem dX7_matches_122 : decode cX7_matches 122 = .ok (.aload_n 0, 1) := by decide +kernel
theorem dX7_matches_123 : decode cX7_matches 123 = .ok (.getfield 182, 3) := by decide +kernel
theorem dX7_matches_126 : decode cX7_matches 126 = .ok (.land, 1) := by decide +kernel
theorem dX7_matches_127 : decode cX7_matches 127 = .ok (.lconst 0, 1) := by decide +kernel
theorem dX7_matches_128 : decode cX7_matches 128 = .ok (.lcmp, 1) := by decide +kernel
theorem dX7_matches_129 : decode cX7_matches 129 = .ok (.ifCond .eq 12, 3) := by decide +kernel
theorem dX7_matches_132 : decode cX7_matches 132 = .ok (.iload 5, 2) := by decide +kernel
theorem dX7_matches_134 : decode cX7_matches 134 = .ok (.iconst 1, 1) := by decide +kernel
theorem dX7_matches_135 : decode cX7_matches 135 = .ok (.iadd, 1) := by decide +kernel
theorem dX7_matches_136 : decode cX7_matches 136 = .ok (.iload_n 1, 1) := by decide +kernel
theorem dX7_matches_137 : decode cX7_matches 137 = .ok (.isub, 1) := by decide +kernel
theorem dX7_matches_138 : decode cX7_matches 138 = .ok (.goto 5, 3) := by decide +kernel
theorem dX7_matches_141 : decode cX7_matches 141 = .ok (.iload 4, 2) := by decide +kernel
theorem dX7_matches_143 : decode cX7_matches 143 = .ok (.istore 4, 2) := by decide +kernel
theorem dX7_matches_145 : decode cX7_matches 145 = .ok (.lload 8, 2) := by decide +kernel
theorem dX7_matches_147 : decode cX7_matches 147 = .ok (.lstore_n 2, 1) := by decide +kernel
theorem dX7_matches_148 : decode cX7_matches 148 = .ok (.iinc 5 1, 3) := by decide +kernel
theorem dX7_matches_151 : decode cX7_matches 151 = .ok (.goto (-140), 3) := by decide +kernel
theorem dX7_matches_154 : decode cX7_matches 154 = .ok (.iload 4, 2) := by decide +kernel
theorem dX7_matches_156 : decode cX7_matches 156 = .ok (.ireturn, 1) := by decide +kernel
theorem dX7_match_0 : decode cX7_match 0 = .ok (.iload_n 1, 1) := by decide +kernel
theorem dX7_match_1 : decode cX7_match 1 = .ok (.iconst 0, 1) := by decide +kernel
theorem dX7_match_2 : decode cX7_match 2 = .ok (.aload_n 0, 1) := by decide +kernel
theorem dX7_match_3 : decode cX7_match 3 = .ok (.getfield 102, 3) := by decide +kernel
theorem dX7_match_6 : decode cX7_match 6 = .ok (.iconst 1, 1) := by decide +kernel
theorem dX7_match_7 : decode cX7_match 7 = .ok (.isub, 1) := by decide +kernel
theorem dX7_match_8 : decode cX7_match 8 = .ok (.invokestatic 85, 3) := by decide +kernel
theorem dX7_match_11 : decode cX7_match 11 = .ok (.ifCond .eq 11, 3) := by decide +kernel
theorem dX7_match_14 : decode cX7_match 14 = .ok (.aload_n 0, 1) := by decide +kernel
theorem dX7_match_15 : decode cX7_match 15 = .ok (.iload_n 1, 1) := by decide +kernel
theorem dX7_match_16 : decode cX7_match 16 = .ok (.invokevirtual 185, 3) := by decide +kernel
theorem dX7_match_19 : decode cX7_match 19 = .ok (.goto 4, 3) := by decide +kernel
theorem dX7_match_22 : decode cX7_match 22 = .ok (.iconst (-1), 1) := by decide +kernel
theorem dX7_match_23 : decode cX7_match 23 = .ok (.ireturn, 1) := by decide +kernel
theorem dX7_word_0 : decode cX7_word 0 = .ok (.aload_n 0, 1) := by decide +kernel
theorem dX7_word_1 : decode cX7_word 1 = .ok (.getfield 99, 3) := by decide +kernel
theorem dX7_word_4 : decode cX7_word 4 = .ok (.istore_n 2, 1) := by decide +kernel
theorem dX7_word_5 : decode cX7_word 5 = .ok (.aload_n 0, 1) := by decide +kernel
theorem dX7_word_6 : decode cX7_word 6 = .ok (.iconst 0, 1) := by decide +kernel
theorem dX7_word_7 : decode cX7_word 7 = .ok (.putfield 99, 3) := by decide +kernel
theorem dX7_word_10 : decode cX7_word 10 = .ok (.iload_n 2, 1) := by decide +kernel
theorem dX7_word_11 : decode cX7_word 11 = .ok (.iconst 1, 1) := by decide +kernel
theorem dX7_word_12 : decode cX7_word 12 = .ok (.bipush 12, 2) := by decide +kernel
theorem dX7_word_14 : decode cX7_word 14 = .ok (.invokestatic 85, 3) := by decide +kernel
theorem dX7_word_17 : decode cX7_word 17 = .ok (.ifCond .eq 18, 3) := by decide +kernel
theorem dX7_word_20 : decode cX7_word 20 = .ok (.iload_n 1, 1) := by decide +kernel
theorem dX7_word_21 : decode cX7_word 21 = .ok (.iconst 1, 1) := by decide +kernel
theorem dX7_word_22 : decode cX7_word 22 = .ok (.sipush 1000, 3) := by decide +kernel
theorem dX7_word_25 : decode cX7_word 25 = .ok (.invokestatic 85, 3) := by decide +kernel
theorem dX7_word_28 : decode cX7_word 28 = .ok (.ifCond .eq 7, 3) := by decide +kernel
theorem dX7_word_31 : decode cX7_word 31 = .ok (.iconst 1, 1) := by decide +kernel
theorem dX7_word_32 : decode cX7_word 32 = .ok (.goto 4, 3) := by decide +kernel
theorem dX7_word_35 : decode cX7_word 35 = .ok (.iconst 0, 1) := by decide +kernel
theorem dX7_word_36 : decode cX7_word 36 = .ok (.istore_n 3, 1) := by decide +kernel
theorem dX7_word_37 : decode cX7_word 37 = .ok (.iconst 0, 1) := by decide +kernel
theorem dX7_word_38 : decode cX7_word 38 = .ok (.istore 4, 2) := by decide +kernel
theorem dX7_word_40 : decode cX7_word 40 = .ok (.iload 4, 2) := by decide +kernel
theorem dX7_word_42 : decode cX7_word 42 = .ok (.iload_n 2, 1) := by decide +kernel
theorem dX7_word_43 : decode cX7_word 43 = .ok (.if_icmp .ge 32, 3) := by decide +kernel
theorem dX7_word_46 : decode cX7_word 46 = .ok (.iload_n 3, 1) := by decide +kernel
theorem dX7_word_47 : decode cX7_word 47 = .ok (.ifCond .eq 28, 3) := by decide +kernel
theorem dX7_word_50 : decode cX7_word 50 = .ok (.aload_n 0, 1) := by decide +kernel
theorem dX7_word_51 : decode cX7_word 51 = .ok (.getfield 7, 3) := by decide +kernel
theorem dX7_word_54 : decode cX7_word 54 = .ok (.iload 4, 2) := by decide +kernel
theorem dX7_word_56 : decode cX7_word 56 = .ok (.iaload, 1) := by decide +kernel
theorem dX7_word_57 : decode cX7_word 57 = .ok (.invokestatic 96, 3) := by decide +kernel
theorem dX7_word_60 : decode cX7_word 60 = .ok (.ifCond .ne 7, 3) := by decide +kernel
theorem dX7_word_63 : decode cX7_word 63 = .ok (.iconst 1, 1) := by decide +kernel
theorem dX7_word_64 : decode cX7_word 64 = .ok (.goto 4, 3) := by decide +kernel
theorem dX7_word_67 : decode cX7_word 67 = .ok (.iconst 0, 1) := by decide +kernel
theorem dX7_word_68 : decode cX7_word 68 = .ok (.istore_n 3, 1) := by decide +kernel
theorem dX7_word_69 : decode cX7_word 69 = .ok (.iinc 4 1, 3) := by decide +kernel
theorem dX7_word_72 : decode cX7_word 72 = .ok (.goto (-32), 3) := by decide +kernel
theorem dX7_word_75 : decode cX7_word 75 = .ok (.iload_n 3, 1) := by decide +kernel
theorem dX7_word_76 : decode cX7_word 76 = .ok (.ifCond .ne 5, 3) := by decide +kernel
theorem dX7_word_79 : decode cX7_word 79 = .ok (.iconst (-1), 1) := by decide +kernel
theorem dX7_word_80 : decode cX7_word 80 = .ok (.ireturn, 1) := by decide +kernel
theorem dX7_word_81 : decode cX7_word 81 = .ok (.iconst 0, 1) := by decide +kernel
theorem dX7_word_82 : decode cX7_word 82 = .ok (.istore 4, 2) := by decide +kernel
theorem dX7_word_84 : decode cX7_word 84 = .ok (.iload 4, 2) := by decide +kernel
theorem dX7_word_86 : decode cX7_word 86 = .ok (.aload_n 0, 1) := by decide +kernel
theorem dX7_word_87 : decode cX7_word 87 = .ok (.getfield 189, 3) := by decide +kernel
theorem dX7_word_90 : decode cX7_word 90 = .ok (.if_icmp .ge 85, 3) := by decide +kernel
theorem dX7_word_93 : decode cX7_word 93 = .ok (.aload_n 0, 1) := by decide +kernel
theorem dX7_word_94 : decode cX7_word 94 = .ok (.getfield 19, 3) := by decide +kernel
theorem dX7_word_97 : decode cX7_word 97 = .ok (.iload 4, 2) := by decide +kernel
theorem dX7_word_99 : decode cX7_word 99 = .ok (.iaload, 1) := by decide +kernel
theorem dX7_word_100 : decode cX7_word 100 = .ok (.iload_n 2, 1) := by decide +kernel
theorem dX7_word_101 : decode cX7_word 101 = .ok (.if_icmp .ne 7, 3) := by decide +kernel
theorem dX7_word_104 : decode cX7_word 104 = .ok (.iconst 1, 1) := by decide +kernel
theorem dX7_word_105 : decode cX7_word 105 = .ok (.goto 4, 3) := by decide +kernel
theorem dX7_word_108 : decode cX7_word 108 = .ok (.iconst 0, 1) := by decide +kernel
theorem dX7_word_109 : decode cX7_word 109 = .ok (.istore 5, 2) := by decide +kernel
theorem dX7_word_111 : decode cX7_word 111 = .ok (.iconst 0, 1) := by decide +kernel
theorem dX7_word_112 : decode cX7_word 112 = .ok (.istore 6, 2) := by decide +kernel
theorem dX7_word_114 : decode cX7_word 114 = .ok (.iload 6, 2) := by decide +kernel
theorem dX7_word_116 : decode cX7_word 116 = .ok (.iload_n 2, 1) := by decide +kernel
theorem dX7_word_117 : decode cX7_word 117 = .ok (.if_icmp .ge 44, 3) := by decide +kernel
theorem dX7_word_120 : decode cX7_word 120 = .ok (.iload 5, 2) := by decide +kernel
theorem dX7_word_122 : decode cX7_word 122 = .ok (.ifCond .eq 39, 3) := by decide +kernel
theorem dX7_word_125 : decode cX7_word 125 = .ok (.aload_n 0, 1) := by decide +kernel
theorem dX7_word_126 : decode cX7_word 126 = .ok (.getfield 16, 3) := by decide +kernel
theorem dX7_word_129 : decode cX7_word 129 = .ok (.bipush 12, 2) := by decide +kernel
theorem dX7_word_131 : decode cX7_word 131 = .ok (.iload 4, 2) := by decide +kernel
theorem dX7_word_133 : decode cX7_word 133 = .ok (.imul, 1) := by decide +kernel
theorem dX7_word_134 : decode cX7_word 134 = .ok (.iload 6, 2) := by decide +kernel
theorem dX7_word_136 : decode cX7_word 136 = .ok (.iadd, 1) := by decide +kernel
theorem dX7_word_137 : decode cX7_word 137 = .ok (.iaload, 1) := by decide +kernel
theorem dX7_word_138 : decode cX7_word 138 = .ok (.aload_n 0, 1) := by decide +kernel
theorem dX7_word_139 : decode cX7_word 139 = .ok (.getfield 7, 3) := by decide +kernel
theorem dX7_word_142 : decode cX7_word 142 = .ok (.iload 6, 2) := by decide +kernel
theorem dX7_word_144 : decode cX7_word 144 = .ok (.iaload, 1) := by decide +kernel
theorem dX7_word_145 : decode cX7_word 145 = .ok (.if_icmp .ne 7, 3) := by decide +kernel
theorem dX7_word_148 : decode cX7_word 148 = .ok (.iconst 1, 1) := by decide +kernel
theorem dX7_word_149 : decode cX7_word 149 = .ok (.goto 4, 3) := by decide +kernel
theorem dX7_word_152 : decode cX7_word 152 = .ok (.iconst 0, 1) := by decide +kernel
theorem dX7_word_153 : decode cX7_word 153 = .ok (.istore 5, 2) := by decide +kernel
theorem dX7_word_155 : decode cX7_word 155 = .ok (.iinc 6 1, 3) := by decide +kernel
theorem dX7_word_158 : decode cX7_word 158 = .ok (.goto (-44), 3) := by decide +kernel
theorem dX7_word_161 : decode cX7_word 161 = .ok (.iload 5, 2) := by decide +kernel
theorem dX7_word_163 : decode cX7_word 163 = .ok (.ifCond .eq 6, 3) := by decide +kernel
theorem dX7_word_166 : decode cX7_word 166 = .ok (.bipush (-2), 2) := by decide +kernel
theorem dX7_word_168 : decode cX7_word 168 = .ok (.ireturn, 1) := by decide +kernel
theorem dX7_word_169 : decode cX7_word 169 = .ok (.iinc 4 1, 3) := by decide +kernel
theorem dX7_word_172 : decode cX7_word 172 = .ok (.goto (-88), 3) := by decide +kernel
theorem dX7_word_175 : decode cX7_word 175 = .ok (.aload_n 0, 1) := by decide +kernel
theorem dX7_word_176 : decode cX7_word 176 = .ok (.getfield 189, 3) := by decide +kernel
theorem dX7_word_179 : decode cX7_word 179 = .ok (.bipush 40, 2) := by decide +kernel
theorem dX7_word_181 : decode cX7_word 181 = .ok (.if_icmp .ne 6, 3) := by decide +kernel
theorem dX7_word_184 : decode cX7_word 184 = .ok (.bipush (-3), 2) := by decide +kernel
theorem dX7_word_186 : decode cX7_word 186 = .ok (.ireturn, 1) := by decide +kernel
theorem dX7_word_187 : decode cX7_word 187 = .ok (.iconst 0, 1) := by decide +kernel
theorem dX7_word_188 : decode cX7_word 188 = .ok (.istore 4, 2) := by decide +kernel
theorem dX7_word_190 : decode cX7_word 190 = .ok (.iload 4, 2) := by decide +kernel
theorem dX7_word_192 : decode cX7_word 192 = .ok (.iload_n 2, 1) := by decide +kernel
theorem dX7_word_193 : decode cX7_word 193 = .ok (.if_icmp .ge 31, 3) := by decide +kernel
theorem dX7_word_196 : decode cX7_word 196 = .ok (.aload_n 0, 1) := by decide +kernel
theorem dX7_word_197 : decode cX7_word 197 = .ok (.getfield 16, 3) := by decide +kernel
theorem dX7_word_200 : decode cX7_word 200 = .ok (.bipush 12, 2) := by decide +kernel
theorem dX7_word_202 : decode cX7_word 202 = .ok (.aload_n 0, 1) := by decide +kernel
theorem dX7_word_203 : decode cX7_word 203 = .ok (.getfield 189, 3) := by decide +kernel
theorem dX7_word_206 : decode cX7_word 206 = .ok (.imul, 1) := by decide +kernel
theorem dX7_word_207 : decode cX7_word 207 = .ok (.iload 4, 2) := by decide +kernel
theorem dX7_word_209 : decode cX7_word 209 = .ok (.iadd, 1) := by decide +kernel
theorem dX7_word_210 : decode cX7_word 210 = .ok (.aload_n 0, 1) := by decide +kernel
theorem dX7_word_211 : decode cX7_word 211 = .ok (.getfield 7, 3) := by decide +kernel
theorem dX7_word_214 : decode cX7_word 214 = .ok (.iload 4, 2) := by decide +kernel
theorem dX7_word_216 : decode cX7_word 216 = .ok (.iaload, 1) := by decide +kernel
theorem dX7_word_217 : decode cX7_word 217 = .ok (.iastore, 1) := by decide +kernel
theorem dX7_word_218 : decode cX7_word 218 = .ok (.iinc 4 1, 3) := by decide +kernel
theorem dX7_word_221 : decode cX7_word 221 = .ok (.goto (-31), 3) := by decide +kernel
theorem dX7_word_224 : decode cX7_word 224 = .ok (.aload_n 0, 1) := by decide +kernel
theorem dX7_word_225 : decode cX7_word 225 = .ok (.getfield 19, 3) := by decide +kernel
theorem dX7_word_228 : decode cX7_word 228 = .ok (.aload_n 0, 1) := by decide +kernel
theorem dX7_word_229 : decode cX7_word 229 = .ok (.getfield 189, 3) := by decide +kernel
theorem dX7_word_232 : decode cX7_word 232 = .ok (.iload_n 2, 1) := by decide +kernel
theorem dX7_word_233 : decode cX7_word 233 = .ok (.iastore, 1) := by decide +kernel
theorem dX7_word_234 : decode cX7_word 234 = .ok (.aload_n 0, 1) := by decide +kernel
theorem dX7_word_235 : decode cX7_word 235 = .ok (.getfield 22, 3) := by decide +kernel
theorem dX7_word_238 : decode cX7_word 238 = .ok (.aload_n 0, 1) := by decide +kernel
theorem dX7_word_239 : decode cX7_word 239 = .ok (.getfield 189, 3) := by decide +kernel
theorem dX7_word_242 : decode cX7_word 242 = .ok (.iload_n 1, 1) := by decide +kernel
theorem dX7_word_243 : decode cX7_word 243 = .ok (.iastore, 1) := by decide +kernel
theorem dX7_word_244 : decode cX7_word 244 = .ok (.aload_n 0, 1) := by decide +kernel
theorem dX7_word_245 : decode cX7_word 245 = .ok (.dup, 1) := by decide +kernel
theorem dX7_word_246 : decode cX7_word 246 = .ok (.getfield 189, 3) := by decide +kernel
theorem dX7_word_249 : decode cX7_word 249 = .ok (.iconst 1, 1) := by decide +kernel
theorem dX7_word_250 : decode cX7_word 250 = .ok (.iadd, 1) := by decide +kernel
theorem dX7_word_251 : decode cX7_word 251 = .ok (.putfield 189, 3) := by decide +kernel
theorem dX7_word_254 : decode cX7_word 254 = .ok (.aload_n 0, 1) := by decide +kernel
theorem dX7_word_255 : decode cX7_word 255 = .ok (.getfield 189, 3) := by decide +kernel
theorem dX7_word_258 : decode cX7_word 258 = .ok (.iconst 1, 1) := by decide +kernel
theorem dX7_word_259 : decode cX7_word 259 = .ok (.isub, 1) := by decide +kernel
theorem dX7_word_260 : decode cX7_word 260 = .ok (.ireturn, 1) := by decide +kernel
theorem dX7_strange_0 : decode cX7_strange 0 = .ok (.iload_n 1, 1) := by decide +kernel
theorem dX7_strange_1 : decode cX7_strange 1 = .ok (.iconst 1, 1) := by decide +kernel
theorem dX7_strange_2 : decode cX7_strange 2 = .ok (.sipush 1000, 3) := by decide +kernel
theorem dX7_strange_5 : decode cX7_strange 5 = .ok (.invokestatic 85, 3) := by decide +kernel
theorem dX7_strange_8 : decode cX7_strange 8 = .ok (.ifCond .ne 5, 3) := by decide +kernel
theorem dX7_strange_11 : decode cX7_strange 11 = .ok (.iconst (-1), 1) := by decide +kernel
theorem dX7_strange_12 : decode cX7_strange 12 = .ok (.ireturn, 1) := by decide +kernel
theorem dX7_strange_13 : decode cX7_strange 13 = .ok (.aload_n 0, 1) := by decide +kernel
theorem dX7_strange_14 : decode cX7_strange 14 = .ok (.getfield 25, 3) := by decide +kernel
theorem dX7_strange_17 : decode cX7_strange 17 = .ok (.istore_n 2, 1) := by decide +kernel
theorem dX7_strange_18 : decode cX7_strange 18 = .ok (.aload_n 0, 1) := by decide +kernel
theorem dX7_strange_19 : decode cX7_strange 19 = .ok (.iload_n 1, 1) := by decide +kernel
theorem dX7_strange_20 : decode cX7_strange 20 = .ok (.putfield 25, 3) := by decide +kernel
theorem dX7_strange_23 : decode cX7_strange 23 = .ok (.iload_n 2, 1) := by decide +kernel
theorem dX7_strange_24 : decode cX7_strange 24 = .ok (.ireturn, 1) := by decide +kernel
theorem dX7_wordAt_0 : decode cX7_wordAt 0 = .ok (.iconst 0, 1) := by decide +kernel
theorem dX7_wordAt_1 : decode cX7_wordAt 1 = .ok (.istore 4, 2) := by decide +kernel
theorem dX7_wordAt_3 : decode cX7_wordAt 3 = .ok (.iload 4, 2) := by decide +kernel
theorem dX7_wordAt_5 : decode cX7_wordAt 5 = .ok (.aload_n 0, 1) := by decide +kernel
theorem dX7_wordAt_6 : decode cX7_wordAt 6 = .ok (.getfield 189, 3) := by decide +kernel
theorem dX7_wordAt_9 : decode cX7_wordAt 9 = .ok (.if_icmp .ge 94, 3) := by decide +kernel
theorem dX7_wordAt_12 : decode cX7_wordAt 12 = .ok (.aload_n 0, 1) := by decide +kernel
theorem dX7_wordAt_13 : decode cX7_wordAt 13 = .ok (.getfield 19, 3) := by decide +kernel
theorem dX7_wordAt_16 : decode cX7_wordAt 16 = .ok (.iload 4, 2) := by decide +kernel
theorem dX7_wordAt_18 : decode cX7_wordAt 18 = .ok (.iaload, 1) := by decide +kernel
theorem dX7_wordAt_19 : decode cX7_wordAt 19 = .ok (.iload_n 2, 1) := by decide +kernel
theorem dX7_wordAt_20 : decode cX7_wordAt 20 = .ok (.if_icmp .ne 14, 3) := by decide +kernel
theorem dX7_wordAt_23 : decode cX7_wordAt 23 = .ok (.iload_n 1, 1) := by decide +kernel
theorem dX7_wordAt_24 : decode cX7_wordAt 24 = .ok (.iload_n 2, 1) := by decide +kernel
theorem dX7_wordAt_25 : decode cX7_wordAt 25 = .ok (.iadd, 1) := by decide +kernel
theorem dX7_wordAt_26 : decode cX7_wordAt 26 = .ok (.iload_n 3, 1) := by decide +kernel
theorem dX7_wordAt_27 : decode cX7_wordAt 27 = .ok (.if_icmp .gt 7, 3) := by decide +kernel
theorem dX7_wordAt_30 : decode cX7_wordAt 30 = .ok (.iconst 1, 1) := by decide +kernel
theorem dX7_wordAt_31 : decode cX7_wordAt 31 = .ok (.goto 4, 3) := by decide +kernel
theorem dX7_wordAt_34 : decode cX7_wordAt 34 = .ok (.iconst 0, 1) := by decide +kernel
theorem dX7_wordAt_35 : decode cX7_wordAt 35 = .ok (.istore 5, 2) := by decide +kernel
theorem dX7_wordAt_37 : decode cX7_wordAt 37 = .ok (.iconst 0, 1) := by decide +kernel
theorem dX7_wordAt_38 : decode cX7_wordAt 38 = .ok (.istore 6, 2) := by decide +kernel
theorem dX7_wordAt_40 : decode cX7_wordAt 40 = .ok (.iload 6, 2) := by decide +kernel
theorem dX7_wordAt_42 : decode cX7_wordAt 42 = .ok (.iload_n 2, 1) := by decide +kernel
theorem dX7_wordAt_43 : decode cX7_wordAt 43 = .ok (.if_icmp .ge 46, 3) := by decide +kernel
theorem dX7_wordAt_46 : decode cX7_wordAt 46 = .ok (.iload 5, 2) := by decide +kernel
theorem dX7_wordAt_48 : decode cX7_wordAt 48 = .ok (.ifCond .eq 41, 3) := by decide +kernel
theorem dX7_wordAt_51 : decode cX7_wordAt 51 = .ok (.aload_n 0, 1) := by decide +kernel
theorem dX7_wordAt_52 : decode cX7_wordAt 52 = .ok (.getfield 16, 3) := by decide +kernel
theorem dX7_wordAt_55 : decode cX7_wordAt 55 = .ok (.bipush 12, 2) := by decide +kernel
theorem dX7_wordAt_57 : decode cX7_wordAt 57 = .ok (.iload 4, 2) := by decide +kernel
theorem dX7_wordAt_59 : decode cX7_wordAt 59 = .ok (.imul, 1) := by decide +kernel
theorem dX7_wordAt_60 : decode cX7_wordAt 60 = .ok (.iload 6, 2) := by decide +kernel
theorem dX7_wordAt_62 : decode cX7_wordAt 62 = .ok (.iadd, 1) := by decide +kernel
theorem dX7_wordAt_63 : decode cX7_wordAt 63 = .ok (.iaload, 1) := by decide +kernel
theorem dX7_wordAt_64 : decode cX7_wordAt 64 = .ok (.aload_n 0, 1) := by decide +kernel
theorem dX7_wordAt_65 : decode cX7_wordAt 65 = .ok (.getfield 13, 3) := by decide +kernel
theorem dX7_wordAt_68 : decode cX7_wordAt 68 = .ok (.iload_n 1, 1) := by decide +kernel
theorem dX7_wordAt_69 : decode cX7_wordAt 69 = .ok (.iload 6, 2) := by decide +kernel
theorem dX7_wordAt_71 : decode cX7_wordAt 71 = .ok (.iadd, 1) := by decide +kernel
theorem dX7_wordAt_72 : decode cX7_wordAt 72 = .ok (.iaload, 1) := by decide +kernel
theorem dX7_wordAt_73 : decode cX7_wordAt 73 = .ok (.if_icmp .ne 7, 3) := by decide +kernel
theorem dX7_wordAt_76 : decode cX7_wordAt 76 = .ok (.iconst 1, 1) := by decide +kernel
theorem dX7_wordAt_77 : decode cX7_wordAt 77 = .ok (.goto 4, 3) := by decide +kernel
theorem dX7_wordAt_80 : decode cX7_wordAt 80 = .ok (.iconst 0, 1) := by decide +kernel
theorem dX7_wordAt_81 : decode cX7_wordAt 81 = .ok (.istore 5, 2) := by decide +kernel
theorem dX7_wordAt_83 : decode cX7_wordAt 83 = .ok (.iinc 6 1, 3) := by decide +kernel
theorem dX7_wordAt_86 : decode cX7_wordAt 86 = .ok (.goto (-46), 3) := by decide +kernel
theorem dX7_wordAt_89 : decode cX7_wordAt 89 = .ok (.iload 5, 2) := by decide +kernel
theorem dX7_wordAt_91 : decode cX7_wordAt 91 = .ok (.ifCond .eq 6, 3) := by decide +kernel
theorem dX7_wordAt_94 : decode cX7_wordAt 94 = .ok (.iload 4, 2) := by decide +kernel
theorem dX7_wordAt_96 : decode cX7_wordAt 96 = .ok (.ireturn, 1) := by decide +kernel
theorem dX7_wordAt_97 : decode cX7_wordAt 97 = .ok (.iinc 4 1, 3) := by decide +kernel
theorem dX7_wordAt_100 : decode cX7_wordAt 100 = .ok (.goto (-97), 3) := by decide +kernel
theorem dX7_wordAt_103 : decode cX7_wordAt 103 = .ok (.bipush (-2), 2) := by decide +kernel
theorem dX7_wordAt_105 : decode cX7_wordAt 105 = .ok (.ireturn, 1) := by decide +kernel
theorem dX7_ways_0 : decode cX7_ways 0 = .ok (.aload_n 0, 1) := by decide +kernel
theorem dX7_ways_1 : decode cX7_ways 1 = .ok (.getfield 76, 3) := by decide +kernel
theorem dX7_ways_4 : decode cX7_ways 4 = .ok (.iload_n 2, 1) := by decide +kernel
theorem dX7_ways_5 : decode cX7_ways 5 = .ok (.iconst 0, 1) := by decide +kernel
theorem dX7_ways_6 : decode cX7_ways 6 = .ok (.iastore, 1) := by decide +kernel
theorem dX7_ways_7 : decode cX7_ways 7 = .ok (.aload_n 0, 1) := by decide +kernel
theorem dX7_ways_8 : decode cX7_ways 8 = .ok (.getfield 79, 3) := by decide +kernel
theorem dX7_ways_11 : decode cX7_ways 11 = .ok (.iload_n 2, 1) := by decide +kernel
theorem dX7_ways_12 : decode cX7_ways 12 = .ok (.iconst 0, 1) := by decide +kernel
theorem dX7_ways_13 : decode cX7_ways 13 = .ok (.iastore, 1) := by decide +kernel
theorem dX7_ways_14 : decode cX7_ways 14 = .ok (.iload_n 2, 1) := by decide +kernel
theorem dX7_ways_15 : decode cX7_ways 15 = .ok (.iconst 1, 1) := by decide +kernel
theorem dX7_ways_16 : decode cX7_ways 16 = .ok (.isub, 1) := by decide +kernel
theorem dX7_ways_17 : decode cX7_ways 17 = .ok (.istore_n 3, 1) := by decide +kernel
theorem dX7_ways_18 : decode cX7_ways 18 = .ok (.iload_n 3, 1) := by decide +kernel
theorem dX7_ways_19 : decode cX7_ways 19 = .ok (.iload_n 1, 1) := by decide +kernel
theorem dX7_ways_20 : decode cX7_ways 20 = .ok (.if_icmp .lt 198, 3) := by decide +kernel
theorem dX7_ways_23 : decode cX7_ways 23 = .ok (.aload_n 0, 1) := by decide +kernel
theorem dX7_ways_24 : decode cX7_ways 24 = .ok (.getfield 82, 3) := by decide +kernel
theorem dX7_ways_27 : decode cX7_ways 27 = .ok (.iload_n 3, 1) := by decide +kernel
theorem dX7_ways_28 : decode cX7_ways 28 = .ok (.iconst 0, 1) := by decide +kernel
theorem dX7_ways_29 : decode cX7_ways 29 = .ok (.iastore, 1) := by decide +kernel
theorem dX7_ways_30 : decode cX7_ways 30 = .ok (.bipush 12, 2) := by decide +kernel
theorem dX7_ways_32 : decode cX7_ways 32 = .ok (.istore 4, 2) := by decide +kernel
theorem dX7_ways_34 : decode cX7_ways 34 = .ok (.iload 4, 2) := by decide +kernel
theorem dX7_ways_36 : decode cX7_ways 36 = .ok (.iconst 1, 1) := by decide +kernel
theorem dX7_ways_37 : decode cX7_ways 37 = .ok (.if_icmp .lt 175, 3) := by decide +kernel
theorem dX7_ways_40 : decode cX7_ways 40 = .ok (.aload_n 0, 1) := by decide +kernel
theorem dX7_ways_41 : decode cX7_ways 41 = .ok (.iload_n 3, 1) := by decide +kernel
theorem dX7_ways_42 : decode cX7_ways 42 = .ok (.iload 4, 2) := by decide +kernel
theorem dX7_ways_44 : decode cX7_ways 44 = .ok (.iload_n 2, 1) := by decide +kernel
theorem dX7_ways_45 : decode cX7_ways 45 = .ok (.invokevirtual 192, 3) := by decide +kernel
theorem dX7_ways_48 : decode cX7_ways 48 = .ok (.istore 5, 2) := by decide +kernel
theorem dX7_ways_50 : decode cX7_ways 50 = .ok (.iload 5, 2) := by decide +kernel
theorem dX7_ways_52 : decode cX7_ways 52 = .ok (.bipush (-2), 2) := by decide +kernel
theorem dX7_ways_54 : decode cX7_ways 54 = .ok (.if_icmp .ne 10, 3) := by decide +kernel
theorem dX7_ways_57 : decode cX7_ways 57 = .ok (.aload_n 0, 1) := by decide +kernel
theorem dX7_ways_58 : decode cX7_ways 58 = .ok (.getfield 25, 3) := by decide +kernel
theorem dX7_ways_61 : decode cX7_ways 61 = .ok (.goto 37, 3) := by decide +kernel
theorem dX7_ways_64 : decode cX7_ways 64 = .ok (.iload 4, 2) := by decide +kernel
theorem dX7_ways_66 : decode cX7_ways 66 = .ok (.iconst 1, 1) := by decide +kernel
theorem dX7_ways_67 : decode cX7_ways 67 = .ok (.if_icmp .gt 17, 3) := by decide +kernel
theorem dX7_ways_70 : decode cX7_ways 70 = .ok (.aload_n 0, 1) := by decide +kernel
theorem dX7_ways_71 : decode cX7_ways 71 = .ok (.getfield 22, 3) := by decide +kernel
theorem dX7_ways_74 : decode cX7_ways 74 = .ok (.iload 5, 2) := by decide +kernel
theorem dX7_ways_76 : decode cX7_ways 76 = .ok (.iaload, 1) := by decide +kernel
theorem dX7_ways_77 : decode cX7_ways 77 = .ok (.aload_n 0, 1) := by decide +kernel
theorem dX7_ways_78 : decode cX7_ways 78 = .ok (.getfield 25, 3) := by decide +kernel
theorem dX7_ways_81 : decode cX7_ways 81 = .ok (.if_icmp .ge 13, 3) := by decide +kernel
theorem dX7_ways_84 : decode cX7_ways 84 = .ok (.aload_n 0, 1) := by decide +kernel
theorem dX7_ways_85 : decode cX7_ways 85 = .ok (.getfield 22, 3) := by decide +kernel
theorem dX7_ways_88 : decode cX7_ways 88 = .ok (.iload 5, 2) := by decide +kernel
theorem dX7_ways_90 : decode cX7_ways 90 = .ok (.iaload, 1) := by decide +kernel
theorem dX7_ways_91 : decode cX7_ways 91 = .ok (.goto 7, 3) := by decide +kernel
theorem dX7_ways_94 : decode cX7_ways 94 = .ok (.aload_n 0, 1) := by decide +kernel
theorem dX7_ways_95 : decode cX7_ways 95 = .ok (.getfield 25, 3) := by decide +kernel
theorem dX7_ways_98 : decode cX7_ways 98 = .ok (.istore 6, 2) := by decide +kernel
theorem dX7_ways_100 : decode cX7_ways 100 = .ok (.iload 5, 2) := by decide +kernel
theorem dX7_ways_102 : decode cX7_ways 102 = .ok (.bipush (-2), 2) := by decide +kernel
theorem dX7_ways_104 : decode cX7_ways 104 = .ok (.if_icmp .ne 9, 3) := by decide +kernel
theorem dX7_ways_107 : decode cX7_ways 107 = .ok (.iload 4, 2) := by decide +kernel
theorem dX7_ways_109 : decode cX7_ways 109 = .ok (.iconst 1, 1) := by decide +kernel
theorem dX7_ways_110 : decode cX7_ways 110 = .ok (.if_icmp .ne 96, 3) := by decide +kernel
theorem dX7_ways_113 : decode cX7_ways 113 = .ok (.iload 6, 2) := by decide +kernel
theorem dX7_ways_115 : decode cX7_ways 115 = .ok (.aload_n 0, 1) := by decide +kernel
theorem dX7_ways_116 : decode cX7_ways 116 = .ok (.getfield 76, 3) := by decide +kernel
theorem dX7_ways_119 : decode cX7_ways 119 = .ok (.iload_n 3, 1) := by decide +kernel
theorem dX7_ways_120 : decode cX7_ways 120 = .ok (.iload 4, 2) := by decide +kernel
theorem dX7_ways_122 : decode cX7_ways 122 = .ok (.iadd, 1) := by decide +kernel
theorem dX7_ways_123 : decode cX7_ways 123 = .ok (.iaload, 1) := by decide +kernel
theorem dX7_ways_124 : decode cX7_ways 124 = .ok (.iadd, 1) := by decide +kernel
theorem dX7_ways_125 : decode cX7_ways 125 = .ok (.istore 6, 2) := by decide +kernel
theorem dX7_ways_127 : decode cX7_ways 127 = .ok (.iconst 1, 1) := by decide +kernel
theorem dX7_ways_128 : decode cX7_ways 128 = .ok (.aload_n 0, 1) := by decide +kernel
theorem dX7_ways_129 : decode cX7_ways 129 = .ok (.getfield 79, 3) := by decide +kernel
theorem dX7_ways_132 : decode cX7_ways 132 = .ok (.iload_n 3, 1) := by decide +kernel
theorem dX7_ways_133 : decode cX7_ways 133 = .ok (.iload 4, 2) := by decide +kernel
theorem dX7_ways_135 : decode cX7_ways 135 = .ok (.iadd, 1) := by decide +kernel
theorem dX7_ways_136 : decode cX7_ways 136 = .ok (.iaload, 1) := by decide +kernel
theorem dX7_ways_137 : decode cX7_ways 137 = .ok (.iadd, 1) := by decide +kernel
theorem dX7_ways_138 : decode cX7_ways 138 = .ok (.istore 7, 2) := by decide +kernel
theorem dX7_ways_140 : decode cX7_ways 140 = .ok (.aload_n 0, 1) := by decide +kernel
theorem dX7_ways_141 : decode cX7_ways 141 = .ok (.getfield 82, 3) := by decide +kernel
theorem dX7_ways_144 : decode cX7_ways 144 = .ok (.iload_n 3, 1) := by decide +kernel
theorem dX7_ways_145 : decode cX7_ways 145 = .ok (.iaload, 1) := by decide +kernel
theorem dX7_ways_146 : decode cX7_ways 146 = .ok (.ifCond .eq 36, 3) := by decide +kernel
theorem dX7_ways_149 : decode cX7_ways 149 = .ok (.iload 6, 2) := by decide +kernel
theorem dX7_ways_151 : decode cX7_ways 151 = .ok (.aload_n 0, 1) := by decide +kernel
theorem dX7_ways_152 : decode cX7_ways 152 = .ok (.getfield 76, 3) := by decide +kernel
theorem dX7_ways_155 : decode cX7_ways 155 = .ok (.iload_n 3, 1) := by decide +kernel
theorem dX7_ways_156 : decode cX7_ways 156 = .ok (.iaload, 1) := by decide +kernel
theorem dX7_ways_157 : decode cX7_ways 157 = .ok (.if_icmp .lt 25, 3) := by decide +kernel
theorem dX7_ways_160 : decode cX7_ways 160 = .ok (.iload 6, 2) := by decide +kernel
theorem dX7_ways_162 : decode cX7_ways 162 = .ok (.aload_n 0, 1) := by decide +kernel
theorem dX7_ways_163 : decode cX7_ways 163 = .ok (.getfield 76, 3) := by decide +kernel
theorem dX7_ways_166 : decode cX7_ways 166 = .ok (.iload_n 3, 1) := by decide +kernel
theorem dX7_ways_167 : decode cX7_ways 167 = .ok (.iaload, 1) := by decide +kernel
theorem dX7_ways_168 : decode cX7_ways 168 = .ok (.if_icmp .ne 38, 3) := by decide +kernel
theorem dX7_ways_171 : decode cX7_ways 171 = .ok (.iload 7, 2) := by decide +kernel
theorem dX7_ways_173 : decode cX7_ways 173 = .ok (.aload_n 0, 1) := by decide +kernel
theorem dX7_ways_174 : decode cX7_ways 174 = .ok (.getfield 79, 3) := by decide +kernel
theorem dX7_ways_177 : decode cX7_ways 177 = .ok (.iload_n 3, 1) := by decide +kernel
theorem dX7_ways_178 : decode cX7_ways 178 = .ok (.iaload, 1) := by decide +kernel
theorem dX7_ways_179 : decode cX7_ways 179 = .ok (.if_icmp .ge 27, 3) := by decide +kernel
theorem dX7_ways_182 : decode cX7_ways 182 = .ok (.aload_n 0, 1) := by decide +kernel
theorem dX7_ways_183 : decode cX7_ways 183 = .ok (.getfield 76, 3) := by decide +kernel
theorem dX7_ways_186 : decode cX7_ways 186 = .ok (.iload_n 3, 1) := by decide +kernel
theorem dX7_ways_187 : decode cX7_ways 187 = .ok (.iload 6, 2) := by decide +kernel
theorem dX7_ways_189 : decode cX7_ways 189 = .ok (.iastore, 1) := by decide +kernel
theorem dX7_ways_190 : decode cX7_ways 190 = .ok (.aload_n 0, 1) := by decide +kernel
theorem dX7_ways_191 : decode cX7_ways 191 = .ok (.getfield 79, 3) := by decide +kernel
theorem dX7_ways_194 : decode cX7_ways 194 = .ok (.iload_n 3, 1) := by decide +kernel
theorem dX7_ways_195 : decode cX7_ways 195 = .ok (.iload 7, 2) := by decide +kernel
theorem dX7_ways_197 : decode cX7_ways 197 = .ok (.iastore, 1) := by decide +kernel
theorem dX7_ways_198 : decode cX7_ways 198 = .ok (.aload_n 0, 1) := by decide +kernel
theorem dX7_ways_199 : decode cX7_ways 199 = .ok (.getfield 82, 3) := by decide +kernel
theorem dX7_ways_202 : decode cX7_ways 202 = .ok (.iload_n 3, 1) := by decide +kernel
theorem dX7_ways_203 : decode cX7_ways 203 = .ok (.iload 4, 2) := by decide +kernel
theorem dX7_ways_205 : decode cX7_ways 205 = .ok (.iastore, 1) := by decide +kernel
theorem dX7_ways_206 : decode cX7_ways 206 = .ok (.iinc 4 (-1), 3) := by decide +kernel
theorem dX7_ways_209 : decode cX7_ways 209 = .ok (.goto (-175), 3) := by decide +kernel
theorem dX7_ways_212 : decode cX7_ways 212 = .ok (.iinc 3 (-1), 3) := by decide +kernel
theorem dX7_ways_215 : decode cX7_ways 215 = .ok (.goto (-197), 3) := by decide +kernel
theorem dX7_ways_218 : decode cX7_ways 218 = .ok (.return_, 1) := by decide +kernel
theorem dX7_isSolid_0 : decode cX7_isSolid 0 = .ok (.iload_n 1, 1) := by decide +kernel
theorem dX7_isSolid_1 : decode cX7_isSolid 1 = .ok (.iconst 0, 1) := by decide +kernel
theorem dX7_isSolid_2 : decode cX7_isSolid 2 = .ok (.aload_n 0, 1) := by decide +kernel
theorem dX7_isSolid_3 : decode cX7_isSolid 3 = .ok (.getfield 102, 3) := by decide +kernel
theorem dX7_isSolid_6 : decode cX7_isSolid 6 = .ok (.iconst 1, 1) := by decide +kernel
theorem dX7_isSolid_7 : decode cX7_isSolid 7 = .ok (.isub, 1) := by decide +kernel
theorem dX7_isSolid_8 : decode cX7_isSolid 8 = .ok (.invokestatic 85, 3) := by decide +kernel
theorem dX7_isSolid_11 : decode cX7_isSolid 11 = .ok (.ifCond .eq 19, 3) := by decide +kernel
theorem dX7_isSolid_14 : decode cX7_isSolid 14 = .ok (.aload_n 0, 1) := by decide +kernel
theorem dX7_isSolid_15 : decode cX7_isSolid 15 = .ok (.getfield 13, 3) := by decide +kernel
theorem dX7_isSolid_18 : decode cX7_isSolid 18 = .ok (.iload_n 1, 1) := by decide +kernel
theorem dX7_isSolid_19 : decode cX7_isSolid 19 = .ok (.iaload, 1) := by decide +kernel
theorem dX7_isSolid_20 : decode cX7_isSolid 20 = .ok (.invokestatic 96, 3) := by decide +kernel
theorem dX7_isSolid_23 : decode cX7_isSolid 23 = .ok (.ifCond .ne 7, 3) := by decide +kernel
theorem dX7_isSolid_26 : decode cX7_isSolid 26 = .ok (.iconst 1, 1) := by decide +kernel
theorem dX7_isSolid_27 : decode cX7_isSolid 27 = .ok (.goto 4, 3) := by decide +kernel
theorem dX7_isSolid_30 : decode cX7_isSolid 30 = .ok (.iconst 0, 1) := by decide +kernel
theorem dX7_isSolid_31 : decode cX7_isSolid 31 = .ok (.ireturn, 1) := by decide +kernel
theorem dX7_cost_0 : decode cX7_cost 0 = .ok (.iload_n 1, 1) := by decide +kernel
theorem dX7_cost_1 : decode cX7_cost 1 = .ok (.iconst 0, 1) := by decide +kernel
theorem dX7_cost_2 : decode cX7_cost 2 = .ok (.aload_n 0, 1) := by decide +kernel
theorem dX7_cost_3 : decode cX7_cost 3 = .ok (.getfield 102, 3) := by decide +kernel
theorem dX7_cost_6 : decode cX7_cost 6 = .ok (.iconst 1, 1) := by decide +kernel
theorem dX7_cost_7 : decode cX7_cost 7 = .ok (.isub, 1) := by decide +kernel
theorem dX7_cost_8 : decode cX7_cost 8 = .ok (.invokestatic 85, 3) := by decide +kernel
theorem dX7_cost_11 : decode cX7_cost 11 = .ok (.ifCond .ne 5, 3) := by decide +kernel
theorem dX7_cost_14 : decode cX7_cost 14 = .ok (.iconst (-1), 1) := by decide +kernel
theorem dX7_cost_15 : decode cX7_cost 15 = .ok (.ireturn, 1) := by decide +kernel
theorem dX7_cost_16 : decode cX7_cost 16 = .ok (.aload_n 0, 1) := by decide +kernel
theorem dX7_cost_17 : decode cX7_cost 17 = .ok (.getfield 13, 3) := by decide +kernel
theorem dX7_cost_20 : decode cX7_cost 20 = .ok (.iload_n 1, 1) := by decide +kernel
theorem dX7_cost_21 : decode cX7_cost 21 = .ok (.iaload, 1) := by decide +kernel
theorem dX7_cost_22 : decode cX7_cost 22 = .ok (.invokestatic 96, 3) := by decide +kernel
theorem dX7_cost_25 : decode cX7_cost 25 = .ok (.ifCond .eq 6, 3) := by decide +kernel
theorem dX7_cost_28 : decode cX7_cost 28 = .ok (.bipush (-2), 2) := by decide +kernel
theorem dX7_cost_30 : decode cX7_cost 30 = .ok (.ireturn, 1) := by decide +kernel
theorem dX7_cost_31 : decode cX7_cost 31 = .ok (.iload_n 1, 1) := by decide +kernel
theorem dX7_cost_32 : decode cX7_cost 32 = .ok (.istore_n 2, 1) := by decide +kernel
theorem dX7_cost_33 : decode cX7_cost 33 = .ok (.aload_n 0, 1) := by decide +kernel
theorem dX7_cost_34 : decode cX7_cost 34 = .ok (.iload_n 2, 1) := by decide +kernel
theorem dX7_cost_35 : decode cX7_cost 35 = .ok (.iconst 1, 1) := by decide +kernel
theorem dX7_cost_36 : decode cX7_cost 36 = .ok (.isub, 1) := by decide +kernel
theorem dX7_cost_37 : decode cX7_cost 37 = .ok (.invokevirtual 196, 3) := by decide +kernel
theorem dX7_cost_40 : decode cX7_cost 40 = .ok (.ifCond .eq 9, 3) := by decide +kernel
theorem dX7_cost_43 : decode cX7_cost 43 = .ok (.iinc 2 (-1), 3) := by decide +kernel
theorem dX7_cost_46 : decode cX7_cost 46 = .ok (.goto (-13), 3) := by decide +kernel
theorem dX7_cost_49 : decode cX7_cost 49 = .ok (.iload_n 1, 1) := by decide +kernel
theorem dX7_cost_50 : decode cX7_cost 50 = .ok (.istore_n 3, 1) := by decide +kernel
theorem dX7_cost_51 : decode cX7_cost 51 = .ok (.aload_n 0, 1) := by decide +kernel
theorem dX7_cost_52 : decode cX7_cost 52 = .ok (.iload_n 3, 1) := by decide +kernel
theorem dX7_cost_53 : decode cX7_cost 53 = .ok (.invokevirtual 196, 3) := by decide +kernel
theorem dX7_cost_56 : decode cX7_cost 56 = .ok (.ifCond .eq 9, 3) := by decide +kernel
theorem dX7_cost_59 : decode cX7_cost 59 = .ok (.iinc 3 1, 3) := by decide +kernel
theorem dX7_cost_62 : decode cX7_cost 62 = .ok (.goto (-11), 3) := by decide +kernel
theorem dX7_cost_65 : decode cX7_cost 65 = .ok (.aload_n 0, 1) := by decide +kernel
theorem dX7_cost_66 : decode cX7_cost 66 = .ok (.iload_n 2, 1) := by decide +kernel
theorem dX7_cost_67 : decode cX7_cost 67 = .ok (.iload_n 3, 1) := by decide +kernel
theorem dX7_cost_68 : decode cX7_cost 68 = .ok (.invokevirtual 199, 3) := by decide +kernel
theorem dX7_cost_71 : decode cX7_cost 71 = .ok (.aload_n 0, 1) := by decide +kernel
theorem dX7_cost_72 : decode cX7_cost 72 = .ok (.getfield 76, 3) := by decide +kernel
theorem dX7_cost_75 : decode cX7_cost 75 = .ok (.iload_n 2, 1) := by decide +kernel
theorem dX7_cost_76 : decode cX7_cost 76 = .ok (.iaload, 1) := by decide +kernel
theorem dX7_cost_77 : decode cX7_cost 77 = .ok (.ireturn, 1) := by decide +kernel
theorem dX7_links_0 : decode cX7_links 0 = .ok (.aload_n 0, 1) := by decide +kernel
theorem dX7_links_1 : decode cX7_links 1 = .ok (.getfield 202, 3) := by decide +kernel
theorem dX7_links_4 : decode cX7_links 4 = .ok (.ifCond .eq 7, 3) := by decide +kernel
theorem dX7_links_7 : decode cX7_links 7 = .ok (.iconst 1, 1) := by decide +kernel
theorem dX7_links_8 : decode cX7_links 8 = .ok (.goto 4, 3) := by decide +kernel
theorem dX7_links_11 : decode cX7_links 11 = .ok (.iconst 0, 1) := by decide +kernel
theorem dX7_links_12 : decode cX7_links 12 = .ok (.istore_n 2, 1) := by decide +kernel
theorem dX7_links_13 : decode cX7_links 13 = .ok (.aload_n 0, 1) := by decide +kernel
theorem dX7_links_14 : decode cX7_links 14 = .ok (.iload_n 1, 1) := by decide +kernel
theorem dX7_links_15 : decode cX7_links 15 = .ok (.putfield 202, 3) := by decide +kernel
theorem dX7_links_18 : decode cX7_links 18 = .ok (.iload_n 2, 1) := by decide +kernel
theorem dX7_links_19 : decode cX7_links 19 = .ok (.ireturn, 1) := by decide +kernel
theorem dX7_longest_0 : decode cX7_longest 0 = .ok (.iload_n 1, 1) := by decide +kernel
theorem dX7_longest_1 : decode cX7_longest 1 = .ok (.iconst 1, 1) := by decide +kernel
theorem dX7_longest_2 : decode cX7_longest 2 = .ok (.sipush 300, 3) := by decide +kernel
theorem dX7_longest_5 : decode cX7_longest 5 = .ok (.invokestatic 85, 3) := by decide +kernel
theorem dX7_longest_8 : decode cX7_longest 8 = .ok (.ifCond .eq 12, 3) := by decide +kernel
theorem dX7_longest_11 : decode cX7_longest 11 = .ok (.iload_n 2, 1) := by decide +kernel
theorem dX7_longest_12 : decode cX7_longest 12 = .ok (.iconst 0, 1) := by decide +kernel
theorem dX7_longest_13 : decode cX7_longest 13 = .ok (.iconst 1, 1) := by decide +kernel
theorem dX7_longest_14 : decode cX7_longest 14 = .ok (.invokestatic 85, 3) := by decide +kernel
theorem dX7_longest_17 : decode cX7_longest 17 = .ok (.ifCond .ne 5, 3) := by decide +kernel
theorem dX7_longest_20 : decode cX7_longest 20 = .ok (.iconst (-1), 1) := by decide +kernel
theorem dX7_longest_21 : decode cX7_longest 21 = .ok (.ireturn, 1) := by decide +kernel
theorem dX7_longest_22 : decode cX7_longest 22 = .ok (.aload_n 0, 1) := by decide +kernel
theorem dX7_longest_23 : decode cX7_longest 23 = .ok (.getfield 29, 3) := by decide +kernel
theorem dX7_longest_26 : decode cX7_longest 26 = .ok (.istore_n 3, 1) := by decide +kernel
theorem dX7_longest_27 : decode cX7_longest 27 = .ok (.aload_n 0, 1) := by decide +kernel
theorem dX7_longest_28 : decode cX7_longest 28 = .ok (.iload_n 1, 1) := by decide +kernel
theorem dX7_longest_29 : decode cX7_longest 29 = .ok (.putfield 29, 3) := by decide +kernel
theorem dX7_longest_32 : decode cX7_longest 32 = .ok (.aload_n 0, 1) := by decide +kernel
theorem dX7_longest_33 : decode cX7_longest 33 = .ok (.iload_n 2, 1) := by decide +kernel
theorem dX7_longest_34 : decode cX7_longest 34 = .ok (.putfield 205, 3) := by decide +kernel
theorem dX7_longest_37 : decode cX7_longest 37 = .ok (.iload_n 3, 1) := by decide +kernel
theorem dX7_longest_38 : decode cX7_longest 38 = .ok (.ireturn, 1) := by decide +kernel
theorem dX7_lays_0 : decode cX7_lays 0 = .ok (.aload_n 0, 1) := by decide +kernel
theorem dX7_lays_1 : decode cX7_lays 1 = .ok (.getfield 105, 3) := by decide +kernel
theorem dX7_lays_4 : decode cX7_lays 4 = .ok (.sipush 400, 3) := by decide +kernel
theorem dX7_lays_7 : decode cX7_lays 7 = .ok (.if_icmp .ne 9, 3) := by decide +kernel
theorem dX7_lays_10 : decode cX7_lays 10 = .ok (.aload_n 0, 1) := by decide +kernel
theorem dX7_lays_11 : decode cX7_lays 11 = .ok (.iconst 1, 1) := by decide +kernel
theorem dX7_lays_12 : decode cX7_lays 12 = .ok (.putfield 208, 3) := by decide +kernel
theorem dX7_lays_15 : decode cX7_lays 15 = .ok (.return_, 1) := by decide +kernel
theorem dX7_lays_16 : decode cX7_lays 16 = .ok (.aload_n 0, 1) := by decide +kernel
theorem dX7_lays_17 : decode cX7_lays 17 = .ok (.getfield 32, 3) := by decide +kernel
theorem dX7_lays_20 : decode cX7_lays 20 = .ok (.aload_n 0, 1) := by decide +kernel
theorem dX7_lays_21 : decode cX7_lays 21 = .ok (.getfield 105, 3) := by decide +kernel
theorem dX7_lays_24 : decode cX7_lays 24 = .ok (.iload_n 1, 1) := by decide +kernel
theorem dX7_lays_25 : decode cX7_lays 25 = .ok (.iastore, 1) := by decide +kernel
theorem dX7_lays_26 : decode cX7_lays 26 = .ok (.aload_n 0, 1) := by decide +kernel
theorem dX7_lays_27 : decode cX7_lays 27 = .ok (.getfield 35, 3) := by decide +kernel
theorem dX7_lays_30 : decode cX7_lays 30 = .ok (.aload_n 0, 1) := by decide +kernel
theorem dX7_lays_31 : decode cX7_lays 31 = .ok (.getfield 105, 3) := by decide +kernel
theorem dX7_lays_34 : decode cX7_lays 34 = .ok (.iload_n 2, 1) := by decide +kernel
theorem dX7_lays_35 : decode cX7_lays 35 = .ok (.iastore, 1) := by decide +kernel
theorem dX7_lays_36 : decode cX7_lays 36 = .ok (.aload_n 0, 1) := by decide +kernel
theorem dX7_lays_37 : decode cX7_lays 37 = .ok (.getfield 38, 3) := by decide +kernel
theorem dX7_lays_40 : decode cX7_lays 40 = .ok (.aload_n 0, 1) := by decide +kernel
theorem dX7_lays_41 : decode cX7_lays 41 = .ok (.getfield 105, 3) := by decide +kernel
theorem dX7_lays_44 : decode cX7_lays 44 = .ok (.iload_n 3, 1) := by decide +kernel
theorem dX7_lays_45 : decode cX7_lays 45 = .ok (.iastore, 1) := by decide +kernel
theorem dX7_lays_46 : decode cX7_lays 46 = .ok (.aload_n 0, 1) := by decide +kernel
theorem dX7_lays_47 : decode cX7_lays 47 = .ok (.dup, 1) := by decide +kernel
theorem dX7_lays_48 : decode cX7_lays 48 = .ok (.getfield 105, 3) := by decide +kernel
theorem dX7_lays_51 : decode cX7_lays 51 = .ok (.iconst 1, 1) := by decide +kernel
theorem dX7_lays_52 : decode cX7_lays 52 = .ok (.iadd, 1) := by decide +kernel
theorem dX7_lays_53 : decode cX7_lays 53 = .ok (.putfield 105, 3) := by decide +kernel
theorem dX7_lays_56 : decode cX7_lays 56 = .ok (.return_, 1) := by decide +kernel
theorem dX7_tokenOf_0 : decode cX7_tokenOf 0 = .ok (.aload_n 0, 1) := by decide +kernel
theorem dX7_tokenOf_1 : decode cX7_tokenOf 1 = .ok (.getfield 211, 3) := by decide +kernel
theorem dX7_tokenOf_4 : decode cX7_tokenOf 4 = .ok (.iconst 4, 1) := by decide +kernel
theorem dX7_tokenOf_5 : decode cX7_tokenOf 5 = .ok (.bipush 6, 2) := by decide +kernel
theorem dX7_tokenOf_7 : decode cX7_tokenOf 7 = .ok (.invokestatic 85, 3) := by decide +kernel
theorem dX7_tokenOf_10 : decode cX7_tokenOf 10 = .ok (.istore_n 3, 1) := by decide +kernel
theorem dX7_tokenOf_11 : decode cX7_tokenOf 11 = .ok (.aload_n 0, 1) := by decide +kernel
theorem dX7_tokenOf_12 : decode cX7_tokenOf 12 = .ok (.dup, 1) := by decide +kernel
theorem dX7_tokenOf_13 : decode cX7_tokenOf 13 = .ok (.getfield 214, 3) := by decide +kernel
theorem dX7_tokenOf_16 : decode cX7_tokenOf 16 = .ok (.iload_n 3, 1) := by decide +kernel
theorem dX7_tokenOf_17 : decode cX7_tokenOf 17 = .ok (.ifCond .eq 15, 3) := by decide +kernel
theorem dX7_tokenOf_20 : decode cX7_tokenOf 20 = .ok (.iload_n 1, 1) := by decide +kernel
theorem dX7_tokenOf_21 : decode cX7_tokenOf 21 = .ok (.aload_n 0, 1) := by decide +kernel
theorem dX7_tokenOf_22 : decode cX7_tokenOf 22 = .ok (.getfield 217, 3) := by decide +kernel
theorem dX7_tokenOf_25 : decode cX7_tokenOf 25 = .ok (.if_icmp .ne 7, 3) := by decide +kernel
theorem dX7_tokenOf_28 : decode cX7_tokenOf 28 = .ok (.iconst 0, 1) := by decide +kernel
theorem dX7_tokenOf_29 : decode cX7_tokenOf 29 = .ok (.goto 4, 3) := by decide +kernel
theorem dX7_tokenOf_32 : decode cX7_tokenOf 32 = .ok (.iconst 1, 1) := by decide +kernel
theorem dX7_tokenOf_33 : decode cX7_tokenOf 33 = .ok (.iadd, 1) := by decide +kernel
theorem dX7_tokenOf_34 : decode cX7_tokenOf 34 = .ok (.putfield 214, 3) := by decide +kernel
theorem dX7_tokenOf_37 : decode cX7_tokenOf 37 = .ok (.aload_n 0, 1) := by decide +kernel
theorem dX7_tokenOf_38 : decode cX7_tokenOf 38 = .ok (.iload_n 1, 1) := by decide +kernel
theorem dX7_tokenOf_39 : decode cX7_tokenOf 39 = .ok (.putfield 217, 3) := by decide +kernel
theorem dX7_tokenOf_42 : decode cX7_tokenOf 42 = .ok (.iload_n 2, 1) := by decide +kernel
theorem dX7_tokenOf_43 : decode cX7_tokenOf 43 = .ok (.iload_n 1, 1) := by decide +kernel
theorem dX7_tokenOf_44 : decode cX7_tokenOf 44 = .ok (.isub, 1) := by decide +kernel
theorem dX7_tokenOf_45 : decode cX7_tokenOf 45 = .ok (.aload_n 0, 1) := by decide +kernel
theorem dX7_tokenOf_46 : decode cX7_tokenOf 46 = .ok (.getfield 29, 3) := by decide +kernel
theorem dX7_tokenOf_49 : decode cX7_tokenOf 49 = .ok (.if_icmp .gt 16, 3) := by decide +kernel
theorem dX7_tokenOf_52 : decode cX7_tokenOf 52 = .ok (.aload_n 0, 1) := by decide +kernel
theorem dX7_tokenOf_53 : decode cX7_tokenOf 53 = .ok (.iload_n 1, 1) := by decide +kernel
theorem dX7_tokenOf_54 : decode cX7_tokenOf 54 = .ok (.iload_n 2, 1) := by decide +kernel
theorem dX7_tokenOf_55 : decode cX7_tokenOf 55 = .ok (.aload_n 0, 1) := by decide +kernel
theorem dX7_tokenOf_56 : decode cX7_tokenOf 56 = .ok (.getfield 214, 3) := by decide +kernel
theorem dX7_tokenOf_59 : decode cX7_tokenOf 59 = .ok (.invokevirtual 220, 3) := by decide +kernel
theorem dX7_tokenOf_62 : decode cX7_tokenOf 62 = .ok (.goto 87, 3) := by decide +kernel
theorem dX7_tokenOf_65 : decode cX7_tokenOf 65 = .ok (.aload_n 0, 1) := by decide +kernel
theorem dX7_tokenOf_66 : decode cX7_tokenOf 66 = .ok (.getfield 205, 3) := by decide +kernel
theorem dX7_tokenOf_69 : decode cX7_tokenOf 69 = .ok (.ifCond .ne 80, 3) := by decide +kernel
theorem dX7_tokenOf_72 : decode cX7_tokenOf 72 = .ok (.iload_n 1, 1) := by decide +kernel
theorem dX7_tokenOf_73 : decode cX7_tokenOf 73 = .ok (.istore 4, 2) := by decide +kernel
theorem dX7_tokenOf_75 : decode cX7_tokenOf 75 = .ok (.iload 4, 2) := by decide +kernel
theorem dX7_tokenOf_77 : decode cX7_tokenOf 77 = .ok (.iload_n 2, 1) := by decide +kernel
theorem dX7_tokenOf_78 : decode cX7_tokenOf 78 = .ok (.if_icmp .ge 71, 3) := by decide +kernel
theorem dX7_tokenOf_81 : decode cX7_tokenOf 81 = .ok (.aload_n 0, 1) := by decide +kernel
theorem dX7_tokenOf_82 : decode cX7_tokenOf 82 = .ok (.dup, 1) := by decide +kernel
theorem dX7_tokenOf_83 : decode cX7_tokenOf 83 = .ok (.getfield 214, 3) := by decide +kernel
theorem dX7_tokenOf_86 : decode cX7_tokenOf 86 = .ok (.iload 4, 2) := by decide +kernel
theorem dX7_tokenOf_88 : decode cX7_tokenOf 88 = .ok (.iload_n 1, 1) := by decide +kernel
theorem dX7_tokenOf_89 : decode cX7_tokenOf 89 = .ok (.if_icmp .le 11, 3) := by decide +kernel
theorem dX7_tokenOf_92 : decode cX7_tokenOf 92 = .ok (.iload_n 3, 1) := by decide +kernel
theorem dX7_tokenOf_93 : decode cX7_tokenOf 93 = .ok (.ifCond .ne 7, 3) := by decide +kernel
theorem dX7_tokenOf_96 : decode cX7_tokenOf 96 = .ok (.iconst 1, 1) := by decide +kernel
theorem dX7_tokenOf_97 : decode cX7_tokenOf 97 = .ok (.goto 4, 3) := by decide +kernel
theorem dX7_tokenOf_100 : decode cX7_tokenOf 100 = .ok (.iconst 0, 1) := by decide +kernel
theorem dX7_tokenOf_101 : decode cX7_tokenOf 101 = .ok (.iadd, 1) := by decide +kernel
theorem dX7_tokenOf_102 : decode cX7_tokenOf 102 = .ok (.putfield 214, 3) := by decide +kernel
theorem dX7_tokenOf_105 : decode cX7_tokenOf 105 = .ok (.aload_n 0, 1) := by decide +kernel
theorem dX7_tokenOf_106 : decode cX7_tokenOf 106 = .ok (.iload 4, 2) := by decide +kernel
theorem dX7_tokenOf_108 : decode cX7_tokenOf 108 = .ok (.iload 4, 2) := by decide +kernel
theorem dX7_tokenOf_110 : decode cX7_tokenOf 110 = .ok (.aload_n 0, 1) := by decide +kernel
theorem dX7_tokenOf_111 : decode cX7_tokenOf 111 = .ok (.getfield 29, 3) := by decide +kernel
theorem dX7_tokenOf_114 : decode cX7_tokenOf 114 = .ok (.iadd, 1) := by decide +kernel
theorem dX7_tokenOf_115 : decode cX7_tokenOf 115 = .ok (.iload_n 2, 1) := by decide +kernel
theorem dX7_tokenOf_116 : decode cX7_tokenOf 116 = .ok (.if_icmp .ge 13, 3) := by decide +kernel
theorem dX7_tokenOf_119 : decode cX7_tokenOf 119 = .ok (.iload 4, 2) := by decide +kernel
theorem dX7_tokenOf_121 : decode cX7_tokenOf 121 = .ok (.aload_n 0, 1) := by decide +kernel
theorem dX7_tokenOf_122 : decode cX7_tokenOf 122 = .ok (.getfield 29, 3) := by decide +kernel
theorem dX7_tokenOf_125 : decode cX7_tokenOf 125 = .ok (.iadd, 1) := by decide +kernel
theorem dX7_tokenOf_126 : decode cX7_tokenOf 126 = .ok (.goto 4, 3) := by decide +kernel
theorem dX7_tokenOf_129 : decode cX7_tokenOf 129 = .ok (.iload_n 2, 1) := by decide +kernel
theorem dX7_tokenOf_130 : decode cX7_tokenOf 130 = .ok (.aload_n 0, 1) := by decide +kernel
theorem dX7_tokenOf_131 : decode cX7_tokenOf 131 = .ok (.getfield 214, 3) := by decide +kernel
theorem dX7_tokenOf_134 : decode cX7_tokenOf 134 = .ok (.invokevirtual 220, 3) := by decide +kernel
theorem dX7_tokenOf_137 : decode cX7_tokenOf 137 = .ok (.iload 4, 2) := by decide +kernel
theorem dX7_tokenOf_139 : decode cX7_tokenOf 139 = .ok (.aload_n 0, 1) := by decide +kernel
theorem dX7_tokenOf_140 : decode cX7_tokenOf 140 = .ok (.getfield 29, 3) := by decide +kernel
theorem dX7_tokenOf_143 : decode cX7_tokenOf 143 = .ok (.iadd, 1) := by decide +kernel
theorem dX7_tokenOf_144 : decode cX7_tokenOf 144 = .ok (.istore 4, 2) := by decide +kernel
theorem dX7_tokenOf_146 : decode cX7_tokenOf 146 = .ok (.goto (-71), 3) := by decide +kernel
theorem dX7_tokenOf_149 : decode cX7_tokenOf 149 = .ok (.return_, 1) := by decide +kernel
theorem dX7_isOfWord_0 : decode cX7_isOfWord 0 = .ok (.aload_n 0, 1) := by decide +kernel
theorem dX7_isOfWord_1 : decode cX7_isOfWord 1 = .ok (.getfield 13, 3) := by decide +kernel
theorem dX7_isOfWord_4 : decode cX7_isOfWord 4 = .ok (.iload_n 1, 1) := by decide +kernel
theorem dX7_isOfWord_5 : decode cX7_isOfWord 5 = .ok (.iaload, 1) := by decide +kernel
theorem dX7_isOfWord_6 : decode cX7_isOfWord 6 = .ok (.istore_n 2, 1) := by decide +kernel
theorem dX7_isOfWord_7 : decode cX7_isOfWord 7 = .ok (.iload_n 1, 1) := by decide +kernel
theorem dX7_isOfWord_8 : decode cX7_isOfWord 8 = .ok (.ifCond .le 14, 3) := by decide +kernel
theorem dX7_isOfWord_11 : decode cX7_isOfWord 11 = .ok (.aload_n 0, 1) := by decide +kernel
theorem dX7_isOfWord_12 : decode cX7_isOfWord 12 = .ok (.getfield 13, 3) := by decide +kernel
theorem dX7_isOfWord_15 : decode cX7_isOfWord 15 = .ok (.iload_n 1, 1) := by decide +kernel
theorem dX7_isOfWord_16 : decode cX7_isOfWord 16 = .ok (.iconst 1, 1) := by decide +kernel
theorem dX7_isOfWord_17 : decode cX7_isOfWord 17 = .ok (.isub, 1) := by decide +kernel
theorem dX7_isOfWord_18 : decode cX7_isOfWord 18 = .ok (.iaload, 1) := by decide +kernel
theorem dX7_isOfWord_19 : decode cX7_isOfWord 19 = .ok (.goto 5, 3) := by decide +kernel
theorem dX7_isOfWord_22 : decode cX7_isOfWord 22 = .ok (.bipush 32, 2) := by decide +kernel
theorem dX7_isOfWord_24 : decode cX7_isOfWord 24 = .ok (.istore_n 3, 1) := by decide +kernel
theorem dX7_isOfWord_25 : decode cX7_isOfWord 25 = .ok (.iload_n 1, 1) := by decide +kernel
theorem dX7_isOfWord_26 : decode cX7_isOfWord 26 = .ok (.iconst 1, 1) := by decide +kernel
theorem dX7_isOfWord_27 : decode cX7_isOfWord 27 = .ok (.iadd, 1) := by decide +kernel
theorem dX7_isOfWord_28 : decode cX7_isOfWord 28 = .ok (.aload_n 0, 1) := by decide +kernel
theorem dX7_isOfWord_29 : decode cX7_isOfWord 29 = .ok (.getfield 102, 3) := by decide +kernel
theorem dX7_isOfWord_32 : decode cX7_isOfWord 32 = .ok (.if_icmp .ge 14, 3) := by decide +kernel
theorem dX7_isOfWord_35 : decode cX7_isOfWord 35 = .ok (.aload_n 0, 1) := by decide +kernel
theorem dX7_isOfWord_36 : decode cX7_isOfWord 36 = .ok (.getfield 13, 3) := by decide +kernel
theorem dX7_isOfWord_39 : decode cX7_isOfWord 39 = .ok (.iload_n 1, 1) := by decide +kernel
theorem dX7_isOfWord_40 : decode cX7_isOfWord 40 = .ok (.iconst 1, 1) := by decide +kernel
theorem dX7_isOfWord_41 : decode cX7_isOfWord 41 = .ok (.iadd, 1) := by decide +kernel
theorem dX7_isOfWord_42 : decode cX7_isOfWord 42 = .ok (.iaload, 1) := by decide +kernel
theorem dX7_isOfWord_43 : decode cX7_isOfWord 43 = .ok (.goto 5, 3) := by decide +kernel
theorem dX7_isOfWord_46 : decode cX7_isOfWord 46 = .ok (.bipush 32, 2) := by decide +kernel
theorem dX7_isOfWord_48 : decode cX7_isOfWord 48 = .ok (.istore 4, 2) := by decide +kernel
theorem dX7_isOfWord_50 : decode cX7_isOfWord 50 = .ok (.iload_n 2, 1) := by decide +kernel
theorem dX7_isOfWord_51 : decode cX7_isOfWord 51 = .ok (.bipush 39, 2) := by decide +kernel
theorem dX7_isOfWord_53 : decode cX7_isOfWord 53 = .ok (.if_icmp .eq 9, 3) := by decide +kernel
theorem dX7_isOfWord_56 : decode cX7_isOfWord 56 = .ok (.iload_n 2, 1) := by decide +kernel
theorem dX7_isOfWord_57 : decode cX7_isOfWord 57 = .ok (.bipush 46, 2) := by decide +kernel
theorem dX7_isOfWord_59 : decode cX7_isOfWord 59 = .ok (.if_icmp .ne 22, 3) := by decide +kernel
theorem dX7_isOfWord_62 : decode cX7_isOfWord 62 = .ok (.iload_n 3, 1) := by decide +kernel
theorem dX7_isOfWord_63 : decode cX7_isOfWord 63 = .ok (.invokestatic 89, 3) := by decide +kernel
theorem dX7_isOfWord_66 : decode cX7_isOfWord 66 = .ok (.ifCond .eq 15, 3) := by decide +kernel
theorem dX7_isOfWord_69 : decode cX7_isOfWord 69 = .ok (.iload 4, 2) := by decide +kernel
theorem dX7_isOfWord_71 : decode cX7_isOfWord 71 = .ok (.invokestatic 89, 3) := by decide +kernel
theorem dX7_isOfWord_74 : decode cX7_isOfWord 74 = .ok (.ifCond .eq 7, 3) := by decide +kernel
theorem dX7_isOfWord_77 : decode cX7_isOfWord 77 = .ok (.iconst 1, 1) := by decide +kernel
theorem dX7_isOfWord_78 : decode cX7_isOfWord 78 = .ok (.goto 4, 3) := by decide +kernel
theorem dX7_isOfWord_81 : decode cX7_isOfWord 81 = .ok (.iconst 0, 1) := by decide +kernel
theorem dX7_isOfWord_82 : decode cX7_isOfWord 82 = .ok (.istore 5, 2) := by decide +kernel
theorem dX7_isOfWord_84 : decode cX7_isOfWord 84 = .ok (.iload_n 2, 1) := by decide +kernel
theorem dX7_isOfWord_85 : decode cX7_isOfWord 85 = .ok (.bipush 44, 2) := by decide +kernel
theorem dX7_isOfWord_87 : decode cX7_isOfWord 87 = .ok (.if_icmp .eq 9, 3) := by decide +kernel
theorem dX7_isOfWord_90 : decode cX7_isOfWord 90 = .ok (.iload_n 2, 1) := by decide +kernel
theorem dX7_isOfWord_91 : decode cX7_isOfWord 91 = .ok (.bipush 46, 2) := by decide +kernel
theorem dX7_isOfWord_93 : decode cX7_isOfWord 93 = .ok (.if_icmp .ne 22, 3) := by decide +kernel
theorem dX7_isOfWord_96 : decode cX7_isOfWord 96 = .ok (.iload_n 3, 1) := by decide +kernel
theorem dX7_isOfWord_97 : decode cX7_isOfWord 97 = .ok (.invokestatic 93, 3) := by decide +kernel
theorem dX7_isOfWord_100 : decode cX7_isOfWord 100 = .ok (.ifCond .eq 15, 3) := by decide +kernel
theorem dX7_isOfWord_103 : decode cX7_isOfWord 103 = .ok (.iload 4, 2) := by decide +kernel
theorem dX7_isOfWord_105 : decode cX7_isOfWord 105 = .ok (.invokestatic 93, 3) := by decide +kernel
theorem dX7_isOfWord_108 : decode cX7_isOfWord 108 = .ok (.ifCond .eq 7, 3) := by decide +kernel
theorem dX7_isOfWord_111 : decode cX7_isOfWord 111 = .ok (.iconst 1, 1) := by decide +kernel
theorem dX7_isOfWord_112 : decode cX7_isOfWord 112 = .ok (.goto 4, 3) := by decide +kernel
theorem dX7_isOfWord_115 : decode cX7_isOfWord 115 = .ok (.iconst 0, 1) := by decide +kernel
theorem dX7_isOfWord_116 : decode cX7_isOfWord 116 = .ok (.istore 6, 2) := by decide +kernel
theorem dX7_isOfWord_118 : decode cX7_isOfWord 118 = .ok (.iload_n 2, 1) := by decide +kernel
theorem dX7_isOfWord_119 : decode cX7_isOfWord 119 = .ok (.invokestatic 89, 3) := by decide +kernel
theorem dX7_isOfWord_122 : decode cX7_isOfWord 122 = .ok (.ifCond .ne 26, 3) := by decide +kernel
theorem dX7_isOfWord_125 : decode cX7_isOfWord 125 = .ok (.iload_n 2, 1) := by decide +kernel
theorem dX7_isOfWord_126 : decode cX7_isOfWord 126 = .ok (.invokestatic 93, 3) := by decide +kernel
theorem dX7_isOfWord_129 : decode cX7_isOfWord 129 = .ok (.ifCond .ne 19, 3) := by decide +kernel
theorem dX7_isOfWord_132 : decode cX7_isOfWord 132 = .ok (.iload_n 2, 1) := by decide +kernel
theorem dX7_isOfWord_133 : decode cX7_isOfWord 133 = .ok (.bipush 95, 2) := by decide +kernel
theorem dX7_isOfWord_135 : decode cX7_isOfWord 135 = .ok (.if_icmp .eq 13, 3) := by decide +kernel
theorem dX7_isOfWord_138 : decode cX7_isOfWord 138 = .ok (.iload 5, 2) := by decide +kernel
theorem dX7_isOfWord_140 : decode cX7_isOfWord 140 = .ok (.ifCond .ne 8, 3) := by decide +kernel
theorem dX7_isOfWord_143 : decode cX7_isOfWord 143 = .ok (.iload 6, 2) := by decide +kernel
theorem dX7_isOfWord_145 : decode cX7_isOfWord 145 = .ok (.ifCond .eq 7, 3) := by decide +kernel
theorem dX7_isOfWord_148 : decode cX7_isOfWord 148 = .ok (.iconst 1, 1) := by decide +kernel
theorem dX7_isOfWord_149 : decode cX7_isOfWord 149 = .ok (.goto 4, 3) := by decide +kernel
theorem dX7_isOfWord_152 : decode cX7_isOfWord 152 = .ok (.iconst 0, 1) := by decide +kernel
theorem dX7_isOfWord_153 : decode cX7_isOfWord 153 = .ok (.ireturn, 1) := by decide +kernel
theorem dX7_isOfRow_0 : decode cX7_isOfRow 0 = .ok (.aload_n 0, 1) := by decide +kernel
theorem dX7_isOfRow_1 : decode cX7_isOfRow 1 = .ok (.getfield 13, 3) := by decide +kernel
theorem dX7_isOfRow_4 : decode cX7_isOfRow 4 = .ok (.iload_n 1, 1) := by decide +kernel
theorem dX7_isOfRow_5 : decode cX7_isOfRow 5 = .ok (.iaload, 1) := by decide +kernel
theorem dX7_isOfRow_6 : decode cX7_isOfRow 6 = .ok (.istore_n 2, 1) := by decide +kernel
theorem dX7_isOfRow_7 : decode cX7_isOfRow 7 = .ok (.aload_n 0, 1) := by decide +kernel
theorem dX7_isOfRow_8 : decode cX7_isOfRow 8 = .ok (.getfield 211, 3) := by decide +kernel
theorem dX7_isOfRow_11 : decode cX7_isOfRow 11 = .ok (.ifCond .eq 20, 3) := by decide +kernel
theorem dX7_isOfRow_14 : decode cX7_isOfRow 14 = .ok (.aload_n 0, 1) := by decide +kernel
theorem dX7_isOfRow_15 : decode cX7_isOfRow 15 = .ok (.getfield 211, 3) := by decide +kernel
theorem dX7_isOfRow_18 : decode cX7_isOfRow 18 = .ok (.iconst 5, 1) := by decide +kernel
theorem dX7_isOfRow_19 : decode cX7_isOfRow 19 = .ok (.if_icmp .eq 12, 3) := by decide +kernel
theorem dX7_isOfRow_22 : decode cX7_isOfRow 22 = .ok (.aload_n 0, 1) := by decide +kernel
theorem dX7_isOfRow_23 : decode cX7_isOfRow 23 = .ok (.getfield 211, 3) := by decide +kernel
theorem dX7_isOfRow_26 : decode cX7_isOfRow 26 = .ok (.bipush 6, 2) := by decide +kernel
theorem dX7_isOfRow_28 : decode cX7_isOfRow 28 = .ok (.if_icmp .ne 10, 3) := by decide +kernel
theorem dX7_isOfRow_31 : decode cX7_isOfRow 31 = .ok (.iload_n 2, 1) := by decide +kernel
theorem dX7_isOfRow_32 : decode cX7_isOfRow 32 = .ok (.invokestatic 89, 3) := by decide +kernel
theorem dX7_isOfRow_35 : decode cX7_isOfRow 35 = .ok (.goto 54, 3) := by decide +kernel
theorem dX7_isOfRow_38 : decode cX7_isOfRow 38 = .ok (.aload_n 0, 1) := by decide +kernel
theorem dX7_isOfRow_39 : decode cX7_isOfRow 39 = .ok (.getfield 211, 3) := by decide +kernel
theorem dX7_isOfRow_42 : decode cX7_isOfRow 42 = .ok (.bipush 8, 2) := by decide +kernel
theorem dX7_isOfRow_44 : decode cX7_isOfRow 44 = .ok (.if_icmp .ne 10, 3) := by decide +kernel
theorem dX7_isOfRow_47 : decode cX7_isOfRow 47 = .ok (.iload_n 2, 1) := by decide +kernel
theorem dX7_isOfRow_48 : decode cX7_isOfRow 48 = .ok (.invokestatic 224, 3) := by decide +kernel
theorem dX7_isOfRow_51 : decode cX7_isOfRow 51 = .ok (.goto 38, 3) := by decide +kernel
theorem dX7_isOfRow_54 : decode cX7_isOfRow 54 = .ok (.aload_n 0, 1) := by decide +kernel
theorem dX7_isOfRow_55 : decode cX7_isOfRow 55 = .ok (.getfield 211, 3) := by decide +kernel
theorem dX7_isOfRow_58 : decode cX7_isOfRow 58 = .ok (.iconst 2, 1) := by decide +kernel
theorem dX7_isOfRow_59 : decode cX7_isOfRow 59 = .ok (.if_icmp .ne 18, 3) := by decide +kernel
theorem dX7_isOfRow_62 : decode cX7_isOfRow 62 = .ok (.aload_n 0, 1) := by decide +kernel
theorem dX7_isOfRow_63 : decode cX7_isOfRow 63 = .ok (.getfield 202, 3) := by decide +kernel
theorem dX7_isOfRow_66 : decode cX7_isOfRow 66 = .ok (.ifCond .ne 11, 3) := by decide +kernel
theorem dX7_isOfRow_69 : decode cX7_isOfRow 69 = .ok (.aload_n 0, 1) := by decide +kernel
theorem dX7_isOfRow_70 : decode cX7_isOfRow 70 = .ok (.iload_n 1, 1) := by decide +kernel
theorem dX7_isOfRow_71 : decode cX7_isOfRow 71 = .ok (.invokevirtual 227, 3) := by decide +kernel
theorem dX7_isOfRow_74 : decode cX7_isOfRow 74 = .ok (.goto 15, 3) := by decide +kernel
theorem dX7_isOfRow_77 : decode cX7_isOfRow 77 = .ok (.iload_n 2, 1) := by decide +kernel
theorem dX7_isOfRow_78 : decode cX7_isOfRow 78 = .ok (.invokestatic 96, 3) := by decide +kernel
theorem dX7_isOfRow_81 : decode cX7_isOfRow 81 = .ok (.ifCond .ne 7, 3) := by decide +kernel
theorem dX7_isOfRow_84 : decode cX7_isOfRow 84 = .ok (.iconst 1, 1) := by decide +kernel
theorem dX7_isOfRow_85 : decode cX7_isOfRow 85 = .ok (.goto 4, 3) := by decide +kernel
theorem dX7_isOfRow_88 : decode cX7_isOfRow 88 = .ok (.iconst 0, 1) := by decide +kernel
theorem dX7_isOfRow_89 : decode cX7_isOfRow 89 = .ok (.ireturn, 1) := by decide +kernel
theorem dX7_isLink_0 : decode cX7_isLink 0 = .ok (.iconst 0, 1) := by decide +kernel
theorem dX7_isLink_1 : decode cX7_isLink 1 = .ok (.istore_n 3, 1) := by decide +kernel
theorem dX7_isLink_2 : decode cX7_isLink 2 = .ok (.iload_n 1, 1) := by decide +kernel
theorem dX7_isLink_3 : decode cX7_isLink 3 = .ok (.iconst 1, 1) := by decide +kernel
theorem dX7_isLink_4 : decode cX7_isLink 4 = .ok (.iadd, 1) := by decide +kernel
theorem dX7_isLink_5 : decode cX7_isLink 5 = .ok (.istore 4, 2) := by decide +kernel
theorem dX7_isLink_7 : decode cX7_isLink 7 = .ok (.iload 4, 2) := by decide +kernel
theorem dX7_isLink_9 : decode cX7_isLink 9 = .ok (.iload_n 2, 1) := by decide +kernel
theorem dX7_isLink_10 : decode cX7_isLink 10 = .ok (.iconst 1, 1) := by decide +kernel
theorem dX7_isLink_11 : decode cX7_isLink 11 = .ok (.isub, 1) := by decide +kernel
theorem dX7_isLink_12 : decode cX7_isLink 12 = .ok (.if_icmp .ge 29, 3) := by decide +kernel
theorem dX7_isLink_15 : decode cX7_isLink 15 = .ok (.iload_n 3, 1) := by decide +kernel
theorem dX7_isLink_16 : decode cX7_isLink 16 = .ok (.aload_n 0, 1) := by decide +kernel
theorem dX7_isLink_17 : decode cX7_isLink 17 = .ok (.getfield 13, 3) := by decide +kernel
theorem dX7_isLink_20 : decode cX7_isLink 20 = .ok (.iload 4, 2) := by decide +kernel
theorem dX7_isLink_22 : decode cX7_isLink 22 = .ok (.iaload, 1) := by decide +kernel
theorem dX7_isLink_23 : decode cX7_isLink 23 = .ok (.bipush 64, 2) := by decide +kernel
theorem dX7_isLink_25 : decode cX7_isLink 25 = .ok (.if_icmp .ne 7, 3) := by decide +kernel
theorem dX7_isLink_28 : decode cX7_isLink 28 = .ok (.iconst 1, 1) := by decide +kernel
theorem dX7_isLink_29 : decode cX7_isLink 29 = .ok (.goto 4, 3) := by decide +kernel
theorem dX7_isLink_32 : decode cX7_isLink 32 = .ok (.iconst 0, 1) := by decide +kernel
theorem dX7_isLink_33 : decode cX7_isLink 33 = .ok (.ior, 1) := by decide +kernel
theorem dX7_isLink_34 : decode cX7_isLink 34 = .ok (.istore_n 3, 1) := by decide +kernel
theorem dX7_isLink_35 : decode cX7_isLink 35 = .ok (.iinc 4 1, 3) := by decide +kernel
theorem dX7_isLink_38 : decode cX7_isLink 38 = .ok (.goto (-31), 3) := by decide +kernel
theorem dX7_isLink_41 : decode cX7_isLink 41 = .ok (.iload_n 3, 1) := by decide +kernel
theorem dX7_isLink_42 : decode cX7_isLink 42 = .ok (.ifCond .ne 60, 3) := by decide +kernel
theorem dX7_isLink_45 : decode cX7_isLink 45 = .ok (.iload_n 2, 1) := by decide +kernel
theorem dX7_isLink_46 : decode cX7_isLink 46 = .ok (.iload_n 1, 1) := by decide +kernel
theorem dX7_isLink_47 : decode cX7_isLink 47 = .ok (.isub, 1) := by decide +kernel
theorem dX7_isLink_48 : decode cX7_isLink 48 = .ok (.iconst 4, 1) := by decide +kernel
theorem dX7_isLink_49 : decode cX7_isLink 49 = .ok (.if_icmp .le 57, 3) := by decide +kernel
theorem dX7_isLink_52 : decode cX7_isLink 52 = .ok (.aload_n 0, 1) := by decide +kernel
theorem dX7_isLink_53 : decode cX7_isLink 53 = .ok (.getfield 13, 3) := by decide +kernel
theorem dX7_isLink_56 : decode cX7_isLink 56 = .ok (.iload_n 1, 1) := by decide +kernel
theorem dX7_isLink_57 : decode cX7_isLink 57 = .ok (.iaload, 1) := by decide +kernel
theorem dX7_isLink_58 : decode cX7_isLink 58 = .ok (.bipush 119, 2) := by decide +kernel
theorem dX7_isLink_60 : decode cX7_isLink 60 = .ok (.if_icmp .ne 46, 3) := by decide +kernel
theorem dX7_isLink_63 : decode cX7_isLink 63 = .ok (.aload_n 0, 1) := by decide +kernel
theorem dX7_isLink_64 : decode cX7_isLink 64 = .ok (.getfield 13, 3) := by decide +kernel
theorem dX7_isLink_67 : decode cX7_isLink 67 = .ok (.iload_n 1, 1) := by decide +kernel
theorem dX7_isLink_68 : decode cX7_isLink 68 = .ok (.iconst 1, 1) := by decide +kernel
theorem dX7_isLink_69 : decode cX7_isLink 69 = .ok (.iadd, 1) := by decide +kernel
theorem dX7_isLink_70 : decode cX7_isLink 70 = .ok (.iaload, 1) := by decide +kernel
theorem dX7_isLink_71 : decode cX7_isLink 71 = .ok (.bipush 119, 2) := by decide +kernel
theorem dX7_isLink_73 : decode cX7_isLink 73 = .ok (.if_icmp .ne 33, 3) := by decide +kernel
theorem dX7_isLink_76 : decode cX7_isLink 76 = .ok (.aload_n 0, 1) := by decide +kernel
theorem dX7_isLink_77 : decode cX7_isLink 77 = .ok (.getfield 13, 3) := by decide +kernel
theorem dX7_isLink_80 : decode cX7_isLink 80 = .ok (.iload_n 1, 1) := by decide +kernel
theorem dX7_isLink_81 : decode cX7_isLink 81 = .ok (.iconst 2, 1) := by decide +kernel
theorem dX7_isLink_82 : decode cX7_isLink 82 = .ok (.iadd, 1) := by decide +kernel
theorem dX7_isLink_83 : decode cX7_isLink 83 = .ok (.iaload, 1) := by decide +kernel
theorem dX7_isLink_84 : decode cX7_isLink 84 = .ok (.bipush 119, 2) := by decide +kernel
theorem dX7_isLink_86 : decode cX7_isLink 86 = .ok (.if_icmp .ne 20, 3) := by decide +kernel
theorem dX7_isLink_89 : decode cX7_isLink 89 = .ok (.aload_n 0, 1) := by decide +kernel
theorem dX7_isLink_90 : decode cX7_isLink 90 = .ok (.getfield 13, 3) := by decide +kernel
theorem dX7_isLink_93 : decode cX7_isLink 93 = .ok (.iload_n 1, 1) := by decide +kernel
theorem dX7_isLink_94 : decode cX7_isLink 94 = .ok (.iconst 3, 1) := by decide +kernel
theorem dX7_isLink_95 : decode cX7_isLink 95 = .ok (.iadd, 1) := by decide +kernel
theorem dX7_isLink_96 : decode cX7_isLink 96 = .ok (.iaload, 1) := by decide +kernel
theorem dX7_isLink_97 : decode cX7_isLink 97 = .ok (.bipush 46, 2) := by decide +kernel
theorem dX7_isLink_99 : decode cX7_isLink 99 = .ok (.if_icmp .ne 7, 3) := by decide +kernel
theorem dX7_isLink_102 : decode cX7_isLink 102 = .ok (.iconst 1, 1) := by decide +kernel
theorem dX7_isLink_103 : decode cX7_isLink 103 = .ok (.goto 4, 3) := by decide +kernel
theorem dX7_isLink_106 : decode cX7_isLink 106 = .ok (.iconst 0, 1) := by decide +kernel
theorem dX7_isLink_107 : decode cX7_isLink 107 = .ok (.ireturn, 1) := by decide +kernel
theorem dX7_wordsWithin_0 : decode cX7_wordsWithin 0 = .ok (.iload_n 1, 1) := by decide +kernel
theorem dX7_wordsWithin_1 : decode cX7_wordsWithin 1 = .ok (.istore_n 3, 1) := by decide +kernel
theorem dX7_wordsWithin_2 : decode cX7_wordsWithin 2 = .ok (.iload_n 3, 1) := by decide +kernel
theorem dX7_wordsWithin_3 : decode cX7_wordsWithin 3 = .ok (.iload_n 2, 1) := by decide +kernel
theorem dX7_wordsWithin_4 : decode cX7_wordsWithin 4 = .ok (.if_icmp .ge 58, 3) := by decide +kernel
theorem dX7_wordsWithin_7 : decode cX7_wordsWithin 7 = .ok (.iload_n 3, 1) := by decide +kernel
theorem dX7_wordsWithin_8 : decode cX7_wordsWithin 8 = .ok (.istore 4, 2) := by decide +kernel
theorem dX7_wordsWithin_10 : decode cX7_wordsWithin 10 = .ok (.iload 4, 2) := by decide +kernel
theorem dX7_wordsWithin_12 : decode cX7_wordsWithin 12 = .ok (.iload_n 2, 1) := by decide +kernel
theorem dX7_wordsWithin_13 : decode cX7_wordsWithin 13 = .ok (.if_icmp .ge 18, 3) := by decide +kernel
theorem dX7_wordsWithin_16 : decode cX7_wordsWithin 16 = .ok (.aload_n 0, 1) := by decide +kernel
theorem dX7_wordsWithin_17 : decode cX7_wordsWithin 17 = .ok (.iload 4, 2) := by decide +kernel
theorem dX7_wordsWithin_19 : decode cX7_wordsWithin 19 = .ok (.invokevirtual 227, 3) := by decide +kernel
theorem dX7_wordsWithin_22 : decode cX7_wordsWithin 22 = .ok (.ifCond .eq 9, 3) := by decide +kernel
theorem dX7_wordsWithin_25 : decode cX7_wordsWithin 25 = .ok (.iinc 4 1, 3) := by decide +kernel
theorem dX7_wordsWithin_28 : decode cX7_wordsWithin 28 = .ok (.goto (-18), 3) := by decide +kernel
theorem dX7_wordsWithin_31 : decode cX7_wordsWithin 31 = .ok (.iload 4, 2) := by decide +kernel
theorem dX7_wordsWithin_33 : decode cX7_wordsWithin 33 = .ok (.iload_n 3, 1) := by decide +kernel
theorem dX7_wordsWithin_34 : decode cX7_wordsWithin 34 = .ok (.if_icmp .le 10, 3) := by decide +kernel
theorem dX7_wordsWithin_37 : decode cX7_wordsWithin 37 = .ok (.aload_n 0, 1) := by decide +kernel
theorem dX7_wordsWithin_38 : decode cX7_wordsWithin 38 = .ok (.iload_n 3, 1) := by decide +kernel
theorem dX7_wordsWithin_39 : decode cX7_wordsWithin 39 = .ok (.iload 4, 2) := by decide +kernel
theorem dX7_wordsWithin_41 : decode cX7_wordsWithin 41 = .ok (.invokevirtual 230, 3) := by decide +kernel
theorem dX7_wordsWithin_44 : decode cX7_wordsWithin 44 = .ok (.iload 4, 2) := by decide +kernel
theorem dX7_wordsWithin_46 : decode cX7_wordsWithin 46 = .ok (.iload_n 3, 1) := by decide +kernel
theorem dX7_wordsWithin_47 : decode cX7_wordsWithin 47 = .ok (.if_icmp .le 8, 3) := by decide +kernel
theorem dX7_wordsWithin_50 : decode cX7_wordsWithin 50 = .ok (.iload 4, 2) := by decide +kernel
theorem dX7_wordsWithin_52 : decode cX7_wordsWithin 52 = .ok (.goto 6, 3) := by decide +kernel
theorem dX7_wordsWithin_55 : decode cX7_wordsWithin 55 = .ok (.iload_n 3, 1) := by decide +kernel
theorem dX7_wordsWithin_56 : decode cX7_wordsWithin 56 = .ok (.iconst 1, 1) := by decide +kernel
theorem dX7_wordsWithin_57 : decode cX7_wordsWithin 57 = .ok (.iadd, 1) := by decide +kernel
theorem dX7_wordsWithin_58 : decode cX7_wordsWithin 58 = .ok (.istore_n 3, 1) := by decide +kernel
theorem dX7_wordsWithin_59 : decode cX7_wordsWithin 59 = .ok (.goto (-57), 3) := by decide +kernel
theorem dX7_wordsWithin_62 : decode cX7_wordsWithin 62 = .ok (.return_, 1) := by decide +kernel
theorem dX7_paths_0 : decode cX7_paths 0 = .ok (.iload_n 1, 1) := by decide +kernel
theorem dX7_paths_1 : decode cX7_paths 1 = .ok (.iconst 1, 1) := by decide +kernel
theorem dX7_paths_2 : decode cX7_paths 2 = .ok (.iadd, 1) := by decide +kernel
theorem dX7_paths_3 : decode cX7_paths 3 = .ok (.istore_n 3, 1) := by decide +kernel
theorem dX7_paths_4 : decode cX7_paths 4 = .ok (.iload_n 3, 1) := by decide +kernel
theorem dX7_paths_5 : decode cX7_paths 5 = .ok (.iload_n 2, 1) := by decide +kernel
theorem dX7_paths_6 : decode cX7_paths 6 = .ok (.if_icmp .ge 26, 3) := by decide +kernel
theorem dX7_paths_9 : decode cX7_paths 9 = .ok (.aload_n 0, 1) := by decide +kernel
theorem dX7_paths_10 : decode cX7_paths 10 = .ok (.getfield 13, 3) := by decide +kernel
theorem dX7_paths_13 : decode cX7_paths 13 = .ok (.iload_n 3, 1) := by decide +kernel
theorem dX7_paths_14 : decode cX7_paths 14 = .ok (.iaload, 1) := by decide +kernel
theorem dX7_paths_15 : decode cX7_paths 15 = .ok (.bipush 47, 2) := by decide +kernel
theorem dX7_paths_17 : decode cX7_paths 17 = .ok (.if_icmp .ne 9, 3) := by decide +kernel
theorem dX7_paths_20 : decode cX7_paths 20 = .ok (.aload_n 0, 1) := by decide +kernel
theorem dX7_paths_21 : decode cX7_paths 21 = .ok (.iload_n 1, 1) := by decide +kernel
theorem dX7_paths_22 : decode cX7_paths 22 = .ok (.iload_n 3, 1) := by decide +kernel
theorem dX7_paths_23 : decode cX7_paths 23 = .ok (.invokevirtual 230, 3) := by decide +kernel
theorem dX7_paths_26 : decode cX7_paths 26 = .ok (.iinc 3 1, 3) := by decide +kernel
theorem dX7_paths_29 : decode cX7_paths 29 = .ok (.goto (-25), 3) := by decide +kernel
theorem dX7_paths_32 : decode cX7_paths 32 = .ok (.aload_n 0, 1) := by decide +kernel
theorem dX7_paths_33 : decode cX7_paths 33 = .ok (.iload_n 1, 1) := by decide +kernel
theorem dX7_paths_34 : decode cX7_paths 34 = .ok (.iload_n 2, 1) := by decide +kernel
theorem dX7_paths_35 : decode cX7_paths 35 = .ok (.invokevirtual 230, 3) := by decide +kernel
theorem dX7_paths_38 : decode cX7_paths 38 = .ok (.return_, 1) := by decide +kernel
theorem dX7_dictionary_0 : decode cX7_dictionary 0 = .ok (.aload_n 0, 1) := by decide +kernel
theorem dX7_dictionary_1 : decode cX7_dictionary 1 = .ok (.iload_n 1, 1) := by decide +kernel
theorem dX7_dictionary_2 : decode cX7_dictionary 2 = .ok (.iload_n 2, 1) := by decide +kernel
theorem dX7_dictionary_3 : decode cX7_dictionary 3 = .ok (.invokevirtual 199, 3) := by decide +kernel
theorem dX7_dictionary_6 : decode cX7_dictionary 6 = .ok (.iload_n 1, 1) := by decide +kernel
theorem dX7_dictionary_7 : decode cX7_dictionary 7 = .ok (.istore_n 3, 1) := by decide +kernel
theorem dX7_dictionary_8 : decode cX7_dictionary 8 = .ok (.iload_n 3, 1) := by decide +kernel
theorem dX7_dictionary_9 : decode cX7_dictionary 9 = .ok (.iload_n 2, 1) := by decide +kernel
theorem dX7_dictionary_10 : decode cX7_dictionary 10 = .ok (.if_icmp .ge 57, 3) := by decide +kernel
theorem dX7_dictionary_13 : decode cX7_dictionary 13 = .ok (.iload_n 3, 1) := by decide +kernel
theorem dX7_dictionary_14 : decode cX7_dictionary 14 = .ok (.aload_n 0, 1) := by decide +kernel
theorem dX7_dictionary_15 : decode cX7_dictionary 15 = .ok (.getfield 82, 3) := by decide +kernel
theorem dX7_dictionary_18 : decode cX7_dictionary 18 = .ok (.iload_n 3, 1) := by decide +kernel
theorem dX7_dictionary_19 : decode cX7_dictionary 19 = .ok (.iaload, 1) := by decide +kernel
theorem dX7_dictionary_20 : decode cX7_dictionary 20 = .ok (.iadd, 1) := by decide +kernel
theorem dX7_dictionary_21 : decode cX7_dictionary 21 = .ok (.istore 4, 2) := by decide +kernel
theorem dX7_dictionary_23 : decode cX7_dictionary 23 = .ok (.aload_n 0, 1) := by decide +kernel
theorem dX7_dictionary_24 : decode cX7_dictionary 24 = .ok (.iload_n 3, 1) := by decide +kernel
theorem dX7_dictionary_25 : decode cX7_dictionary 25 = .ok (.iload_n 2, 1) := by decide +kernel
theorem dX7_dictionary_26 : decode cX7_dictionary 26 = .ok (.invokevirtual 233, 3) := by decide +kernel
theorem dX7_dictionary_29 : decode cX7_dictionary 29 = .ok (.ifCond .eq 25, 3) := by decide +kernel
theorem dX7_dictionary_32 : decode cX7_dictionary 32 = .ok (.iload 4, 2) := by decide +kernel
theorem dX7_dictionary_34 : decode cX7_dictionary 34 = .ok (.iload_n 2, 1) := by decide +kernel
theorem dX7_dictionary_35 : decode cX7_dictionary 35 = .ok (.if_icmp .ge 19, 3) := by decide +kernel
theorem dX7_dictionary_38 : decode cX7_dictionary 38 = .ok (.aload_n 0, 1) := by decide +kernel
theorem dX7_dictionary_39 : decode cX7_dictionary 39 = .ok (.iload 4, 2) := by decide +kernel
theorem dX7_dictionary_41 : decode cX7_dictionary 41 = .ok (.iload_n 2, 1) := by decide +kernel
theorem dX7_dictionary_42 : decode cX7_dictionary 42 = .ok (.invokevirtual 233, 3) := by decide +kernel
theorem dX7_dictionary_45 : decode cX7_dictionary 45 = .ok (.ifCond .eq 9, 3) := by decide +kernel
theorem dX7_dictionary_48 : decode cX7_dictionary 48 = .ok (.iinc 4 1, 3) := by decide +kernel
theorem dX7_dictionary_51 : decode cX7_dictionary 51 = .ok (.goto (-19), 3) := by decide +kernel
theorem dX7_dictionary_54 : decode cX7_dictionary 54 = .ok (.aload_n 0, 1) := by decide +kernel
theorem dX7_dictionary_55 : decode cX7_dictionary 55 = .ok (.iload_n 3, 1) := by decide +kernel
theorem dX7_dictionary_56 : decode cX7_dictionary 56 = .ok (.iload 4, 2) := by decide +kernel
theorem dX7_dictionary_58 : decode cX7_dictionary 58 = .ok (.invokevirtual 230, 3) := by decide +kernel
theorem dX7_dictionary_61 : decode cX7_dictionary 61 = .ok (.iload 4, 2) := by decide +kernel
theorem dX7_dictionary_63 : decode cX7_dictionary 63 = .ok (.istore_n 3, 1) := by decide +kernel
theorem dX7_dictionary_64 : decode cX7_dictionary 64 = .ok (.goto (-56), 3) := by decide +kernel
theorem dX7_dictionary_67 : decode cX7_dictionary 67 = .ok (.return_, 1) := by decide +kernel
theorem dX7_isStrange_0 : decode cX7_isStrange 0 = .ok (.aload_n 0, 1) := by decide +kernel
theorem dX7_isStrange_1 : decode cX7_isStrange 1 = .ok (.getfield 82, 3) := by decide +kernel
theorem dX7_isStrange_4 : decode cX7_isStrange 4 = .ok (.iload_n 1, 1) := by decide +kernel
theorem dX7_isStrange_5 : decode cX7_isStrange 5 = .ok (.iaload, 1) := by decide +kernel
theorem dX7_isStrange_6 : decode cX7_isStrange 6 = .ok (.iconst 1, 1) := by decide +kernel
theorem dX7_isStrange_7 : decode cX7_isStrange 7 = .ok (.if_icmp .ne 19, 3) := by decide +kernel
theorem dX7_isStrange_10 : decode cX7_isStrange 10 = .ok (.aload_n 0, 1) := by decide +kernel
theorem dX7_isStrange_11 : decode cX7_isStrange 11 = .ok (.iload_n 1, 1) := by decide +kernel
theorem dX7_isStrange_12 : decode cX7_isStrange 12 = .ok (.iconst 1, 1) := by decide +kernel
theorem dX7_isStrange_13 : decode cX7_isStrange 13 = .ok (.iload_n 2, 1) := by decide +kernel
theorem dX7_isStrange_14 : decode cX7_isStrange 14 = .ok (.invokevirtual 192, 3) := by decide +kernel
theorem dX7_isStrange_17 : decode cX7_isStrange 17 = .ok (.bipush (-2), 2) := by decide +kernel
theorem dX7_isStrange_19 : decode cX7_isStrange 19 = .ok (.if_icmp .ne 7, 3) := by decide +kernel
theorem dX7_isStrange_22 : decode cX7_isStrange 22 = .ok (.iconst 1, 1) := by decide +kernel
theorem dX7_isStrange_23 : decode cX7_isStrange 23 = .ok (.goto 4, 3) := by decide +kernel
theorem dX7_isStrange_26 : decode cX7_isStrange 26 = .ok (.iconst 0, 1) := by decide +kernel
theorem dX7_isStrange_27 : decode cX7_isStrange 27 = .ok (.ireturn, 1) := by decide +kernel
theorem dX7_row_0 : decode cX7_row 0 = .ok (.aload_n 0, 1) := by decide +kernel
theorem dX7_row_1 : decode cX7_row 1 = .ok (.getfield 211, 3) := by decide +kernel
theorem dX7_row_4 : decode cX7_row 4 = .ok (.tableswitch 207 2 8 #[44, 207, 78, 87, 87, 155, 164], 44) := by decide +kernel
theorem dX7_row_48 : decode cX7_row 48 = .ok (.aload_n 0, 1) := by decide +kernel
theorem dX7_row_49 : decode cX7_row 49 = .ok (.getfield 202, 3) := by decide +kernel
theorem dX7_row_52 : decode cX7_row 52 = .ok (.ifCond .eq 21, 3) := by decide +kernel
theorem dX7_row_55 : decode cX7_row 55 = .ok (.aload_n 0, 1) := by decide +kernel
theorem dX7_row_56 : decode cX7_row 56 = .ok (.iload_n 1, 1) := by decide +kernel
theorem dX7_row_57 : decode cX7_row 57 = .ok (.iload_n 2, 1) := by decide +kernel
theorem dX7_row_58 : decode cX7_row 58 = .ok (.invokevirtual 237, 3) := by decide +kernel
theorem dX7_row_61 : decode cX7_row 61 = .ok (.ifCond .ne 12, 3) := by decide +kernel
theorem dX7_row_64 : decode cX7_row 64 = .ok (.aload_n 0, 1) := by decide +kernel
theorem dX7_row_65 : decode cX7_row 65 = .ok (.iload_n 1, 1) := by decide +kernel
theorem dX7_row_66 : decode cX7_row 66 = .ok (.iload_n 2, 1) := by decide +kernel
theorem dX7_row_67 : decode cX7_row 67 = .ok (.invokevirtual 240, 3) := by decide +kernel
theorem dX7_row_70 : decode cX7_row 70 = .ok (.goto 147, 3) := by decide +kernel
theorem dX7_row_73 : decode cX7_row 73 = .ok (.aload_n 0, 1) := by decide +kernel
theorem dX7_row_74 : decode cX7_row 74 = .ok (.iload_n 1, 1) := by decide +kernel
theorem dX7_row_75 : decode cX7_row 75 = .ok (.iload_n 2, 1) := by decide +kernel
theorem dX7_row_76 : decode cX7_row 76 = .ok (.invokevirtual 230, 3) := by decide +kernel
theorem dX7_row_79 : decode cX7_row 79 = .ok (.goto 138, 3) := by decide +kernel
theorem dX7_row_82 : decode cX7_row 82 = .ok (.aload_n 0, 1) := by decide +kernel
theorem dX7_row_83 : decode cX7_row 83 = .ok (.iload_n 1, 1) := by decide +kernel
theorem dX7_row_84 : decode cX7_row 84 = .ok (.iload_n 2, 1) := by decide +kernel
theorem dX7_row_85 : decode cX7_row 85 = .ok (.invokevirtual 243, 3) := by decide +kernel
theorem dX7_row_88 : decode cX7_row 88 = .ok (.goto 129, 3) := by decide +kernel
theorem dX7_row_91 : decode cX7_row 91 = .ok (.iload_n 1, 1) := by decide +kernel
theorem dX7_row_92 : decode cX7_row 92 = .ok (.istore 5, 2) := by decide +kernel
theorem dX7_row_94 : decode cX7_row 94 = .ok (.iload 5, 2) := by decide +kernel
theorem dX7_row_96 : decode cX7_row 96 = .ok (.iload_n 2, 1) := by decide +kernel
theorem dX7_row_97 : decode cX7_row 97 = .ok (.if_icmp .ge 59, 3) := by decide +kernel
theorem dX7_row_100 : decode cX7_row 100 = .ok (.aload_n 0, 1) := by decide +kernel
theorem dX7_row_101 : decode cX7_row 101 = .ok (.getfield 211, 3) := by decide +kernel
theorem dX7_row_104 : decode cX7_row 104 = .ok (.iconst 5, 1) := by decide +kernel
theorem dX7_row_105 : decode cX7_row 105 = .ok (.if_icmp .eq 9, 3) := by decide +kernel
theorem dX7_row_108 : decode cX7_row 108 = .ok (.iload 5, 2) := by decide +kernel
theorem dX7_row_110 : decode cX7_row 110 = .ok (.iload_n 1, 1) := by decide +kernel
theorem dX7_row_111 : decode cX7_row 111 = .ok (.if_icmp .ne 45, 3) := by decide +kernel
theorem dX7_row_114 : decode cX7_row 114 = .ok (.iload_n 3, 1) := by decide +kernel
theorem dX7_row_115 : decode cX7_row 115 = .ok (.istore 6, 2) := by decide +kernel
theorem dX7_row_117 : decode cX7_row 117 = .ok (.iload 6, 2) := by decide +kernel
theorem dX7_row_119 : decode cX7_row 119 = .ok (.iload 4, 2) := by decide +kernel
theorem dX7_row_121 : decode cX7_row 121 = .ok (.if_icmp .gt 29, 3) := by decide +kernel
theorem dX7_row_124 : decode cX7_row 124 = .ok (.iload 5, 2) := by decide +kernel
theorem dX7_row_126 : decode cX7_row 126 = .ok (.iload 6, 2) := by decide +kernel
theorem dX7_row_128 : decode cX7_row 128 = .ok (.iadd, 1) := by decide +kernel
theorem dX7_row_129 : decode cX7_row 129 = .ok (.iload_n 2, 1) := by decide +kernel
theorem dX7_row_130 : decode cX7_row 130 = .ok (.if_icmp .gt 20, 3) := by decide +kernel
theorem dX7_row_133 : decode cX7_row 133 = .ok (.aload_n 0, 1) := by decide +kernel
theorem dX7_row_134 : decode cX7_row 134 = .ok (.iload 5, 2) := by decide +kernel
theorem dX7_row_136 : decode cX7_row 136 = .ok (.iload 5, 2) := by decide +kernel
theorem dX7_row_138 : decode cX7_row 138 = .ok (.iload 6, 2) := by decide +kernel
theorem dX7_row_140 : decode cX7_row 140 = .ok (.iadd, 1) := by decide +kernel
theorem dX7_row_141 : decode cX7_row 141 = .ok (.invokevirtual 230, 3) := by decide +kernel
theorem dX7_row_144 : decode cX7_row 144 = .ok (.iinc 6 1, 3) := by decide +kernel
theorem dX7_row_147 : decode cX7_row 147 = .ok (.goto (-30), 3) := by decide +kernel
theorem dX7_row_150 : decode cX7_row 150 = .ok (.iinc 5 1, 3) := by decide +kernel
theorem dX7_row_153 : decode cX7_row 153 = .ok (.goto (-59), 3) := by decide +kernel
theorem dX7_row_156 : decode cX7_row 156 = .ok (.goto 61, 3) := by decide +kernel
theorem dX7_row_159 : decode cX7_row 159 = .ok (.aload_n 0, 1) := by decide +kernel
theorem dX7_row_160 : decode cX7_row 160 = .ok (.iload_n 1, 1) := by decide +kernel
theorem dX7_row_161 : decode cX7_row 161 = .ok (.iload_n 2, 1) := by decide +kernel
theorem dX7_row_162 : decode cX7_row 162 = .ok (.invokevirtual 246, 3) := by decide +kernel
theorem dX7_row_165 : decode cX7_row 165 = .ok (.goto 52, 3) := by decide +kernel
theorem dX7_row_168 : decode cX7_row 168 = .ok (.iload_n 1, 1) := by decide +kernel
theorem dX7_row_169 : decode cX7_row 169 = .ok (.istore 5, 2) := by decide +kernel
theorem dX7_row_171 : decode cX7_row 171 = .ok (.iload 5, 2) := by decide +kernel
theorem dX7_row_173 : decode cX7_row 173 = .ok (.iconst 1, 1) := by decide +kernel
theorem dX7_row_174 : decode cX7_row 174 = .ok (.iadd, 1) := by decide +kernel
theorem dX7_row_175 : decode cX7_row 175 = .ok (.iload_n 2, 1) := by decide +kernel
theorem dX7_row_176 : decode cX7_row 176 = .ok (.if_icmp .ge 19, 3) := by decide +kernel
theorem dX7_row_179 : decode cX7_row 179 = .ok (.aload_n 0, 1) := by decide +kernel
theorem dX7_row_180 : decode cX7_row 180 = .ok (.iload 5, 2) := by decide +kernel
theorem dX7_row_182 : decode cX7_row 182 = .ok (.iload 5, 2) := by decide +kernel
theorem dX7_row_184 : decode cX7_row 184 = .ok (.iconst 2, 1) := by decide +kernel
theorem dX7_row_185 : decode cX7_row 185 = .ok (.iadd, 1) := by decide +kernel
theorem dX7_row_186 : decode cX7_row 186 = .ok (.invokevirtual 230, 3) := by decide +kernel
theorem dX7_row_189 : decode cX7_row 189 = .ok (.iinc 5 1, 3) := by decide +kernel
theorem dX7_row_192 : decode cX7_row 192 = .ok (.goto (-21), 3) := by decide +kernel
theorem dX7_row_195 : decode cX7_row 195 = .ok (.iload_n 2, 1) := by decide +kernel
theorem dX7_row_196 : decode cX7_row 196 = .ok (.iload_n 1, 1) := by decide +kernel
theorem dX7_row_197 : decode cX7_row 197 = .ok (.iconst 1, 1) := by decide +kernel
theorem dX7_row_198 : decode cX7_row 198 = .ok (.iadd, 1) := by decide +kernel
theorem dX7_row_199 : decode cX7_row 199 = .ok (.if_icmp .ne 18, 3) := by decide +kernel
theorem dX7_row_202 : decode cX7_row 202 = .ok (.aload_n 0, 1) := by decide +kernel
theorem dX7_row_203 : decode cX7_row 203 = .ok (.iload_n 1, 1) := by decide +kernel
theorem dX7_row_204 : decode cX7_row 204 = .ok (.iload_n 2, 1) := by decide +kernel
theorem dX7_row_205 : decode cX7_row 205 = .ok (.invokevirtual 230, 3) := by decide +kernel
theorem dX7_row_208 : decode cX7_row 208 = .ok (.goto 9, 3) := by decide +kernel
theorem dX7_row_211 : decode cX7_row 211 = .ok (.aload_n 0, 1) := by decide +kernel
theorem dX7_row_212 : decode cX7_row 212 = .ok (.iload_n 1, 1) := by decide +kernel
theorem dX7_row_213 : decode cX7_row 213 = .ok (.iload_n 2, 1) := by decide +kernel
theorem dX7_row_214 : decode cX7_row 214 = .ok (.invokevirtual 230, 3) := by decide +kernel
theorem dX7_row_217 : decode cX7_row 217 = .ok (.return_, 1) := by decide +kernel
theorem dX7_tokens_0 : decode cX7_tokens 0 = .ok (.iload_n 1, 1) := by decide +kernel
theorem dX7_tokens_1 : decode cX7_tokens 1 = .ok (.iconst 0, 1) := by decide +kernel
theorem dX7_tokens_2 : decode cX7_tokens 2 = .ok (.bipush 8, 2) := by decide +kernel
theorem dX7_tokens_4 : decode cX7_tokens 4 = .ok (.invokestatic 85, 3) := by decide +kernel
theorem dX7_tokens_7 : decode cX7_tokens 7 = .ok (.ifCond .eq 36, 3) := by decide +kernel
theorem dX7_tokens_10 : decode cX7_tokens 10 = .ok (.iload_n 1, 1) := by decide +kernel
theorem dX7_tokens_11 : decode cX7_tokens 11 = .ok (.iconst 5, 1) := by decide +kernel
theorem dX7_tokens_12 : decode cX7_tokens 12 = .ok (.if_icmp .eq 9, 3) := by decide +kernel
theorem dX7_tokens_15 : decode cX7_tokens 15 = .ok (.iload_n 1, 1) := by decide +kernel
theorem dX7_tokens_16 : decode cX7_tokens 16 = .ok (.bipush 6, 2) := by decide +kernel
theorem dX7_tokens_18 : decode cX7_tokens 18 = .ok (.if_icmp .ne 27, 3) := by decide +kernel
theorem dX7_tokens_21 : decode cX7_tokens 21 = .ok (.iload_n 2, 1) := by decide +kernel
theorem dX7_tokens_22 : decode cX7_tokens 22 = .ok (.iconst 1, 1) := by decide +kernel
theorem dX7_tokens_23 : decode cX7_tokens 23 = .ok (.sipush 300, 3) := by decide +kernel
theorem dX7_tokens_26 : decode cX7_tokens 26 = .ok (.invokestatic 85, 3) := by decide +kernel
theorem dX7_tokens_29 : decode cX7_tokens 29 = .ok (.ifCond .eq 14, 3) := by decide +kernel
theorem dX7_tokens_32 : decode cX7_tokens 32 = .ok (.iload_n 3, 1) := by decide +kernel
theorem dX7_tokens_33 : decode cX7_tokens 33 = .ok (.iload_n 2, 1) := by decide +kernel
theorem dX7_tokens_34 : decode cX7_tokens 34 = .ok (.sipush 300, 3) := by decide +kernel
theorem dX7_tokens_37 : decode cX7_tokens 37 = .ok (.invokestatic 85, 3) := by decide +kernel
theorem dX7_tokens_40 : decode cX7_tokens 40 = .ok (.ifCond .ne 5, 3) := by decide +kernel
theorem dX7_tokens_43 : decode cX7_tokens 43 = .ok (.iconst (-1), 1) := by decide +kernel
theorem dX7_tokens_44 : decode cX7_tokens 44 = .ok (.ireturn, 1) := by decide +kernel
theorem dX7_tokens_45 : decode cX7_tokens 45 = .ok (.aload_n 0, 1) := by decide +kernel
theorem dX7_tokens_46 : decode cX7_tokens 46 = .ok (.iload_n 1, 1) := by decide +kernel
theorem dX7_tokens_47 : decode cX7_tokens 47 = .ok (.putfield 211, 3) := by decide +kernel
theorem dX7_tokens_50 : decode cX7_tokens 50 = .ok (.aload_n 0, 1) := by decide +kernel
theorem dX7_tokens_51 : decode cX7_tokens 51 = .ok (.iconst 0, 1) := by decide +kernel
theorem dX7_tokens_52 : decode cX7_tokens 52 = .ok (.putfield 105, 3) := by decide +kernel
theorem dX7_tokens_55 : decode cX7_tokens 55 = .ok (.aload_n 0, 1) := by decide +kernel
theorem dX7_tokens_56 : decode cX7_tokens 56 = .ok (.iconst 0, 1) := by decide +kernel
theorem dX7_tokens_57 : decode cX7_tokens 57 = .ok (.putfield 208, 3) := by decide +kernel
theorem dX7_tokens_60 : decode cX7_tokens 60 = .ok (.aload_n 0, 1) := by decide +kernel
theorem dX7_tokens_61 : decode cX7_tokens 61 = .ok (.iconst (-1), 1) := by decide +kernel
theorem dX7_tokens_62 : decode cX7_tokens 62 = .ok (.putfield 214, 3) := by decide +kernel
theorem dX7_tokens_65 : decode cX7_tokens 65 = .ok (.aload_n 0, 1) := by decide +kernel
theorem dX7_tokens_66 : decode cX7_tokens 66 = .ok (.iconst (-1), 1) := by decide +kernel
theorem dX7_tokens_67 : decode cX7_tokens 67 = .ok (.putfield 217, 3) := by decide +kernel
theorem dX7_tokens_70 : decode cX7_tokens 70 = .ok (.iconst 0, 1) := by decide +kernel
theorem dX7_tokens_71 : decode cX7_tokens 71 = .ok (.istore 4, 2) := by decide +kernel
theorem dX7_tokens_73 : decode cX7_tokens 73 = .ok (.iload 4, 2) := by decide +kernel
theorem dX7_tokens_75 : decode cX7_tokens 75 = .ok (.aload_n 0, 1) := by decide +kernel
theorem dX7_tokens_76 : decode cX7_tokens 76 = .ok (.getfield 102, 3) := by decide +kernel
theorem dX7_tokens_79 : decode cX7_tokens 79 = .ok (.if_icmp .ge 88, 3) := by decide +kernel
theorem dX7_tokens_82 : decode cX7_tokens 82 = .ok (.iload 4, 2) := by decide +kernel
theorem dX7_tokens_84 : decode cX7_tokens 84 = .ok (.istore 5, 2) := by decide +kernel
theorem dX7_tokens_86 : decode cX7_tokens 86 = .ok (.iload_n 1, 1) := by decide +kernel
theorem dX7_tokens_87 : decode cX7_tokens 87 = .ok (.iconst 3, 1) := by decide +kernel
theorem dX7_tokens_88 : decode cX7_tokens 88 = .ok (.if_icmp .ne 17, 3) := by decide +kernel
theorem dX7_tokens_91 : decode cX7_tokens 91 = .ok (.iload 5, 2) := by decide +kernel
theorem dX7_tokens_93 : decode cX7_tokens 93 = .ok (.aload_n 0, 1) := by decide +kernel
theorem dX7_tokens_94 : decode cX7_tokens 94 = .ok (.iload 4, 2) := by decide +kernel
theorem dX7_tokens_96 : decode cX7_tokens 96 = .ok (.invokevirtual 185, 3) := by decide +kernel
theorem dX7_tokens_99 : decode cX7_tokens 99 = .ok (.iadd, 1) := by decide +kernel
theorem dX7_tokens_100 : decode cX7_tokens 100 = .ok (.istore 5, 2) := by decide +kernel
theorem dX7_tokens_102 : decode cX7_tokens 102 = .ok (.goto 27, 3) := by decide +kernel
theorem dX7_tokens_105 : decode cX7_tokens 105 = .ok (.iload 5, 2) := by decide +kernel
theorem dX7_tokens_107 : decode cX7_tokens 107 = .ok (.aload_n 0, 1) := by decide +kernel
theorem dX7_tokens_108 : decode cX7_tokens 108 = .ok (.getfield 102, 3) := by decide +kernel
theorem dX7_tokens_111 : decode cX7_tokens 111 = .ok (.if_icmp .ge 18, 3) := by decide +kernel
theorem dX7_tokens_114 : decode cX7_tokens 114 = .ok (.aload_n 0, 1) := by decide +kernel
theorem dX7_tokens_115 : decode cX7_tokens 115 = .ok (.iload 5, 2) := by decide +kernel
theorem dX7_tokens_117 : decode cX7_tokens 117 = .ok (.invokevirtual 249, 3) := by decide +kernel
theorem dX7_tokens_120 : decode cX7_tokens 120 = .ok (.ifCond .eq 9, 3) := by decide +kernel
theorem dX7_tokens_123 : decode cX7_tokens 123 = .ok (.iinc 5 1, 3) := by decide +kernel
theorem dX7_tokens_126 : decode cX7_tokens 126 = .ok (.goto (-21), 3) := by decide +kernel
theorem dX7_tokens_129 : decode cX7_tokens 129 = .ok (.iload 5, 2) := by decide +kernel
theorem dX7_tokens_131 : decode cX7_tokens 131 = .ok (.iload 4, 2) := by decide +kernel
theorem dX7_tokens_133 : decode cX7_tokens 133 = .ok (.if_icmp .le 13, 3) := by decide +kernel
theorem dX7_tokens_136 : decode cX7_tokens 136 = .ok (.aload_n 0, 1) := by decide +kernel
theorem dX7_tokens_137 : decode cX7_tokens 137 = .ok (.iload 4, 2) := by decide +kernel
theorem dX7_tokens_139 : decode cX7_tokens 139 = .ok (.iload 5, 2) := by decide +kernel
theorem dX7_tokens_141 : decode cX7_tokens 141 = .ok (.iload_n 2, 1) := by decide +kernel
theorem dX7_tokens_142 : decode cX7_tokens 142 = .ok (.iload_n 3, 1) := by decide +kernel
theorem dX7_tokens_143 : decode cX7_tokens 143 = .ok (.invokevirtual 252, 3) := by decide +kernel
theorem dX7_tokens_146 : decode cX7_tokens 146 = .ok (.iload 5, 2) := by decide +kernel
theorem dX7_tokens_148 : decode cX7_tokens 148 = .ok (.iload 4, 2) := by decide +kernel
theorem dX7_tokens_150 : decode cX7_tokens 150 = .ok (.if_icmp .le 8, 3) := by decide +kernel
theorem dX7_tokens_153 : decode cX7_tokens 153 = .ok (.iload 5, 2) := by decide +kernel
theorem dX7_tokens_155 : decode cX7_tokens 155 = .ok (.goto 7, 3) := by decide +kernel
theorem dX7_tokens_158 : decode cX7_tokens 158 = .ok (.iload 4, 2) := by decide +kernel
theorem dX7_tokens_160 : decode cX7_tokens 160 = .ok (.iconst 1, 1) := by decide +kernel
theorem dX7_tokens_161 : decode cX7_tokens 161 = .ok (.iadd, 1) := by decide +kernel
theorem dX7_tokens_162 : decode cX7_tokens 162 = .ok (.istore 4, 2) := by decide +kernel
theorem dX7_tokens_164 : decode cX7_tokens 164 = .ok (.goto (-91), 3) := by decide +kernel
theorem dX7_tokens_167 : decode cX7_tokens 167 = .ok (.aload_n 0, 1) := by decide +kernel
theorem dX7_tokens_168 : decode cX7_tokens 168 = .ok (.aload_n 0, 1) := by decide +kernel
theorem dX7_tokens_169 : decode cX7_tokens 169 = .ok (.getfield 208, 3) := by decide +kernel
theorem dX7_tokens_172 : decode cX7_tokens 172 = .ok (.ifCond .eq 7, 3) := by decide +kernel
theorem dX7_tokens_175 : decode cX7_tokens 175 = .ok (.iconst 0, 1) := by decide +kernel
theorem dX7_tokens_176 : decode cX7_tokens 176 = .ok (.goto 7, 3) := by decide +kernel
theorem dX7_tokens_179 : decode cX7_tokens 179 = .ok (.aload_n 0, 1) := by decide +kernel
theorem dX7_tokens_180 : decode cX7_tokens 180 = .ok (.getfield 105, 3) := by decide +kernel
theorem dX7_tokens_183 : decode cX7_tokens 183 = .ok (.putfield 105, 3) := by decide +kernel
theorem dX7_tokens_186 : decode cX7_tokens 186 = .ok (.aload_n 0, 1) := by decide +kernel
theorem dX7_tokens_187 : decode cX7_tokens 187 = .ok (.getfield 208, 3) := by decide +kernel
theorem dX7_tokens_190 : decode cX7_tokens 190 = .ok (.ifCond .eq 8, 3) := by decide +kernel
theorem dX7_tokens_193 : decode cX7_tokens 193 = .ok (.bipush (-3), 2) := by decide +kernel
theorem dX7_tokens_195 : decode cX7_tokens 195 = .ok (.goto 7, 3) := by decide +kernel
theorem dX7_tokens_198 : decode cX7_tokens 198 = .ok (.aload_n 0, 1) := by decide +kernel
theorem dX7_tokens_199 : decode cX7_tokens 199 = .ok (.getfield 105, 3) := by decide +kernel
theorem dX7_tokens_202 : decode cX7_tokens 202 = .ok (.ireturn, 1) := by decide +kernel
theorem dX7_isToken_0 : decode cX7_isToken 0 = .ok (.iload_n 1, 1) := by decide +kernel
theorem dX7_isToken_1 : decode cX7_isToken 1 = .ok (.iconst 0, 1) := by decide +kernel
theorem dX7_isToken_2 : decode cX7_isToken 2 = .ok (.aload_n 0, 1) := by decide +kernel
theorem dX7_isToken_3 : decode cX7_isToken 3 = .ok (.getfield 105, 3) := by decide +kernel
theorem dX7_isToken_6 : decode cX7_isToken 6 = .ok (.iconst 1, 1) := by decide +kernel
theorem dX7_isToken_7 : decode cX7_isToken 7 = .ok (.isub, 1) := by decide +kernel
theorem dX7_isToken_8 : decode cX7_isToken 8 = .ok (.invokestatic 85, 3) := by decide +kernel
theorem dX7_isToken_11 : decode cX7_isToken 11 = .ok (.ireturn, 1) := by decide +kernel
theorem dX7_token_0 : decode cX7_token 0 = .ok (.aload_n 0, 1) := by decide +kernel
theorem dX7_token_1 : decode cX7_token 1 = .ok (.iload_n 1, 1) := by decide +kernel
theorem dX7_token_2 : decode cX7_token 2 = .ok (.invokevirtual 256, 3) := by decide +kernel
theorem dX7_token_5 : decode cX7_token 5 = .ok (.ifCond .eq 12, 3) := by decide +kernel
theorem dX7_token_8 : decode cX7_token 8 = .ok (.iload_n 2, 1) := by decide +kernel
theorem dX7_token_9 : decode cX7_token 9 = .ok (.iconst 0, 1) := by decide +kernel
theorem dX7_token_10 : decode cX7_token 10 = .ok (.iconst 2, 1) := by decide +kernel
theorem dX7_token_11 : decode cX7_token 11 = .ok (.invokestatic 85, 3) := by decide +kernel
theorem dX7_token_14 : decode cX7_token 14 = .ok (.ifCond .ne 5, 3) := by decide +kernel
theorem dX7_token_17 : decode cX7_token 17 = .ok (.iconst (-1), 1) := by decide +kernel
theorem dX7_token_18 : decode cX7_token 18 = .ok (.ireturn, 1) := by decide +kernel
theorem dX7_token_19 : decode cX7_token 19 = .ok (.iload_n 2, 1) := by decide +kernel
theorem dX7_token_20 : decode cX7_token 20 = .ok (.ifCond .ne 12, 3) := by decide +kernel
theorem dX7_token_23 : decode cX7_token 23 = .ok (.aload_n 0, 1) := by decide +kernel
theorem dX7_token_24 : decode cX7_token 24 = .ok (.getfield 32, 3) := by decide +kernel
theorem dX7_token_27 : decode cX7_token 27 = .ok (.iload_n 1, 1) := by decide +kernel
theorem dX7_token_28 : decode cX7_token 28 = .ok (.iaload, 1) := by decide +kernel
theorem dX7_token_29 : decode cX7_token 29 = .ok (.goto 23, 3) := by decide +kernel
theorem dX7_token_32 : decode cX7_token 32 = .ok (.iload_n 2, 1) := by decide +kernel
theorem dX7_token_33 : decode cX7_token 33 = .ok (.iconst 1, 1) := by decide +kernel
theorem dX7_token_34 : decode cX7_token 34 = .ok (.if_icmp .ne 12, 3) := by decide +kernel
theorem dX7_token_37 : decode cX7_token 37 = .ok (.aload_n 0, 1) := by decide +kernel
theorem dX7_token_38 : decode cX7_token 38 = .ok (.getfield 35, 3) := by decide +kernel
theorem dX7_token_41 : decode cX7_token 41 = .ok (.iload_n 1, 1) := by decide +kernel
theorem dX7_token_42 : decode cX7_token 42 = .ok (.iaload, 1) := by decide +kernel
theorem dX7_token_43 : decode cX7_token 43 = .ok (.goto 9, 3) := by decide +kernel
theorem dX7_token_46 : decode cX7_token 46 = .ok (.aload_n 0, 1) := by decide +kernel
theorem dX7_token_47 : decode cX7_token 47 = .ok (.getfield 38, 3) := by decide +kernel
theorem dX7_token_50 : decode cX7_token 50 = .ok (.iload_n 1, 1) := by decide +kernel
theorem dX7_token_51 : decode cX7_token 51 = .ok (.iaload, 1) := by decide +kernel
theorem dX7_token_52 : decode cX7_token 52 = .ok (.ireturn, 1) := by decide +kernel
theorem dX7_sign_0 : decode cX7_sign 0 = .ok (.aload_n 0, 1) := by decide +kernel
theorem dX7_sign_1 : decode cX7_sign 1 = .ok (.iload_n 1, 1) := by decide +kernel
theorem dX7_sign_2 : decode cX7_sign 2 = .ok (.invokevirtual 256, 3) := by decide +kernel
theorem dX7_sign_5 : decode cX7_sign 5 = .ok (.ifCond .eq 42, 3) := by decide +kernel
theorem dX7_sign_8 : decode cX7_sign 8 = .ok (.iload_n 2, 1) := by decide +kernel
theorem dX7_sign_9 : decode cX7_sign 9 = .ok (.iconst 0, 1) := by decide +kernel
theorem dX7_sign_10 : decode cX7_sign 10 = .ok (.aload_n 0, 1) := by decide +kernel
theorem dX7_sign_11 : decode cX7_sign 11 = .ok (.getfield 35, 3) := by decide +kernel
theorem dX7_sign_14 : decode cX7_sign 14 = .ok (.iload_n 1, 1) := by decide +kernel
theorem dX7_sign_15 : decode cX7_sign 15 = .ok (.iaload, 1) := by decide +kernel
theorem dX7_sign_16 : decode cX7_sign 16 = .ok (.aload_n 0, 1) := by decide +kernel
theorem dX7_sign_17 : decode cX7_sign 17 = .ok (.getfield 32, 3) := by decide +kernel
theorem dX7_sign_20 : decode cX7_sign 20 = .ok (.iload_n 1, 1) := by decide +kernel
theorem dX7_sign_21 : decode cX7_sign 21 = .ok (.iaload, 1) := by decide +kernel
theorem dX7_sign_22 : decode cX7_sign 22 = .ok (.isub, 1) := by decide +kernel
theorem dX7_sign_23 : decode cX7_sign 23 = .ok (.iconst 1, 1) := by decide +kernel
theorem dX7_sign_24 : decode cX7_sign 24 = .ok (.isub, 1) := by decide +kernel
theorem dX7_sign_25 : decode cX7_sign 25 = .ok (.invokestatic 85, 3) := by decide +kernel
theorem dX7_sign_28 : decode cX7_sign 28 = .ok (.ifCond .eq 19, 3) := by decide +kernel
theorem dX7_sign_31 : decode cX7_sign 31 = .ok (.aload_n 0, 1) := by decide +kernel
theorem dX7_sign_32 : decode cX7_sign 32 = .ok (.getfield 13, 3) := by decide +kernel
theorem dX7_sign_35 : decode cX7_sign 35 = .ok (.aload_n 0, 1) := by decide +kernel
theorem dX7_sign_36 : decode cX7_sign 36 = .ok (.getfield 32, 3) := by decide +kernel
theorem dX7_sign_39 : decode cX7_sign 39 = .ok (.iload_n 1, 1) := by decide +kernel
theorem dX7_sign_40 : decode cX7_sign 40 = .ok (.iaload, 1) := by decide +kernel
theorem dX7_sign_41 : decode cX7_sign 41 = .ok (.iload_n 2, 1) := by decide +kernel
theorem dX7_sign_42 : decode cX7_sign 42 = .ok (.iadd, 1) := by decide +kernel
theorem dX7_sign_43 : decode cX7_sign 43 = .ok (.iaload, 1) := by decide +kernel
theorem dX7_sign_44 : decode cX7_sign 44 = .ok (.goto 4, 3) := by decide +kernel
theorem dX7_sign_47 : decode cX7_sign 47 = .ok (.iconst (-1), 1) := by decide +kernel
theorem dX7_sign_48 : decode cX7_sign 48 = .ok (.ireturn, 1) := by decide +kernel
theorem dX7_same_0 : decode cX7_same 0 = .ok (.aload_n 0, 1) := by decide +kernel
theorem dX7_same_1 : decode cX7_same 1 = .ok (.iload_n 1, 1) := by decide +kernel
theorem dX7_same_2 : decode cX7_same 2 = .ok (.invokevirtual 256, 3) := by decide +kernel
theorem dX7_same_5 : decode cX7_same 5 = .ok (.ifCond .eq 11, 3) := by decide +kernel
theorem dX7_same_8 : decode cX7_same 8 = .ok (.aload_n 0, 1) := by decide +kernel
theorem dX7_same_9 : decode cX7_same 9 = .ok (.iload_n 2, 1) := by decide +kernel
theorem dX7_same_10 : decode cX7_same 10 = .ok (.invokevirtual 256, 3) := by decide +kernel
theorem dX7_same_13 : decode cX7_same 13 = .ok (.ifCond .ne 5, 3) := by decide +kernel
theorem dX7_same_16 : decode cX7_same 16 = .ok (.iconst (-1), 1) := by decide +kernel
theorem dX7_same_17 : decode cX7_same 17 = .ok (.ireturn, 1) := by decide +kernel
theorem dX7_same_18 : decode cX7_same 18 = .ok (.aload_n 0, 1) := by decide +kernel
theorem dX7_same_19 : decode cX7_same 19 = .ok (.getfield 35, 3) := by decide +kernel
theorem dX7_same_22 : decode cX7_same 22 = .ok (.iload_n 1, 1) := by decide +kernel
theorem dX7_same_23 : decode cX7_same 23 = .ok (.iaload, 1) := by decide +kernel
theorem dX7_same_24 : decode cX7_same 24 = .ok (.aload_n 0, 1) := by decide +kernel
theorem dX7_same_25 : decode cX7_same 25 = .ok (.getfield 32, 3) := by decide +kernel
theorem dX7_same_28 : decode cX7_same 28 = .ok (.iload_n 1, 1) := by decide +kernel
theorem dX7_same_29 : decode cX7_same 29 = .ok (.iaload, 1) := by decide +kernel
theorem dX7_same_30 : decode cX7_same 30 = .ok (.isub, 1) := by decide +kernel
theorem dX7_same_31 : decode cX7_same 31 = .ok (.istore_n 3, 1) := by decide +kernel
theorem dX7_same_32 : decode cX7_same 32 = .ok (.iload_n 3, 1) := by decide +kernel
theorem dX7_same_33 : decode cX7_same 33 = .ok (.aload_n 0, 1) := by decide +kernel
theorem dX7_same_34 : decode cX7_same 34 = .ok (.getfield 35, 3) := by decide +kernel
theorem dX7_same_37 : decode cX7_same 37 = .ok (.iload_n 2, 1) := by decide +kernel
theorem dX7_same_38 : decode cX7_same 38 = .ok (.iaload, 1) := by decide +kernel
theorem dX7_same_39 : decode cX7_same 39 = .ok (.aload_n 0, 1) := by decide +kernel
theorem dX7_same_40 : decode cX7_same 40 = .ok (.getfield 32, 3) := by decide +kernel
theorem dX7_same_43 : decode cX7_same 43 = .ok (.iload_n 2, 1) := by decide +kernel
theorem dX7_same_44 : decode cX7_same 44 = .ok (.iaload, 1) := by decide +kernel
theorem dX7_same_45 : decode cX7_same 45 = .ok (.isub, 1) := by decide +kernel
theorem dX7_same_46 : decode cX7_same 46 = .ok (.if_icmp .ne 7, 3) := by decide +kernel
theorem dX7_same_49 : decode cX7_same 49 = .ok (.iconst 1, 1) := by decide +kernel
theorem dX7_same_50 : decode cX7_same 50 = .ok (.goto 4, 3) := by decide +kernel
theorem dX7_same_53 : decode cX7_same 53 = .ok (.iconst 0, 1) := by decide +kernel
theorem dX7_same_54 : decode cX7_same 54 = .ok (.istore 4, 2) := by decide +kernel
theorem dX7_same_56 : decode cX7_same 56 = .ok (.iconst 0, 1) := by decide +kernel
theorem dX7_same_57 : decode cX7_same 57 = .ok (.istore 5, 2) := by decide +kernel
theorem dX7_same_59 : decode cX7_same 59 = .ok (.iload 5, 2) := by decide +kernel
theorem dX7_same_61 : decode cX7_same 61 = .ok (.iload_n 3, 1) := by decide +kernel
theorem dX7_same_62 : decode cX7_same 62 = .ok (.if_icmp .ge 52, 3) := by decide +kernel
theorem dX7_same_65 : decode cX7_same 65 = .ok (.iload 4, 2) := by decide +kernel
theorem dX7_same_67 : decode cX7_same 67 = .ok (.ifCond .eq 47, 3) := by decide +kernel
theorem dX7_same_70 : decode cX7_same 70 = .ok (.aload_n 0, 1) := by decide +kernel
theorem dX7_same_71 : decode cX7_same 71 = .ok (.getfield 13, 3) := by decide +kernel
theorem dX7_same_74 : decode cX7_same 74 = .ok (.aload_n 0, 1) := by decide +kernel
theorem dX7_same_75 : decode cX7_same 75 = .ok (.getfield 32, 3) := by decide +kernel
theorem dX7_same_78 : decode cX7_same 78 = .ok (.iload_n 1, 1) := by decide +kernel
theorem dX7_same_79 : decode cX7_same 79 = .ok (.iaload, 1) := by decide +kernel
theorem dX7_same_80 : decode cX7_same 80 = .ok (.iload 5, 2) := by decide +kernel
theorem dX7_same_82 : decode cX7_same 82 = .ok (.iadd, 1) := by decide +kernel
theorem dX7_same_83 : decode cX7_same 83 = .ok (.iaload, 1) := by decide +kernel
theorem dX7_same_84 : decode cX7_same 84 = .ok (.aload_n 0, 1) := by decide +kernel
theorem dX7_same_85 : decode cX7_same 85 = .ok (.getfield 13, 3) := by decide +kernel
theorem dX7_same_88 : decode cX7_same 88 = .ok (.aload_n 0, 1) := by decide +kernel
theorem dX7_same_89 : decode cX7_same 89 = .ok (.getfield 32, 3) := by decide +kernel
theorem dX7_same_92 : decode cX7_same 92 = .ok (.iload_n 2, 1) := by decide +kernel
theorem dX7_same_93 : decode cX7_same 93 = .ok (.iaload, 1) := by decide +kernel
theorem dX7_same_94 : decode cX7_same 94 = .ok (.iload 5, 2) := by decide +kernel
theorem dX7_same_96 : decode cX7_same 96 = .ok (.iadd, 1) := by decide +kernel
theorem dX7_same_97 : decode cX7_same 97 = .ok (.iaload, 1) := by decide +kernel
theorem dX7_same_98 : decode cX7_same 98 = .ok (.if_icmp .ne 7, 3) := by decide +kernel
theorem dX7_same_101 : decode cX7_same 101 = .ok (.iconst 1, 1) := by decide +kernel
theorem dX7_same_102 : decode cX7_same 102 = .ok (.goto 4, 3) := by decide +kernel
theorem dX7_same_105 : decode cX7_same 105 = .ok (.iconst 0, 1) := by decide +kernel
theorem dX7_same_106 : decode cX7_same 106 = .ok (.istore 4, 2) := by decide +kernel
theorem dX7_same_108 : decode cX7_same 108 = .ok (.iinc 5 1, 3) := by decide +kernel
theorem dX7_same_111 : decode cX7_same 111 = .ok (.goto (-52), 3) := by decide +kernel
theorem dX7_same_114 : decode cX7_same 114 = .ok (.iload 4, 2) := by decide +kernel
theorem dX7_same_116 : decode cX7_same 116 = .ok (.ifCond .eq 7, 3) := by decide +kernel
theorem dX7_same_119 : decode cX7_same 119 = .ok (.iconst 1, 1) := by decide +kernel
theorem dX7_same_120 : decode cX7_same 120 = .ok (.goto 4, 3) := by decide +kernel
theorem dX7_same_123 : decode cX7_same 123 = .ok (.iconst 0, 1) := by decide +kernel
theorem dX7_same_124 : decode cX7_same 124 = .ok (.ireturn, 1) := by decide +kernel
theorem dX7_count_0 : decode cX7_count 0 = .ok (.iload_n 1, 1) := by decide +kernel
theorem dX7_count_1 : decode cX7_count 1 = .ok (.tableswitch 60 0 4 #[35, 40, 45, 50, 55], 35) := by decide +kernel
theorem dX7_count_36 : decode cX7_count 36 = .ok (.aload_n 0, 1) := by decide +kernel
theorem dX7_count_37 : decode cX7_count 37 = .ok (.getfield 102, 3) := by decide +kernel
theorem dX7_count_40 : decode cX7_count 40 = .ok (.ireturn, 1) := by decide +kernel
theorem dX7_count_41 : decode cX7_count 41 = .ok (.aload_n 0, 1) := by decide +kernel
theorem dX7_count_42 : decode cX7_count 42 = .ok (.getfield 105, 3) := by decide +kernel
theorem dX7_count_45 : decode cX7_count 45 = .ok (.ireturn, 1) := by decide +kernel
theorem dX7_count_46 : decode cX7_count 46 = .ok (.aload_n 0, 1) := by decide +kernel
theorem dX7_count_47 : decode cX7_count 47 = .ok (.getfield 99, 3) := by decide +kernel
theorem dX7_count_50 : decode cX7_count 50 = .ok (.ireturn, 1) := by decide +kernel
theorem dX7_count_51 : decode cX7_count 51 = .ok (.aload_n 0, 1) := by decide +kernel
theorem dX7_count_52 : decode cX7_count 52 = .ok (.getfield 176, 3) := by decide +kernel
theorem dX7_count_55 : decode cX7_count 55 = .ok (.ireturn, 1) := by decide +kernel
theorem dX7_count_56 : decode cX7_count 56 = .ok (.aload_n 0, 1) := by decide +kernel
theorem dX7_count_57 : decode cX7_count 57 = .ok (.getfield 189, 3) := by decide +kernel
theorem dX7_count_60 : decode cX7_count 60 = .ok (.ireturn, 1) := by decide +kernel
theorem dX7_count_61 : decode cX7_count 61 = .ok (.iconst (-1), 1) := by decide +kernel
theorem dX7_count_62 : decode cX7_count 62 = .ok (.ireturn, 1) := by decide +kernel
theorem dJ9_max_7cf53_0 : decode cJ9_max_7cf53 0 = .ok (.iload_n 0, 1) := by decide +kernel
theorem dJ9_max_7cf53_1 : decode cJ9_max_7cf53 1 = .ok (.iload_n 1, 1) := by decide +kernel
theorem dJ9_max_7cf53_2 : decode cJ9_max_7cf53 2 = .ok (.if_icmp .lt 7, 3) := by decide +kernel
theorem dJ9_max_7cf53_5 : decode cJ9_max_7cf53 5 = .ok (.iload_n 0, 1) := by decide +kernel
theorem dJ9_max_7cf53_6 : decode cJ9_max_7cf53 6 = .ok (.goto 4, 3) := by decide +kernel
theorem dJ9_max_7cf53_9 : decode cJ9_max_7cf53 9 = .ok (.iload_n 1, 1) := by decide +kernel
theorem dJ9_max_7cf53_10 : decode cJ9_max_7cf53 10 = .ok (.ireturn, 1) := by decide +kernel
theorem dJ9_min_7cf53_0 : decode cJ9_min_7cf53 0 = .ok (.iload_n 0, 1) := by decide +kernel
theorem dJ9_min_7cf53_1 : decode cJ9_min_7cf53 1 = .ok (.iload_n 1, 1) := by decide +kernel
theorem dJ9_min_7cf53_2 : decode cJ9_min_7cf53 2 = .ok (.if_icmp .gt 7, 3) := by decide +kernel
theorem dJ9_min_7cf53_5 : decode cJ9_min_7cf53 5 = .ok (.iload_n 0, 1) := by decide +kernel
theorem dJ9_min_7cf53_6 : decode cJ9_min_7cf53 6 = .ok (.goto 4, 3) := by decide +kernel
theorem dJ9_min_7cf53_9 : decode cJ9_min_7cf53 9 = .ok (.iload_n 1, 1) := by decide +kernel
theorem dJ9_min_7cf53_10 : decode cJ9_min_7cf53 10 = .ok (.ireturn, 1) := by decide +kernel
theorem dJ7_fill_d0a16_0 : decode cJ7_fill_d0a16 0 = .ok (.iconst 0, 1) := by decide +kernel
theorem dJ7_fill_d0a16_1 : decode cJ7_fill_d0a16 1 = .ok (.istore_n 3, 1) := by decide +kernel
theorem dJ7_fill_d0a16_2 : decode cJ7_fill_d0a16 2 = .ok (.aload_n 0, 1) := by decide +kernel
theorem dJ7_fill_d0a16_3 : decode cJ7_fill_d0a16 3 = .ok (.arraylength, 1) := by decide +kernel
theorem dJ7_fill_d0a16_4 : decode cJ7_fill_d0a16 4 = .ok (.istore 4, 2) := by decide +kernel
theorem dJ7_fill_d0a16_6 : decode cJ7_fill_d0a16 6 = .ok (.iload_n 3, 1) := by decide +kernel
theorem dJ7_fill_d0a16_7 : decode cJ7_fill_d0a16 7 = .ok (.iload 4, 2) := by decide +kernel
theorem dJ7_fill_d0a16_9 : decode cJ7_fill_d0a16 9 = .ok (.if_icmp .ge 13, 3) := by decide +kernel
theorem dJ7_fill_d0a16_12 : decode cJ7_fill_d0a16 12 = .ok (.aload_n 0, 1) := by decide +kernel
theorem dJ7_fill_d0a16_13 : decode cJ7_fill_d0a16 13 = .ok (.iload_n 3, 1) := by decide +kernel
theorem dJ7_fill_d0a16_14 : decode cJ7_fill_d0a16 14 = .ok (.lload_n 1, 1) := by decide +kernel
theorem dJ7_fill_d0a16_15 : decode cJ7_fill_d0a16 15 = .ok (.lastore, 1) := by decide +kernel
theorem dJ7_fill_d0a16_16 : decode cJ7_fill_d0a16 16 = .ok (.iinc 3 1, 3) := by decide +kernel
theorem dJ7_fill_d0a16_19 : decode cJ7_fill_d0a16 19 = .ok (.goto (-13), 3) := by decide +kernel
theorem dJ7_fill_d0a16_22 : decode cJ7_fill_d0a16 22 = .ok (.return_, 1) := by decide +kernel
theorem dL_law_0 : decode cL_law 0 = .ok (.new 7, 3) := by decide +kernel
theorem dL_law_3 : decode cL_law 3 = .ok (.dup, 1) := by decide +kernel
theorem dL_law_4 : decode cL_law 4 = .ok (.invokespecial 9, 3) := by decide +kernel
theorem dL_law_7 : decode cL_law 7 = .ok (.astore_n 1, 1) := by decide +kernel
theorem dL_law_8 : decode cL_law 8 = .ok (.new 10, 3) := by decide +kernel
theorem dL_law_11 : decode cL_law 11 = .ok (.dup, 1) := by decide +kernel
theorem dL_law_12 : decode cL_law 12 = .ok (.invokespecial 12, 3) := by decide +kernel
theorem dL_law_15 : decode cL_law 15 = .ok (.astore_n 2, 1) := by decide +kernel
theorem dL_law_16 : decode cL_law 16 = .ok (.iconst 0, 1) := by decide +kernel
theorem dL_law_17 : decode cL_law 17 = .ok (.istore_n 3, 1) := by decide +kernel
theorem dL_law_18 : decode cL_law 18 = .ok (.iload_n 3, 1) := by decide +kernel
theorem dL_law_19 : decode cL_law 19 = .ok (.aload_n 0, 1) := by decide +kernel
theorem dL_law_20 : decode cL_law 20 = .ok (.arraylength, 1) := by decide +kernel
theorem dL_law_21 : decode cL_law 21 = .ok (.iconst 4, 1) := by decide +kernel
theorem dL_law_22 : decode cL_law 22 = .ok (.isub, 1) := by decide +kernel
theorem dL_law_23 : decode cL_law 23 = .ok (.if_icmp .gt 505, 3) := by decide +kernel
theorem dL_law_26 : decode cL_law 26 = .ok (.aload_n 0, 1) := by decide +kernel
theorem dL_law_27 : decode cL_law 27 = .ok (.iload_n 3, 1) := by decide +kernel
theorem dL_law_28 : decode cL_law 28 = .ok (.iaload, 1) := by decide +kernel
theorem dL_law_29 : decode cL_law 29 = .ok (.bipush 15, 2) := by decide +kernel
theorem dL_law_31 : decode cL_law 31 = .ok (.iand, 1) := by decide +kernel
theorem dL_law_32 : decode cL_law 32 = .ok (.tableswitch 490 0 13 #[72, 135, 148, 161, 184, 207, 246, 279, 322, 355, 388, 421, 444, 467], 72) := by decide +kernel
theorem dL_law_104 : decode cL_law 104 = .ok (.aload_n 1, 1) := by decide +kernel
theorem dL_law_105 : decode cL_law 105 = .ok (.aload_n 0, 1) := by decide +kernel
theorem dL_law_106 : decode cL_law 106 = .ok (.iload_n 3, 1) := by decide +kernel
theorem dL_law_107 : decode cL_law 107 = .ok (.iconst 1, 1) := by decide +kernel
theorem dL_law_108 : decode cL_law 108 = .ok (.iadd, 1) := by decide +kernel
theorem dL_law_109 : decode cL_law 109 = .ok (.iaload, 1) := by decide +kernel
theorem dL_law_110 : decode cL_law 110 = .ok (.aload_n 0, 1) := by decide +kernel
theorem dL_law_111 : decode cL_law 111 = .ok (.iload_n 3, 1) := by decide +kernel
theorem dL_law_112 : decode cL_law 112 = .ok (.iconst 2, 1) := by decide +kernel
theorem dL_law_113 : decode cL_law 113 = .ok (.iadd, 1) := by decide +kernel
theorem dL_law_114 : decode cL_law 114 = .ok (.iaload, 1) := by decide +kernel
theorem dL_law_115 : decode cL_law 115 = .ok (.i2l, 1) := by decide +kernel
theorem dL_law_116 : decode cL_law 116 = .ok (.bipush 32, 2) := by decide +kernel
theorem dL_law_118 : decode cL_law 118 = .ok (.lshl, 1) := by decide +kernel
theorem dL_law_119 : decode cL_law 119 = .ok (.aload_n 0, 1) := by decide +kernel
theorem dL_law_120 : decode cL_law 120 = .ok (.iload_n 3, 1) := by decide +kernel
theorem dL_law_121 : decode cL_law 121 = .ok (.iconst 3, 1) := by decide +kernel
theorem dL_law_122 : decode cL_law 122 = .ok (.iadd, 1) := by decide +kernel
theorem dL_law_123 : decode cL_law 123 = .ok (.iaload, 1) := by decide +kernel
theorem dL_law_124 : decode cL_law 124 = .ok (.i2l, 1) := by decide +kernel
theorem dL_law_125 : decode cL_law 125 = .ok (.ldc2_w 13, 3) := by decide +kernel
theorem dL_law_128 : decode cL_law 128 = .ok (.land, 1) := by decide +kernel
theorem dL_law_129 : decode cL_law 129 = .ok (.lor, 1) := by decide +kernel
theorem dL_law_130 : decode cL_law 130 = .ok (.invokevirtual 15, 3) := by decide +kernel
theorem dL_law_133 : decode cL_law 133 = .ok (.aload_n 2, 1) := by decide +kernel
theorem dL_law_134 : decode cL_law 134 = .ok (.aload_n 0, 1) := by decide +kernel
theorem dL_law_135 : decode cL_law 135 = .ok (.iload_n 3, 1) := by decide +kernel
theorem dL_law_136 : decode cL_law 136 = .ok (.iconst 1, 1) := by decide +kernel
theorem dL_law_137 : decode cL_law 137 = .ok (.iadd, 1) := by decide +kernel
theorem dL_law_138 : decode cL_law 138 = .ok (.iaload, 1) := by decide +kernel
theorem dL_law_139 : decode cL_law 139 = .ok (.aload_n 0, 1) := by decide +kernel
theorem dL_law_140 : decode cL_law 140 = .ok (.iload_n 3, 1) := by decide +kernel
theorem dL_law_141 : decode cL_law 141 = .ok (.iconst 2, 1) := by decide +kernel
theorem dL_law_142 : decode cL_law 142 = .ok (.iadd, 1) := by decide +kernel
theorem dL_law_143 : decode cL_law 143 = .ok (.iaload, 1) := by decide +kernel
theorem dL_law_144 : decode cL_law 144 = .ok (.i2l, 1) := by decide +kernel
theorem dL_law_145 : decode cL_law 145 = .ok (.bipush 32, 2) := by decide +kernel
theorem dL_law_147 : decode cL_law 147 = .ok (.lshl, 1) := by decide +kernel
theorem dL_law_148 : decode cL_law 148 = .ok (.aload_n 0, 1) := by decide +kernel
theorem dL_law_149 : decode cL_law 149 = .ok (.iload_n 3, 1) := by decide +kernel
theorem dL_law_150 : decode cL_law 150 = .ok (.iconst 3, 1) := by decide +kernel
theorem dL_law_151 : decode cL_law 151 = .ok (.iadd, 1) := by decide +kernel
theorem dL_law_152 : decode cL_law 152 = .ok (.iaload, 1) := by decide +kernel
theorem dL_law_153 : decode cL_law 153 = .ok (.i2l, 1) := by decide +kernel
theorem dL_law_154 : decode cL_law 154 = .ok (.ldc2_w 13, 3) := by decide +kernel
theorem dL_law_157 : decode cL_law 157 = .ok (.land, 1) := by decide +kernel
theorem dL_law_158 : decode cL_law 158 = .ok (.lor, 1) := by decide +kernel
theorem dL_law_159 : decode cL_law 159 = .ok (.invokevirtual 19, 3) := by decide +kernel
theorem dL_law_162 : decode cL_law 162 = .ok (.if_icmp .eq 360, 3) := by decide +kernel
theorem dL_law_165 : decode cL_law 165 = .ok (.iconst 0, 1) := by decide +kernel
theorem dL_law_166 : decode cL_law 166 = .ok (.ireturn, 1) := by decide +kernel
theorem dL_law_167 : decode cL_law 167 = .ok (.aload_n 1, 1) := by decide +kernel
theorem dL_law_168 : decode cL_law 168 = .ok (.invokevirtual 20, 3) := by decide +kernel
theorem dL_law_171 : decode cL_law 171 = .ok (.aload_n 2, 1) := by decide +kernel
theorem dL_law_172 : decode cL_law 172 = .ok (.invokevirtual 24, 3) := by decide +kernel
theorem dL_law_175 : decode cL_law 175 = .ok (.if_icmp .eq 347, 3) := by decide +kernel
theorem dL_law_178 : decode cL_law 178 = .ok (.iconst 0, 1) := by decide +kernel
theorem dL_law_179 : decode cL_law 179 = .ok (.ireturn, 1) := by decide +kernel
theorem dL_law_180 : decode cL_law 180 = .ok (.aload_n 1, 1) := by decide +kernel
theorem dL_law_181 : decode cL_law 181 = .ok (.invokevirtual 25, 3) := by decide +kernel
theorem dL_law_184 : decode cL_law 184 = .ok (.aload_n 2, 1) := by decide +kernel
theorem dL_law_185 : decode cL_law 185 = .ok (.invokevirtual 28, 3) := by decide +kernel
theorem dL_law_188 : decode cL_law 188 = .ok (.if_icmp .eq 334, 3) := by decide +kernel
theorem dL_law_191 : decode cL_law 191 = .ok (.iconst 0, 1) := by decide +kernel
theorem dL_law_192 : decode cL_law 192 = .ok (.ireturn, 1) := by decide +kernel
theorem dL_law_193 : decode cL_law 193 = .ok (.aload_n 1, 1) := by decide +kernel
theorem dL_law_194 : decode cL_law 194 = .ok (.aload_n 0, 1) := by decide +kernel
theorem dL_law_195 : decode cL_law 195 = .ok (.iload_n 3, 1) := by decide +kernel
theorem dL_law_196 : decode cL_law 196 = .ok (.iconst 1, 1) := by decide +kernel
theorem dL_law_197 : decode cL_law 197 = .ok (.iadd, 1) := by decide +kernel
theorem dL_law_198 : decode cL_law 198 = .ok (.iaload, 1) := by decide +kernel
theorem dL_law_199 : decode cL_law 199 = .ok (.invokevirtual 29, 3) := by decide +kernel
theorem dL_law_202 : decode cL_law 202 = .ok (.aload_n 2, 1) := by decide +kernel
theorem dL_law_203 : decode cL_law 203 = .ok (.aload_n 0, 1) := by decide +kernel
theorem dL_law_204 : decode cL_law 204 = .ok (.iload_n 3, 1) := by decide +kernel
theorem dL_law_205 : decode cL_law 205 = .ok (.iconst 1, 1) := by decide +kernel
theorem dL_law_206 : decode cL_law 206 = .ok (.iadd, 1) := by decide +kernel
theorem dL_law_207 : decode cL_law 207 = .ok (.iaload, 1) := by decide +kernel
theorem dL_law_208 : decode cL_law 208 = .ok (.invokevirtual 33, 3) := by decide +kernel
theorem dL_law_211 : decode cL_law 211 = .ok (.if_icmp .eq 311, 3) := by decide +kernel
theorem dL_law_214 : decode cL_law 214 = .ok (.iconst 0, 1) := by decide +kernel
theorem dL_law_215 : decode cL_law 215 = .ok (.ireturn, 1) := by decide +kernel
theorem dL_law_216 : decode cL_law 216 = .ok (.aload_n 1, 1) := by decide +kernel
theorem dL_law_217 : decode cL_law 217 = .ok (.aload_n 0, 1) := by decide +kernel
theorem dL_law_218 : decode cL_law 218 = .ok (.iload_n 3, 1) := by decide +kernel
theorem dL_law_219 : decode cL_law 219 = .ok (.iconst 1, 1) := by decide +kernel
theorem dL_law_220 : decode cL_law 220 = .ok (.iadd, 1) := by decide +kernel
theorem dL_law_221 : decode cL_law 221 = .ok (.iaload, 1) := by decide +kernel
theorem dL_law_222 : decode cL_law 222 = .ok (.invokevirtual 34, 3) := by decide +kernel
theorem dL_law_225 : decode cL_law 225 = .ok (.aload_n 2, 1) := by decide +kernel
theorem dL_law_226 : decode cL_law 226 = .ok (.aload_n 0, 1) := by decide +kernel
theorem dL_law_227 : decode cL_law 227 = .ok (.iload_n 3, 1) := by decide +kernel
theorem dL_law_228 : decode cL_law 228 = .ok (.iconst 1, 1) := by decide +kernel
theorem dL_law_229 : decode cL_law 229 = .ok (.iadd, 1) := by decide +kernel
theorem dL_law_230 : decode cL_law 230 = .ok (.iaload, 1) := by decide +kernel
theorem dL_law_231 : decode cL_law 231 = .ok (.invokevirtual 37, 3) := by decide +kernel
theorem dL_law_234 : decode cL_law 234 = .ok (.if_icmp .eq 288, 3) := by decide +kernel
theorem dL_law_237 : decode cL_law 237 = .ok (.iconst 0, 1) := by decide +kernel
theorem dL_law_238 : decode cL_law 238 = .ok (.ireturn, 1) := by decide +kernel
theorem dL_law_239 : decode cL_law 239 = .ok (.aload_n 1, 1) := by decide +kernel
theorem dL_law_240 : decode cL_law 240 = .ok (.aload_n 0, 1) := by decide +kernel
theorem dL_law_241 : decode cL_law 241 = .ok (.iload_n 3, 1) := by decide +kernel
theorem dL_law_242 : decode cL_law 242 = .ok (.iconst 1, 1) := by decide +kernel
theorem dL_law_243 : decode cL_law 243 = .ok (.iadd, 1) := by decide +kernel
theorem dL_law_244 : decode cL_law 244 = .ok (.iaload, 1) := by decide +kernel
theorem dL_law_245 : decode cL_law 245 = .ok (.ifCond .eq 7, 3) := by decide +kernel
theorem dL_law_248 : decode cL_law 248 = .ok (.iconst 1, 1) := by decide +kernel
theorem dL_law_249 : decode cL_law 249 = .ok (.goto 4, 3) := by decide +kernel
theorem dL_law_252 : decode cL_law 252 = .ok (.iconst 0, 1) := by decide +kernel
theorem dL_law_253 : decode cL_law 253 = .ok (.invokevirtual 38, 3) := by decide +kernel
theorem dL_law_256 : decode cL_law 256 = .ok (.aload_n 2, 1) := by decide +kernel
theorem dL_law_257 : decode cL_law 257 = .ok (.aload_n 0, 1) := by decide +kernel
theorem dL_law_258 : decode cL_law 258 = .ok (.iload_n 3, 1) := by decide +kernel
theorem dL_law_259 : decode cL_law 259 = .ok (.iconst 1, 1) := by decide +kernel
theorem dL_law_260 : decode cL_law 260 = .ok (.iadd, 1) := by decide +kernel
theorem dL_law_261 : decode cL_law 261 = .ok (.iaload, 1) := by decide +kernel
theorem dL_law_262 : decode cL_law 262 = .ok (.ifCond .eq 7, 3) := by decide +kernel
theorem dL_law_265 : decode cL_law 265 = .ok (.iconst 1, 1) := by decide +kernel
theorem dL_law_266 : decode cL_law 266 = .ok (.goto 4, 3) := by decide +kernel
theorem dL_law_269 : decode cL_law 269 = .ok (.iconst 0, 1) := by decide +kernel
theorem dL_law_270 : decode cL_law 270 = .ok (.invokevirtual 42, 3) := by decide +kernel
theorem dL_law_273 : decode cL_law 273 = .ok (.if_icmp .eq 249, 3) := by decide +kernel
theorem dL_law_276 : decode cL_law 276 = .ok (.iconst 0, 1) := by decide +kernel
theorem dL_law_277 : decode cL_law 277 = .ok (.ireturn, 1) := by decide +kernel
theorem dL_law_278 : decode cL_law 278 = .ok (.aload_n 1, 1) := by decide +kernel
theorem dL_law_279 : decode cL_law 279 = .ok (.aload_n 0, 1) := by decide +kernel
theorem dL_law_280 : decode cL_law 280 = .ok (.iload_n 3, 1) := by decide +kernel
theorem dL_law_281 : decode cL_law 281 = .ok (.iconst 1, 1) := by decide +kernel
theorem dL_law_282 : decode cL_law 282 = .ok (.iadd, 1) := by decide +kernel
theorem dL_law_283 : decode cL_law 283 = .ok (.iaload, 1) := by decide +kernel
theorem dL_law_284 : decode cL_law 284 = .ok (.aload_n 0, 1) := by decide +kernel
theorem dL_law_285 : decode cL_law 285 = .ok (.iload_n 3, 1) := by decide +kernel
theorem dL_law_286 : decode cL_law 286 = .ok (.iconst 2, 1) := by decide +kernel
theorem dL_law_287 : decode cL_law 287 = .ok (.iadd, 1) := by decide +kernel
theorem dL_law_288 : decode cL_law 288 = .ok (.iaload, 1) := by decide +kernel
theorem dL_law_289 : decode cL_law 289 = .ok (.invokevirtual 43, 3) := by decide +kernel
theorem dL_law_292 : decode cL_law 292 = .ok (.aload_n 2, 1) := by decide +kernel
theorem dL_law_293 : decode cL_law 293 = .ok (.aload_n 0, 1) := by decide +kernel
theorem dL_law_294 : decode cL_law 294 = .ok (.iload_n 3, 1) := by decide +kernel
theorem dL_law_295 : decode cL_law 295 = .ok (.iconst 1, 1) := by decide +kernel
theorem dL_law_296 : decode cL_law 296 = .ok (.iadd, 1) := by decide +kernel
theorem dL_law_297 : decode cL_law 297 = .ok (.iaload, 1) := by decide +kernel
theorem dL_law_298 : decode cL_law 298 = .ok (.aload_n 0, 1) := by decide +kernel
theorem dL_law_299 : decode cL_law 299 = .ok (.iload_n 3, 1) := by decide +kernel
theorem dL_law_300 : decode cL_law 300 = .ok (.iconst 2, 1) := by decide +kernel
theorem dL_law_301 : decode cL_law 301 = .ok (.iadd, 1) := by decide +kernel
theorem dL_law_302 : decode cL_law 302 = .ok (.iaload, 1) := by decide +kernel
theorem dL_law_303 : decode cL_law 303 = .ok (.invokevirtual 47, 3) := by decide +kernel
theorem dL_law_306 : decode cL_law 306 = .ok (.if_icmp .eq 216, 3) := by decide +kernel
theorem dL_law_309 : decode cL_law 309 = .ok (.iconst 0, 1) := by decide +kernel
theorem dL_law_310 : decode cL_law 310 = .ok (.ireturn, 1) := by decide +kernel
theorem dL_law_311 : decode cL_law 311 = .ok (.aload_n 1, 1) := by decide +kernel
theorem dL_law_312 : decode cL_law 312 = .ok (.aload_n 0, 1) := by decide +kernel
theorem dL_law_313 : decode cL_law 313 = .ok (.iload_n 3, 1) := by decide +kernel
theorem dL_law_314 : decode cL_law 314 = .ok (.iconst 1, 1) := by decide +kernel
theorem dL_law_315 : decode cL_law 315 = .ok (.iadd, 1) := by decide +kernel
theorem dL_law_316 : decode cL_law 316 = .ok (.iaload, 1) := by decide +kernel
theorem dL_law_317 : decode cL_law 317 = .ok (.aload_n 0, 1) := by decide +kernel
theorem dL_law_318 : decode cL_law 318 = .ok (.iload_n 3, 1) := by decide +kernel
theorem dL_law_319 : decode cL_law 319 = .ok (.iconst 2, 1) := by decide +kernel
theorem dL_law_320 : decode cL_law 320 = .ok (.iadd, 1) := by decide +kernel
theorem dL_law_321 : decode cL_law 321 = .ok (.iaload, 1) := by decide +kernel
theorem dL_law_322 : decode cL_law 322 = .ok (.aload_n 0, 1) := by decide +kernel
theorem dL_law_323 : decode cL_law 323 = .ok (.iload_n 3, 1) := by decide +kernel
theorem dL_law_324 : decode cL_law 324 = .ok (.iconst 3, 1) := by decide +kernel
theorem dL_law_325 : decode cL_law 325 = .ok (.iadd, 1) := by decide +kernel
theorem dL_law_326 : decode cL_law 326 = .ok (.iaload, 1) := by decide +kernel
theorem dL_law_327 : decode cL_law 327 = .ok (.invokevirtual 48, 3) := by decide +kernel
theorem dL_law_330 : decode cL_law 330 = .ok (.aload_n 2, 1) := by decide +kernel
theorem dL_law_331 : decode cL_law 331 = .ok (.aload_n 0, 1) := by decide +kernel
theorem dL_law_332 : decode cL_law 332 = .ok (.iload_n 3, 1) := by decide +kernel
theorem dL_law_333 : decode cL_law 333 = .ok (.iconst 1, 1) := by decide +kernel
theorem dL_law_334 : decode cL_law 334 = .ok (.iadd, 1) := by decide +kernel
theorem dL_law_335 : decode cL_law 335 = .ok (.iaload, 1) := by decide +kernel
theorem dL_law_336 : decode cL_law 336 = .ok (.aload_n 0, 1) := by decide +kernel
theorem dL_law_337 : decode cL_law 337 = .ok (.iload_n 3, 1) := by decide +kernel
theorem dL_law_338 : decode cL_law 338 = .ok (.iconst 2, 1) := by decide +kernel
theorem dL_law_339 : decode cL_law 339 = .ok (.iadd, 1) := by decide +kernel
theorem dL_law_340 : decode cL_law 340 = .ok (.iaload, 1) := by decide +kernel
theorem dL_law_341 : decode cL_law 341 = .ok (.aload_n 0, 1) := by decide +kernel
theorem dL_law_342 : decode cL_law 342 = .ok (.iload_n 3, 1) := by decide +kernel
theorem dL_law_343 : decode cL_law 343 = .ok (.iconst 3, 1) := by decide +kernel
theorem dL_law_344 : decode cL_law 344 = .ok (.iadd, 1) := by decide +kernel
theorem dL_law_345 : decode cL_law 345 = .ok (.iaload, 1) := by decide +kernel
theorem dL_law_346 : decode cL_law 346 = .ok (.invokevirtual 52, 3) := by decide +kernel
theorem dL_law_349 : decode cL_law 349 = .ok (.if_icmp .eq 173, 3) := by decide +kernel
theorem dL_law_352 : decode cL_law 352 = .ok (.iconst 0, 1) := by decide +kernel
theorem dL_law_353 : decode cL_law 353 = .ok (.ireturn, 1) := by decide +kernel
theorem dL_law_354 : decode cL_law 354 = .ok (.aload_n 1, 1) := by decide +kernel
theorem dL_law_355 : decode cL_law 355 = .ok (.aload_n 0, 1) := by decide +kernel
theorem dL_law_356 : decode cL_law 356 = .ok (.iload_n 3, 1) := by decide +kernel
theorem dL_law_357 : decode cL_law 357 = .ok (.iconst 1, 1) := by decide +kernel
theorem dL_law_358 : decode cL_law 358 = .ok (.iadd, 1) := by decide +kernel
theorem dL_law_359 : decode cL_law 359 = .ok (.iaload, 1) := by decide +kernel
theorem dL_law_360 : decode cL_law 360 = .ok (.aload_n 0, 1) := by decide +kernel
theorem dL_law_361 : decode cL_law 361 = .ok (.iload_n 3, 1) := by decide +kernel
theorem dL_law_362 : decode cL_law 362 = .ok (.iconst 2, 1) := by decide +kernel
theorem dL_law_363 : decode cL_law 363 = .ok (.iadd, 1) := by decide +kernel
theorem dL_law_364 : decode cL_law 364 = .ok (.iaload, 1) := by decide +kernel
theorem dL_law_365 : decode cL_law 365 = .ok (.invokevirtual 53, 3) := by decide +kernel
theorem dL_law_368 : decode cL_law 368 = .ok (.aload_n 2, 1) := by decide +kernel
theorem dL_law_369 : decode cL_law 369 = .ok (.aload_n 0, 1) := by decide +kernel
theorem dL_law_370 : decode cL_law 370 = .ok (.iload_n 3, 1) := by decide +kernel
theorem dL_law_371 : decode cL_law 371 = .ok (.iconst 1, 1) := by decide +kernel
theorem dL_law_372 : decode cL_law 372 = .ok (.iadd, 1) := by decide +kernel
theorem dL_law_373 : decode cL_law 373 = .ok (.iaload, 1) := by decide +kernel
theorem dL_law_374 : decode cL_law 374 = .ok (.aload_n 0, 1) := by decide +kernel
theorem dL_law_375 : decode cL_law 375 = .ok (.iload_n 3, 1) := by decide +kernel
theorem dL_law_376 : decode cL_law 376 = .ok (.iconst 2, 1) := by decide +kernel
theorem dL_law_377 : decode cL_law 377 = .ok (.iadd, 1) := by decide +kernel
theorem dL_law_378 : decode cL_law 378 = .ok (.iaload, 1) := by decide +kernel
theorem dL_law_379 : decode cL_law 379 = .ok (.invokevirtual 56, 3) := by decide +kernel
theorem dL_law_382 : decode cL_law 382 = .ok (.if_icmp .eq 140, 3) := by decide +kernel
theorem dL_law_385 : decode cL_law 385 = .ok (.iconst 0, 1) := by decide +kernel
theorem dL_law_386 : decode cL_law 386 = .ok (.ireturn, 1) := by decide +kernel
theorem dL_law_387 : decode cL_law 387 = .ok (.aload_n 1, 1) := by decide +kernel
theorem dL_law_388 : decode cL_law 388 = .ok (.aload_n 0, 1) := by decide +kernel
theorem dL_law_389 : decode cL_law 389 = .ok (.iload_n 3, 1) := by decide +kernel
theorem dL_law_390 : decode cL_law 390 = .ok (.iconst 1, 1) := by decide +kernel
theorem dL_law_391 : decode cL_law 391 = .ok (.iadd, 1) := by decide +kernel
theorem dL_law_392 : decode cL_law 392 = .ok (.iaload, 1) := by decide +kernel
theorem dL_law_393 : decode cL_law 393 = .ok (.aload_n 0, 1) := by decide +kernel
theorem dL_law_394 : decode cL_law 394 = .ok (.iload_n 3, 1) := by decide +kernel
theorem dL_law_395 : decode cL_law 395 = .ok (.iconst 2, 1) := by decide +kernel
theorem dL_law_396 : decode cL_law 396 = .ok (.iadd, 1) := by decide +kernel
theorem dL_law_397 : decode cL_law 397 = .ok (.iaload, 1) := by decide +kernel
theorem dL_law_398 : decode cL_law 398 = .ok (.invokevirtual 57, 3) := by decide +kernel
theorem dL_law_401 : decode cL_law 401 = .ok (.aload_n 2, 1) := by decide +kernel
theorem dL_law_402 : decode cL_law 402 = .ok (.aload_n 0, 1) := by decide +kernel
theorem dL_law_403 : decode cL_law 403 = .ok (.iload_n 3, 1) := by decide +kernel
theorem dL_law_404 : decode cL_law 404 = .ok (.iconst 1, 1) := by decide +kernel
theorem dL_law_405 : decode cL_law 405 = .ok (.iadd, 1) := by decide +kernel
theorem dL_law_406 : decode cL_law 406 = .ok (.iaload, 1) := by decide +kernel
theorem dL_law_407 : decode cL_law 407 = .ok (.aload_n 0, 1) := by decide +kernel
theorem dL_law_408 : decode cL_law 408 = .ok (.iload_n 3, 1) := by decide +kernel
theorem dL_law_409 : decode cL_law 409 = .ok (.iconst 2, 1) := by decide +kernel
theorem dL_law_410 : decode cL_law 410 = .ok (.iadd, 1) := by decide +kernel
theorem dL_law_411 : decode cL_law 411 = .ok (.iaload, 1) := by decide +kernel
theorem dL_law_412 : decode cL_law 412 = .ok (.invokevirtual 60, 3) := by decide +kernel
theorem dL_law_415 : decode cL_law 415 = .ok (.if_icmp .eq 107, 3) := by decide +kernel
theorem dL_law_418 : decode cL_law 418 = .ok (.iconst 0, 1) := by decide +kernel
theorem dL_law_419 : decode cL_law 419 = .ok (.ireturn, 1) := by decide +kernel
theorem dL_law_420 : decode cL_law 420 = .ok (.aload_n 1, 1) := by decide +kernel
theorem dL_law_421 : decode cL_law 421 = .ok (.aload_n 0, 1) := by decide +kernel
theorem dL_law_422 : decode cL_law 422 = .ok (.iload_n 3, 1) := by decide +kernel
theorem dL_law_423 : decode cL_law 423 = .ok (.iconst 1, 1) := by decide +kernel
theorem dL_law_424 : decode cL_law 424 = .ok (.iadd, 1) := by decide +kernel
theorem dL_law_425 : decode cL_law 425 = .ok (.iaload, 1) := by decide +kernel
theorem dL_law_426 : decode cL_law 426 = .ok (.aload_n 0, 1) := by decide +kernel
theorem dL_law_427 : decode cL_law 427 = .ok (.iload_n 3, 1) := by decide +kernel
theorem dL_law_428 : decode cL_law 428 = .ok (.iconst 2, 1) := by decide +kernel
theorem dL_law_429 : decode cL_law 429 = .ok (.iadd, 1) := by decide +kernel
theorem dL_law_430 : decode cL_law 430 = .ok (.iaload, 1) := by decide +kernel
theorem dL_law_431 : decode cL_law 431 = .ok (.invokevirtual 61, 3) := by decide +kernel
theorem dL_law_434 : decode cL_law 434 = .ok (.aload_n 2, 1) := by decide +kernel
theorem dL_law_435 : decode cL_law 435 = .ok (.aload_n 0, 1) := by decide +kernel
theorem dL_law_436 : decode cL_law 436 = .ok (.iload_n 3, 1) := by decide +kernel
theorem dL_law_437 : decode cL_law 437 = .ok (.iconst 1, 1) := by decide +kernel
theorem dL_law_438 : decode cL_law 438 = .ok (.iadd, 1) := by decide +kernel
theorem dL_law_439 : decode cL_law 439 = .ok (.iaload, 1) := by decide +kernel
theorem dL_law_440 : decode cL_law 440 = .ok (.aload_n 0, 1) := by decide +kernel
theorem dL_law_441 : decode cL_law 441 = .ok (.iload_n 3, 1) := by decide +kernel
theorem dL_law_442 : decode cL_law 442 = .ok (.iconst 2, 1) := by decide +kernel
theorem dL_law_443 : decode cL_law 443 = .ok (.iadd, 1) := by decide +kernel
theorem dL_law_444 : decode cL_law 444 = .ok (.iaload, 1) := by decide +kernel
theorem dL_law_445 : decode cL_law 445 = .ok (.invokevirtual 64, 3) := by decide +kernel
theorem dL_law_448 : decode cL_law 448 = .ok (.if_icmp .eq 74, 3) := by decide +kernel
theorem dL_law_451 : decode cL_law 451 = .ok (.iconst 0, 1) := by decide +kernel
theorem dL_law_452 : decode cL_law 452 = .ok (.ireturn, 1) := by decide +kernel
theorem dL_law_453 : decode cL_law 453 = .ok (.aload_n 1, 1) := by decide +kernel
theorem dL_law_454 : decode cL_law 454 = .ok (.aload_n 0, 1) := by decide +kernel
theorem dL_law_455 : decode cL_law 455 = .ok (.iload_n 3, 1) := by decide +kernel
theorem dL_law_456 : decode cL_law 456 = .ok (.iconst 1, 1) := by decide +kernel
theorem dL_law_457 : decode cL_law 457 = .ok (.iadd, 1) := by decide +kernel
theorem dL_law_458 : decode cL_law 458 = .ok (.iaload, 1) := by decide +kernel
theorem dL_law_459 : decode cL_law 459 = .ok (.invokevirtual 65, 3) := by decide +kernel
theorem dL_law_462 : decode cL_law 462 = .ok (.aload_n 2, 1) := by decide +kernel
theorem dL_law_463 : decode cL_law 463 = .ok (.aload_n 0, 1) := by decide +kernel
theorem dL_law_464 : decode cL_law 464 = .ok (.iload_n 3, 1) := by decide +kernel
theorem dL_law_465 : decode cL_law 465 = .ok (.iconst 1, 1) := by decide +kernel
theorem dL_law_466 : decode cL_law 466 = .ok (.iadd, 1) := by decide +kernel
theorem dL_law_467 : decode cL_law 467 = .ok (.iaload, 1) := by decide +kernel
theorem dL_law_468 : decode cL_law 468 = .ok (.invokevirtual 68, 3) := by decide +kernel
theorem dL_law_471 : decode cL_law 471 = .ok (.if_icmp .eq 51, 3) := by decide +kernel
theorem dL_law_474 : decode cL_law 474 = .ok (.iconst 0, 1) := by decide +kernel
theorem dL_law_475 : decode cL_law 475 = .ok (.ireturn, 1) := by decide +kernel
theorem dL_law_476 : decode cL_law 476 = .ok (.aload_n 1, 1) := by decide +kernel
theorem dL_law_477 : decode cL_law 477 = .ok (.aload_n 0, 1) := by decide +kernel
theorem dL_law_478 : decode cL_law 478 = .ok (.iload_n 3, 1) := by decide +kernel
theorem dL_law_479 : decode cL_law 479 = .ok (.iconst 1, 1) := by decide +kernel
theorem dL_law_480 : decode cL_law 480 = .ok (.iadd, 1) := by decide +kernel
theorem dL_law_481 : decode cL_law 481 = .ok (.iaload, 1) := by decide +kernel
theorem dL_law_482 : decode cL_law 482 = .ok (.invokevirtual 69, 3) := by decide +kernel
theorem dL_law_485 : decode cL_law 485 = .ok (.aload_n 2, 1) := by decide +kernel
theorem dL_law_486 : decode cL_law 486 = .ok (.aload_n 0, 1) := by decide +kernel
theorem dL_law_487 : decode cL_law 487 = .ok (.iload_n 3, 1) := by decide +kernel
theorem dL_law_488 : decode cL_law 488 = .ok (.iconst 1, 1) := by decide +kernel
theorem dL_law_489 : decode cL_law 489 = .ok (.iadd, 1) := by decide +kernel
theorem dL_law_490 : decode cL_law 490 = .ok (.iaload, 1) := by decide +kernel
theorem dL_law_491 : decode cL_law 491 = .ok (.invokevirtual 72, 3) := by decide +kernel
theorem dL_law_494 : decode cL_law 494 = .ok (.if_icmp .eq 28, 3) := by decide +kernel
theorem dL_law_497 : decode cL_law 497 = .ok (.iconst 0, 1) := by decide +kernel
theorem dL_law_498 : decode cL_law 498 = .ok (.ireturn, 1) := by decide +kernel
theorem dL_law_499 : decode cL_law 499 = .ok (.aload_n 1, 1) := by decide +kernel
theorem dL_law_500 : decode cL_law 500 = .ok (.aload_n 0, 1) := by decide +kernel
theorem dL_law_501 : decode cL_law 501 = .ok (.iload_n 3, 1) := by decide +kernel
theorem dL_law_502 : decode cL_law 502 = .ok (.iconst 1, 1) := by decide +kernel
theorem dL_law_503 : decode cL_law 503 = .ok (.iadd, 1) := by decide +kernel
theorem dL_law_504 : decode cL_law 504 = .ok (.iaload, 1) := by decide +kernel
theorem dL_law_505 : decode cL_law 505 = .ok (.invokevirtual 73, 3) := by decide +kernel
theorem dL_law_508 : decode cL_law 508 = .ok (.aload_n 2, 1) := by decide +kernel
theorem dL_law_509 : decode cL_law 509 = .ok (.aload_n 0, 1) := by decide +kernel
theorem dL_law_510 : decode cL_law 510 = .ok (.iload_n 3, 1) := by decide +kernel
theorem dL_law_511 : decode cL_law 511 = .ok (.iconst 1, 1) := by decide +kernel
theorem dL_law_512 : decode cL_law 512 = .ok (.iadd, 1) := by decide +kernel
theorem dL_law_513 : decode cL_law 513 = .ok (.iaload, 1) := by decide +kernel
theorem dL_law_514 : decode cL_law 514 = .ok (.invokevirtual 76, 3) := by decide +kernel
theorem dL_law_517 : decode cL_law 517 = .ok (.if_icmp .eq 5, 3) := by decide +kernel
theorem dL_law_520 : decode cL_law 520 = .ok (.iconst 0, 1) := by decide +kernel
theorem dL_law_521 : decode cL_law 521 = .ok (.ireturn, 1) := by decide +kernel
theorem dL_law_522 : decode cL_law 522 = .ok (.iinc 3 4, 3) := by decide +kernel
theorem dL_law_525 : decode cL_law 525 = .ok (.goto (-507), 3) := by decide +kernel
theorem dL_law_528 : decode cL_law 528 = .ok (.iconst 1, 1) := by decide +kernel
theorem dL_law_529 : decode cL_law 529 = .ok (.ireturn, 1) := by decide +kernel
