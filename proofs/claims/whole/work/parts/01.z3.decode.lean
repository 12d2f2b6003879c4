theorem dX9_takes_34 : decode cX9_takes 34 = .ok (.iconst 3, 1) := by decide +kernel
theorem dX9_takes_35 : decode cX9_takes 35 = .ok (.if_icmp .ne 21, 3) := by decide +kernel
theorem dX9_takes_38 : decode cX9_takes 38 = .ok (.iload_n 2, 1) := by decide +kernel
theorem dX9_takes_39 : decode cX9_takes 39 = .ok (.sipush 9999, 3) := by decide +kernel
theorem dX9_takes_42 : decode cX9_takes 42 = .ok (.if_icmp .le 14, 3) := by decide +kernel
theorem dX9_takes_45 : decode cX9_takes 45 = .ok (.aload_n 0, 1) := by decide +kernel
theorem dX9_takes_46 : decode cX9_takes 46 = .ok (.iconst 2, 1) := by decide +kernel
theorem dX9_takes_47 : decode cX9_takes 47 = .ok (.aload_n 0, 1) := by decide +kernel
theorem dX9_takes_48 : decode cX9_takes 48 = .ok (.getfield 152, 3) := by decide +kernel
theorem dX9_takes_51 : decode cX9_takes 51 = .ok (.invokevirtual 189, 3) := by decide +kernel
theorem dX9_takes_54 : decode cX9_takes 54 = .ok (.iconst 0, 1) := by decide +kernel
theorem dX9_takes_55 : decode cX9_takes 55 = .ok (.ireturn, 1) := by decide +kernel
theorem dX9_takes_56 : decode cX9_takes 56 = .ok (.aload_n 0, 1) := by decide +kernel
theorem dX9_takes_57 : decode cX9_takes 57 = .ok (.invokevirtual 193, 3) := by decide +kernel
theorem dX9_takes_60 : decode cX9_takes 60 = .ok (.iload_n 2, 1) := by decide +kernel
theorem dX9_takes_61 : decode cX9_takes 61 = .ok (.ireturn, 1) := by decide +kernel
theorem dX9_isSign_0 : decode cX9_isSign 0 = .ok (.aload_n 0, 1) := by decide +kernel
theorem dX9_isSign_1 : decode cX9_isSign 1 = .ok (.getfield 183, 3) := by decide +kernel
theorem dX9_isSign_4 : decode cX9_isSign 4 = .ok (.ifCond .ne 23, 3) := by decide +kernel
theorem dX9_isSign_7 : decode cX9_isSign 7 = .ok (.aload_n 0, 1) := by decide +kernel
theorem dX9_isSign_8 : decode cX9_isSign 8 = .ok (.getfield 155, 3) := by decide +kernel
theorem dX9_isSign_11 : decode cX9_isSign 11 = .ok (.iconst 4, 1) := by decide +kernel
theorem dX9_isSign_12 : decode cX9_isSign 12 = .ok (.if_icmp .ne 15, 3) := by decide +kernel
theorem dX9_isSign_15 : decode cX9_isSign 15 = .ok (.aload_n 0, 1) := by decide +kernel
theorem dX9_isSign_16 : decode cX9_isSign 16 = .ok (.getfield 169, 3) := by decide +kernel
theorem dX9_isSign_19 : decode cX9_isSign 19 = .ok (.iload_n 1, 1) := by decide +kernel
theorem dX9_isSign_20 : decode cX9_isSign 20 = .ok (.if_icmp .ne 7, 3) := by decide +kernel
theorem dX9_isSign_23 : decode cX9_isSign 23 = .ok (.iconst 1, 1) := by decide +kernel
theorem dX9_isSign_24 : decode cX9_isSign 24 = .ok (.goto 4, 3) := by decide +kernel
theorem dX9_isSign_27 : decode cX9_isSign 27 = .ok (.iconst 0, 1) := by decide +kernel
theorem dX9_isSign_28 : decode cX9_isSign 28 = .ok (.ireturn, 1) := by decide +kernel
theorem dX9_wants_0 : decode cX9_wants 0 = .ok (.aload_n 0, 1) := by decide +kernel
theorem dX9_wants_1 : decode cX9_wants 1 = .ok (.iload_n 1, 1) := by decide +kernel
theorem dX9_wants_2 : decode cX9_wants 2 = .ok (.invokevirtual 196, 3) := by decide +kernel
theorem dX9_wants_5 : decode cX9_wants 5 = .ok (.ifCond .ne 15, 3) := by decide +kernel
theorem dX9_wants_8 : decode cX9_wants 8 = .ok (.aload_n 0, 1) := by decide +kernel
theorem dX9_wants_9 : decode cX9_wants 9 = .ok (.iconst 1, 1) := by decide +kernel
theorem dX9_wants_10 : decode cX9_wants 10 = .ok (.aload_n 0, 1) := by decide +kernel
theorem dX9_wants_11 : decode cX9_wants 11 = .ok (.getfield 152, 3) := by decide +kernel
theorem dX9_wants_14 : decode cX9_wants 14 = .ok (.invokevirtual 189, 3) := by decide +kernel
theorem dX9_wants_17 : decode cX9_wants 17 = .ok (.goto 7, 3) := by decide +kernel
theorem dX9_wants_20 : decode cX9_wants 20 = .ok (.aload_n 0, 1) := by decide +kernel
theorem dX9_wants_21 : decode cX9_wants 21 = .ok (.invokevirtual 193, 3) := by decide +kernel
theorem dX9_wants_24 : decode cX9_wants 24 = .ok (.return_, 1) := by decide +kernel
theorem dX9_parses_0 : decode cX9_parses 0 = .ok (.aload_n 0, 1) := by decide +kernel
theorem dX9_parses_1 : decode cX9_parses 1 = .ok (.iconst 0, 1) := by decide +kernel
theorem dX9_parses_2 : decode cX9_parses 2 = .ok (.putfield 142, 3) := by decide +kernel
theorem dX9_parses_5 : decode cX9_parses 5 = .ok (.aload_n 0, 1) := by decide +kernel
theorem dX9_parses_6 : decode cX9_parses 6 = .ok (.iconst 0, 1) := by decide +kernel
theorem dX9_parses_7 : decode cX9_parses 7 = .ok (.putfield 183, 3) := by decide +kernel
theorem dX9_parses_10 : decode cX9_parses 10 = .ok (.aload_n 0, 1) := by decide +kernel
theorem dX9_parses_11 : decode cX9_parses 11 = .ok (.iconst (-1), 1) := by decide +kernel
theorem dX9_parses_12 : decode cX9_parses 12 = .ok (.putfield 186, 3) := by decide +kernel
theorem dX9_parses_15 : decode cX9_parses 15 = .ok (.aload_n 0, 1) := by decide +kernel
theorem dX9_parses_16 : decode cX9_parses 16 = .ok (.getfield 19, 3) := by decide +kernel
theorem dX9_parses_19 : decode cX9_parses 19 = .ok (.aload_n 0, 1) := by decide +kernel
theorem dX9_parses_20 : decode cX9_parses 20 = .ok (.getfield 199, 3) := by decide +kernel
theorem dX9_parses_23 : decode cX9_parses 23 = .ok (.iaload, 1) := by decide +kernel
theorem dX9_parses_24 : decode cX9_parses 24 = .ok (.istore_n 1, 1) := by decide +kernel
theorem dX9_parses_25 : decode cX9_parses 25 = .ok (.aload_n 0, 1) := by decide +kernel
theorem dX9_parses_26 : decode cX9_parses 26 = .ok (.iload_n 1, 1) := by decide +kernel
theorem dX9_parses_27 : decode cX9_parses 27 = .ok (.putfield 202, 3) := by decide +kernel
theorem dX9_parses_30 : decode cX9_parses 30 = .ok (.aload_n 0, 1) := by decide +kernel
theorem dX9_parses_31 : decode cX9_parses 31 = .ok (.invokevirtual 193, 3) := by decide +kernel
theorem dX9_parses_34 : decode cX9_parses 34 = .ok (.aload_n 0, 1) := by decide +kernel
theorem dX9_parses_35 : decode cX9_parses 35 = .ok (.getfield 183, 3) := by decide +kernel
theorem dX9_parses_38 : decode cX9_parses 38 = .ok (.ifCond .ne 25, 3) := by decide +kernel
theorem dX9_parses_41 : decode cX9_parses 41 = .ok (.aload_n 0, 1) := by decide +kernel
theorem dX9_parses_42 : decode cX9_parses 42 = .ok (.getfield 155, 3) := by decide +kernel
theorem dX9_parses_45 : decode cX9_parses 45 = .ok (.iconst 5, 1) := by decide +kernel
theorem dX9_parses_46 : decode cX9_parses 46 = .ok (.if_icmp .eq 17, 3) := by decide +kernel
theorem dX9_parses_49 : decode cX9_parses 49 = .ok (.aload_n 0, 1) := by decide +kernel
theorem dX9_parses_50 : decode cX9_parses 50 = .ok (.iload_n 1, 1) := by decide +kernel
theorem dX9_parses_51 : decode cX9_parses 51 = .ok (.invokevirtual 205, 3) := by decide +kernel
theorem dX9_parses_54 : decode cX9_parses 54 = .ok (.aload_n 0, 1) := by decide +kernel
theorem dX9_parses_55 : decode cX9_parses 55 = .ok (.bipush 59, 2) := by decide +kernel
theorem dX9_parses_57 : decode cX9_parses 57 = .ok (.invokevirtual 208, 3) := by decide +kernel
theorem dX9_parses_60 : decode cX9_parses 60 = .ok (.goto (-26), 3) := by decide +kernel
theorem dX9_parses_63 : decode cX9_parses 63 = .ok (.return_, 1) := by decide +kernel
theorem dX9_line_0 : decode cX9_line 0 = .ok (.aload_n 0, 1) := by decide +kernel
theorem dX9_line_1 : decode cX9_line 1 = .ok (.getfield 152, 3) := by decide +kernel
theorem dX9_line_4 : decode cX9_line 4 = .ok (.istore_n 2, 1) := by decide +kernel
theorem dX9_line_5 : decode cX9_line 5 = .ok (.aload_n 0, 1) := by decide +kernel
theorem dX9_line_6 : decode cX9_line 6 = .ok (.getfield 155, 3) := by decide +kernel
theorem dX9_line_9 : decode cX9_line 9 = .ok (.ifCond .ne 12, 3) := by decide +kernel
theorem dX9_line_12 : decode cX9_line 12 = .ok (.aload_n 0, 1) := by decide +kernel
theorem dX9_line_13 : decode cX9_line 13 = .ok (.getfield 169, 3) := by decide +kernel
theorem dX9_line_16 : decode cX9_line 16 = .ok (.bipush 7, 2) := by decide +kernel
theorem dX9_line_18 : decode cX9_line 18 = .ok (.if_icmp .ne 10, 3) := by decide +kernel
theorem dX9_line_21 : decode cX9_line 21 = .ok (.aload_n 0, 1) := by decide +kernel
theorem dX9_line_22 : decode cX9_line 22 = .ok (.iconst 1, 1) := by decide +kernel
theorem dX9_line_23 : decode cX9_line 23 = .ok (.iload_n 2, 1) := by decide +kernel
theorem dX9_line_24 : decode cX9_line 24 = .ok (.invokevirtual 189, 3) := by decide +kernel
theorem dX9_line_27 : decode cX9_line 27 = .ok (.return_, 1) := by decide +kernel
theorem dX9_line_28 : decode cX9_line 28 = .ok (.aload_n 0, 1) := by decide +kernel
theorem dX9_line_29 : decode cX9_line 29 = .ok (.getfield 202, 3) := by decide +kernel
theorem dX9_line_32 : decode cX9_line 32 = .ok (.iload_n 1, 1) := by decide +kernel
theorem dX9_line_33 : decode cX9_line 33 = .ok (.isub, 1) := by decide +kernel
theorem dX9_line_34 : decode cX9_line 34 = .ok (.bipush 40, 2) := by decide +kernel
theorem dX9_line_36 : decode cX9_line 36 = .ok (.if_icmp .ne 10, 3) := by decide +kernel
theorem dX9_line_39 : decode cX9_line 39 = .ok (.aload_n 0, 1) := by decide +kernel
theorem dX9_line_40 : decode cX9_line 40 = .ok (.iconst 2, 1) := by decide +kernel
theorem dX9_line_41 : decode cX9_line 41 = .ok (.iload_n 2, 1) := by decide +kernel
theorem dX9_line_42 : decode cX9_line 42 = .ok (.invokevirtual 189, 3) := by decide +kernel
theorem dX9_line_45 : decode cX9_line 45 = .ok (.return_, 1) := by decide +kernel
theorem dX9_line_46 : decode cX9_line 46 = .ok (.aload_n 0, 1) := by decide +kernel
theorem dX9_line_47 : decode cX9_line 47 = .ok (.getfield 202, 3) := by decide +kernel
theorem dX9_line_50 : decode cX9_line 50 = .ok (.istore_n 3, 1) := by decide +kernel
theorem dX9_line_51 : decode cX9_line 51 = .ok (.aload_n 0, 1) := by decide +kernel
theorem dX9_line_52 : decode cX9_line 52 = .ok (.getfield 169, 3) := by decide +kernel
theorem dX9_line_55 : decode cX9_line 55 = .ok (.istore 4, 2) := by decide +kernel
theorem dX9_line_57 : decode cX9_line 57 = .ok (.aload_n 0, 1) := by decide +kernel
theorem dX9_line_58 : decode cX9_line 58 = .ok (.getfield 25, 3) := by decide +kernel
theorem dX9_line_61 : decode cX9_line 61 = .ok (.iload_n 3, 1) := by decide +kernel
theorem dX9_line_62 : decode cX9_line 62 = .ok (.iload 4, 2) := by decide +kernel
theorem dX9_line_64 : decode cX9_line 64 = .ok (.bipush 6, 2) := by decide +kernel
theorem dX9_line_66 : decode cX9_line 66 = .ok (.if_icmp .ne 7, 3) := by decide +kernel
theorem dX9_line_69 : decode cX9_line 69 = .ok (.iconst 1, 1) := by decide +kernel
theorem dX9_line_70 : decode cX9_line 70 = .ok (.goto 4, 3) := by decide +kernel
theorem dX9_line_73 : decode cX9_line 73 = .ok (.iconst 0, 1) := by decide +kernel
theorem dX9_line_74 : decode cX9_line 74 = .ok (.bastore, 1) := by decide +kernel
theorem dX9_line_75 : decode cX9_line 75 = .ok (.aload_n 0, 1) := by decide +kernel
theorem dX9_line_76 : decode cX9_line 76 = .ok (.getfield 29, 3) := by decide +kernel
theorem dX9_line_79 : decode cX9_line 79 = .ok (.iload_n 3, 1) := by decide +kernel
theorem dX9_line_80 : decode cX9_line 80 = .ok (.iconst (-1), 1) := by decide +kernel
theorem dX9_line_81 : decode cX9_line 81 = .ok (.iastore, 1) := by decide +kernel
theorem dX9_line_82 : decode cX9_line 82 = .ok (.aload_n 0, 1) := by decide +kernel
theorem dX9_line_83 : decode cX9_line 83 = .ok (.getfield 41, 3) := by decide +kernel
theorem dX9_line_86 : decode cX9_line 86 = .ok (.iload_n 3, 1) := by decide +kernel
theorem dX9_line_87 : decode cX9_line 87 = .ok (.iconst 0, 1) := by decide +kernel
theorem dX9_line_88 : decode cX9_line 88 = .ok (.bastore, 1) := by decide +kernel
theorem dX9_line_89 : decode cX9_line 89 = .ok (.aload_n 0, 1) := by decide +kernel
theorem dX9_line_90 : decode cX9_line 90 = .ok (.invokevirtual 193, 3) := by decide +kernel
theorem dX9_line_93 : decode cX9_line 93 = .ok (.iload 4, 2) := by decide +kernel
theorem dX9_line_95 : decode cX9_line 95 = .ok (.bipush 6, 2) := by decide +kernel
theorem dX9_line_97 : decode cX9_line 97 = .ok (.if_icmp .ne 76, 3) := by decide +kernel
theorem dX9_line_100 : decode cX9_line 100 = .ok (.aload_n 0, 1) := by decide +kernel
theorem dX9_line_101 : decode cX9_line 101 = .ok (.getfield 155, 3) := by decide +kernel
theorem dX9_line_104 : decode cX9_line 104 = .ok (.ifCond .ne 26, 3) := by decide +kernel
theorem dX9_line_107 : decode cX9_line 107 = .ok (.aload_n 0, 1) := by decide +kernel
theorem dX9_line_108 : decode cX9_line 108 = .ok (.getfield 169, 3) := by decide +kernel
theorem dX9_line_111 : decode cX9_line 111 = .ok (.iconst 2, 1) := by decide +kernel
theorem dX9_line_112 : decode cX9_line 112 = .ok (.if_icmp .le 11, 3) := by decide +kernel
theorem dX9_line_115 : decode cX9_line 115 = .ok (.aload_n 0, 1) := by decide +kernel
theorem dX9_line_116 : decode cX9_line 116 = .ok (.getfield 169, 3) := by decide +kernel
theorem dX9_line_119 : decode cX9_line 119 = .ok (.iconst 5, 1) := by decide +kernel
theorem dX9_line_120 : decode cX9_line 120 = .ok (.if_icmp .ne 10, 3) := by decide +kernel
theorem dX9_line_123 : decode cX9_line 123 = .ok (.aload_n 0, 1) := by decide +kernel
theorem dX9_line_124 : decode cX9_line 124 = .ok (.getfield 169, 3) := by decide +kernel
theorem dX9_line_127 : decode cX9_line 127 = .ok (.goto 4, 3) := by decide +kernel
theorem dX9_line_130 : decode cX9_line 130 = .ok (.iconst (-1), 1) := by decide +kernel
theorem dX9_line_131 : decode cX9_line 131 = .ok (.istore 4, 2) := by decide +kernel
theorem dX9_line_133 : decode cX9_line 133 = .ok (.iload 4, 2) := by decide +kernel
theorem dX9_line_135 : decode cX9_line 135 = .ok (.iconst (-1), 1) := by decide +kernel
theorem dX9_line_136 : decode cX9_line 136 = .ok (.if_icmp .ne 13, 3) := by decide +kernel
theorem dX9_line_139 : decode cX9_line 139 = .ok (.aload_n 0, 1) := by decide +kernel
theorem dX9_line_140 : decode cX9_line 140 = .ok (.iconst 1, 1) := by decide +kernel
theorem dX9_line_141 : decode cX9_line 141 = .ok (.aload_n 0, 1) := by decide +kernel
theorem dX9_line_142 : decode cX9_line 142 = .ok (.getfield 152, 3) := by decide +kernel
theorem dX9_line_145 : decode cX9_line 145 = .ok (.invokevirtual 189, 3) := by decide +kernel
theorem dX9_line_148 : decode cX9_line 148 = .ok (.return_, 1) := by decide +kernel
theorem dX9_line_149 : decode cX9_line 149 = .ok (.aload_n 0, 1) := by decide +kernel
theorem dX9_line_150 : decode cX9_line 150 = .ok (.invokevirtual 193, 3) := by decide +kernel
theorem dX9_line_153 : decode cX9_line 153 = .ok (.aload_n 0, 1) := by decide +kernel
theorem dX9_line_154 : decode cX9_line 154 = .ok (.getfield 22, 3) := by decide +kernel
theorem dX9_line_157 : decode cX9_line 157 = .ok (.iload_n 3, 1) := by decide +kernel
theorem dX9_line_158 : decode cX9_line 158 = .ok (.bipush 26, 2) := by decide +kernel
theorem dX9_line_160 : decode cX9_line 160 = .ok (.iload 4, 2) := by decide +kernel
theorem dX9_line_162 : decode cX9_line 162 = .ok (.imul, 1) := by decide +kernel
theorem dX9_line_163 : decode cX9_line 163 = .ok (.aload_n 0, 1) := by decide +kernel
theorem dX9_line_164 : decode cX9_line 164 = .ok (.iconst 1, 1) := by decide +kernel
theorem dX9_line_165 : decode cX9_line 165 = .ok (.invokevirtual 211, 3) := by decide +kernel
theorem dX9_line_168 : decode cX9_line 168 = .ok (.iadd, 1) := by decide +kernel
theorem dX9_line_169 : decode cX9_line 169 = .ok (.iastore, 1) := by decide +kernel
theorem dX9_line_170 : decode cX9_line 170 = .ok (.goto 94, 3) := by decide +kernel
theorem dX9_line_173 : decode cX9_line 173 = .ok (.iload 4, 2) := by decide +kernel
theorem dX9_line_175 : decode cX9_line 175 = .ok (.iconst 3, 1) := by decide +kernel
theorem dX9_line_176 : decode cX9_line 176 = .ok (.if_icmp .eq 9, 3) := by decide +kernel
theorem dX9_line_179 : decode cX9_line 179 = .ok (.iload 4, 2) := by decide +kernel
theorem dX9_line_181 : decode cX9_line 181 = .ok (.iconst 4, 1) := by decide +kernel
theorem dX9_line_182 : decode cX9_line 182 = .ok (.if_icmp .ne 58, 3) := by decide +kernel
theorem dX9_line_185 : decode cX9_line 185 = .ok (.aload_n 0, 1) := by decide +kernel
theorem dX9_line_186 : decode cX9_line 186 = .ok (.getfield 22, 3) := by decide +kernel
theorem dX9_line_189 : decode cX9_line 189 = .ok (.iload_n 3, 1) := by decide +kernel
theorem dX9_line_190 : decode cX9_line 190 = .ok (.bipush 26, 2) := by decide +kernel
theorem dX9_line_192 : decode cX9_line 192 = .ok (.iload 4, 2) := by decide +kernel
theorem dX9_line_194 : decode cX9_line 194 = .ok (.imul, 1) := by decide +kernel
theorem dX9_line_195 : decode cX9_line 195 = .ok (.iastore, 1) := by decide +kernel
theorem dX9_line_196 : decode cX9_line 196 = .ok (.iload 4, 2) := by decide +kernel
theorem dX9_line_198 : decode cX9_line 198 = .ok (.iconst 3, 1) := by decide +kernel
theorem dX9_line_199 : decode cX9_line 199 = .ok (.if_icmp .ne 27, 3) := by decide +kernel
theorem dX9_line_202 : decode cX9_line 202 = .ok (.aload_n 0, 1) := by decide +kernel
theorem dX9_line_203 : decode cX9_line 203 = .ok (.getfield 155, 3) := by decide +kernel
theorem dX9_line_206 : decode cX9_line 206 = .ok (.iconst 3, 1) := by decide +kernel
theorem dX9_line_207 : decode cX9_line 207 = .ok (.if_icmp .ne 19, 3) := by decide +kernel
theorem dX9_line_210 : decode cX9_line 210 = .ok (.aload_n 0, 1) := by decide +kernel
theorem dX9_line_211 : decode cX9_line 211 = .ok (.getfield 169, 3) := by decide +kernel
theorem dX9_line_214 : decode cX9_line 214 = .ok (.ifCond .ne 12, 3) := by decide +kernel
theorem dX9_line_217 : decode cX9_line 217 = .ok (.aload_n 0, 1) := by decide +kernel
theorem dX9_line_218 : decode cX9_line 218 = .ok (.iconst 2, 1) := by decide +kernel
theorem dX9_line_219 : decode cX9_line 219 = .ok (.aload_n 0, 1) := by decide +kernel
theorem dX9_line_220 : decode cX9_line 220 = .ok (.getfield 152, 3) := by decide +kernel
theorem dX9_line_223 : decode cX9_line 223 = .ok (.invokevirtual 189, 3) := by decide +kernel
theorem dX9_line_226 : decode cX9_line 226 = .ok (.aload_n 0, 1) := by decide +kernel
theorem dX9_line_227 : decode cX9_line 227 = .ok (.getfield 38, 3) := by decide +kernel
theorem dX9_line_230 : decode cX9_line 230 = .ok (.iload_n 3, 1) := by decide +kernel
theorem dX9_line_231 : decode cX9_line 231 = .ok (.aload_n 0, 1) := by decide +kernel
theorem dX9_line_232 : decode cX9_line 232 = .ok (.iconst 3, 1) := by decide +kernel
theorem dX9_line_233 : decode cX9_line 233 = .ok (.invokevirtual 211, 3) := by decide +kernel
theorem dX9_line_236 : decode cX9_line 236 = .ok (.iastore, 1) := by decide +kernel
theorem dX9_line_237 : decode cX9_line 237 = .ok (.goto 27, 3) := by decide +kernel
theorem dX9_line_240 : decode cX9_line 240 = .ok (.aload_n 0, 1) := by decide +kernel
theorem dX9_line_241 : decode cX9_line 241 = .ok (.getfield 22, 3) := by decide +kernel
theorem dX9_line_244 : decode cX9_line 244 = .ok (.iload_n 3, 1) := by decide +kernel
theorem dX9_line_245 : decode cX9_line 245 = .ok (.bipush 26, 2) := by decide +kernel
theorem dX9_line_247 : decode cX9_line 247 = .ok (.iload 4, 2) := by decide +kernel
theorem dX9_line_249 : decode cX9_line 249 = .ok (.imul, 1) := by decide +kernel
theorem dX9_line_250 : decode cX9_line 250 = .ok (.aload_n 0, 1) := by decide +kernel
theorem dX9_line_251 : decode cX9_line 251 = .ok (.iconst 1, 1) := by decide +kernel
theorem dX9_line_252 : decode cX9_line 252 = .ok (.invokevirtual 211, 3) := by decide +kernel
theorem dX9_line_255 : decode cX9_line 255 = .ok (.iadd, 1) := by decide +kernel
theorem dX9_line_256 : decode cX9_line 256 = .ok (.iastore, 1) := by decide +kernel
theorem dX9_line_257 : decode cX9_line 257 = .ok (.aload_n 0, 1) := by decide +kernel
theorem dX9_line_258 : decode cX9_line 258 = .ok (.iload_n 3, 1) := by decide +kernel
theorem dX9_line_259 : decode cX9_line 259 = .ok (.iload 4, 2) := by decide +kernel
theorem dX9_line_261 : decode cX9_line 261 = .ok (.invokevirtual 215, 3) := by decide +kernel
theorem dX9_line_264 : decode cX9_line 264 = .ok (.aload_n 0, 1) := by decide +kernel
theorem dX9_line_265 : decode cX9_line 265 = .ok (.getfield 183, 3) := by decide +kernel
theorem dX9_line_268 : decode cX9_line 268 = .ok (.ifCond .eq 4, 3) := by decide +kernel
theorem dX9_line_271 : decode cX9_line 271 = .ok (.return_, 1) := by decide +kernel
theorem dX9_line_272 : decode cX9_line 272 = .ok (.iload_n 1, 1) := by decide +kernel
theorem dX9_line_273 : decode cX9_line 273 = .ok (.istore 5, 2) := by decide +kernel
theorem dX9_line_275 : decode cX9_line 275 = .ok (.iload 5, 2) := by decide +kernel
theorem dX9_line_277 : decode cX9_line 277 = .ok (.iload_n 3, 1) := by decide +kernel
theorem dX9_line_278 : decode cX9_line 278 = .ok (.if_icmp .ge 31, 3) := by decide +kernel
theorem dX9_line_281 : decode cX9_line 281 = .ok (.aload_n 0, 1) := by decide +kernel
theorem dX9_line_282 : decode cX9_line 282 = .ok (.getfield 22, 3) := by decide +kernel
theorem dX9_line_285 : decode cX9_line 285 = .ok (.iload 5, 2) := by decide +kernel
theorem dX9_line_287 : decode cX9_line 287 = .ok (.iaload, 1) := by decide +kernel
theorem dX9_line_288 : decode cX9_line 288 = .ok (.aload_n 0, 1) := by decide +kernel
theorem dX9_line_289 : decode cX9_line 289 = .ok (.getfield 22, 3) := by decide +kernel
theorem dX9_line_292 : decode cX9_line 292 = .ok (.iload_n 3, 1) := by decide +kernel
theorem dX9_line_293 : decode cX9_line 293 = .ok (.iaload, 1) := by decide +kernel
theorem dX9_line_294 : decode cX9_line 294 = .ok (.if_icmp .ne 9, 3) := by decide +kernel
theorem dX9_line_297 : decode cX9_line 297 = .ok (.aload_n 0, 1) := by decide +kernel
theorem dX9_line_298 : decode cX9_line 298 = .ok (.iconst 3, 1) := by decide +kernel
theorem dX9_line_299 : decode cX9_line 299 = .ok (.iload_n 2, 1) := by decide +kernel
theorem dX9_line_300 : decode cX9_line 300 = .ok (.invokevirtual 189, 3) := by decide +kernel
theorem dX9_line_303 : decode cX9_line 303 = .ok (.iinc 5 1, 3) := by decide +kernel
theorem dX9_line_306 : decode cX9_line 306 = .ok (.goto (-31), 3) := by decide +kernel
theorem dX9_line_309 : decode cX9_line 309 = .ok (.aload_n 0, 1) := by decide +kernel
theorem dX9_line_310 : decode cX9_line 310 = .ok (.dup, 1) := by decide +kernel
theorem dX9_line_311 : decode cX9_line 311 = .ok (.getfield 202, 3) := by decide +kernel
theorem dX9_line_314 : decode cX9_line 314 = .ok (.iconst 1, 1) := by decide +kernel
theorem dX9_line_315 : decode cX9_line 315 = .ok (.iadd, 1) := by decide +kernel
theorem dX9_line_316 : decode cX9_line 316 = .ok (.putfield 202, 3) := by decide +kernel
theorem dX9_line_319 : decode cX9_line 319 = .ok (.return_, 1) := by decide +kernel
theorem dX9_named_0 : decode cX9_named 0 = .ok (.iload_n 2, 1) := by decide +kernel
theorem dX9_named_1 : decode cX9_named 1 = .ok (.iconst 1, 1) := by decide +kernel
theorem dX9_named_2 : decode cX9_named 2 = .ok (.if_icmp .ne 63, 3) := by decide +kernel
theorem dX9_named_5 : decode cX9_named 5 = .ok (.aload_n 0, 1) := by decide +kernel
theorem dX9_named_6 : decode cX9_named 6 = .ok (.getfield 183, 3) := by decide +kernel
theorem dX9_named_9 : decode cX9_named 9 = .ok (.ifCond .ne 31, 3) := by decide +kernel
theorem dX9_named_12 : decode cX9_named 12 = .ok (.aload_n 0, 1) := by decide +kernel
theorem dX9_named_13 : decode cX9_named 13 = .ok (.getfield 155, 3) := by decide +kernel
theorem dX9_named_16 : decode cX9_named 16 = .ok (.ifCond .ne 12, 3) := by decide +kernel
theorem dX9_named_19 : decode cX9_named 19 = .ok (.aload_n 0, 1) := by decide +kernel
theorem dX9_named_20 : decode cX9_named 20 = .ok (.getfield 169, 3) := by decide +kernel
theorem dX9_named_23 : decode cX9_named 23 = .ok (.bipush 7, 2) := by decide +kernel
theorem dX9_named_25 : decode cX9_named 25 = .ok (.if_icmp .eq 15, 3) := by decide +kernel
theorem dX9_named_28 : decode cX9_named 28 = .ok (.aload_n 0, 1) := by decide +kernel
theorem dX9_named_29 : decode cX9_named 29 = .ok (.iconst 1, 1) := by decide +kernel
theorem dX9_named_30 : decode cX9_named 30 = .ok (.aload_n 0, 1) := by decide +kernel
theorem dX9_named_31 : decode cX9_named 31 = .ok (.getfield 152, 3) := by decide +kernel
theorem dX9_named_34 : decode cX9_named 34 = .ok (.invokevirtual 189, 3) := by decide +kernel
theorem dX9_named_37 : decode cX9_named 37 = .ok (.goto 14, 3) := by decide +kernel
theorem dX9_named_40 : decode cX9_named 40 = .ok (.aload_n 0, 1) := by decide +kernel
theorem dX9_named_41 : decode cX9_named 41 = .ok (.getfield 183, 3) := by decide +kernel
theorem dX9_named_44 : decode cX9_named 44 = .ok (.ifCond .ne 7, 3) := by decide +kernel
theorem dX9_named_47 : decode cX9_named 47 = .ok (.aload_n 0, 1) := by decide +kernel
theorem dX9_named_48 : decode cX9_named 48 = .ok (.invokevirtual 193, 3) := by decide +kernel
theorem dX9_named_51 : decode cX9_named 51 = .ok (.aload_n 0, 1) := by decide +kernel
theorem dX9_named_52 : decode cX9_named 52 = .ok (.getfield 38, 3) := by decide +kernel
theorem dX9_named_55 : decode cX9_named 55 = .ok (.iload_n 1, 1) := by decide +kernel
theorem dX9_named_56 : decode cX9_named 56 = .ok (.aload_n 0, 1) := by decide +kernel
theorem dX9_named_57 : decode cX9_named 57 = .ok (.iconst 3, 1) := by decide +kernel
theorem dX9_named_58 : decode cX9_named 58 = .ok (.invokevirtual 211, 3) := by decide +kernel
theorem dX9_named_61 : decode cX9_named 61 = .ok (.iastore, 1) := by decide +kernel
theorem dX9_named_62 : decode cX9_named 62 = .ok (.goto 135, 3) := by decide +kernel
theorem dX9_named_65 : decode cX9_named 65 = .ok (.iload_n 2, 1) := by decide +kernel
theorem dX9_named_66 : decode cX9_named 66 = .ok (.iconst 2, 1) := by decide +kernel
theorem dX9_named_67 : decode cX9_named 67 = .ok (.if_icmp .ne 42, 3) := by decide +kernel
theorem dX9_named_70 : decode cX9_named 70 = .ok (.aload_n 0, 1) := by decide +kernel
theorem dX9_named_71 : decode cX9_named 71 = .ok (.bipush 58, 2) := by decide +kernel
theorem dX9_named_73 : decode cX9_named 73 = .ok (.invokevirtual 208, 3) := by decide +kernel
theorem dX9_named_76 : decode cX9_named 76 = .ok (.aload_n 0, 1) := by decide +kernel
theorem dX9_named_77 : decode cX9_named 77 = .ok (.getfield 47, 3) := by decide +kernel
theorem dX9_named_80 : decode cX9_named 80 = .ok (.iload_n 1, 1) := by decide +kernel
theorem dX9_named_81 : decode cX9_named 81 = .ok (.iconst 0, 1) := by decide +kernel
theorem dX9_named_82 : decode cX9_named 82 = .ok (.iastore, 1) := by decide +kernel
theorem dX9_named_83 : decode cX9_named 83 = .ok (.aload_n 0, 1) := by decide +kernel
theorem dX9_named_84 : decode cX9_named 84 = .ok (.iload_n 1, 1) := by decide +kernel
theorem dX9_named_85 : decode cX9_named 85 = .ok (.invokevirtual 218, 3) := by decide +kernel
theorem dX9_named_88 : decode cX9_named 88 = .ok (.aload_n 0, 1) := by decide +kernel
theorem dX9_named_89 : decode cX9_named 89 = .ok (.bipush 44, 2) := by decide +kernel
theorem dX9_named_91 : decode cX9_named 91 = .ok (.invokevirtual 196, 3) := by decide +kernel
theorem dX9_named_94 : decode cX9_named 94 = .ok (.ifCond .eq 103, 3) := by decide +kernel
theorem dX9_named_97 : decode cX9_named 97 = .ok (.aload_n 0, 1) := by decide +kernel
theorem dX9_named_98 : decode cX9_named 98 = .ok (.invokevirtual 193, 3) := by decide +kernel
theorem dX9_named_101 : decode cX9_named 101 = .ok (.aload_n 0, 1) := by decide +kernel
theorem dX9_named_102 : decode cX9_named 102 = .ok (.iload_n 1, 1) := by decide +kernel
theorem dX9_named_103 : decode cX9_named 103 = .ok (.invokevirtual 218, 3) := by decide +kernel
theorem dX9_named_106 : decode cX9_named 106 = .ok (.goto (-18), 3) := by decide +kernel
theorem dX9_named_109 : decode cX9_named 109 = .ok (.iload_n 2, 1) := by decide +kernel
theorem dX9_named_110 : decode cX9_named 110 = .ok (.ifCond .eq 18, 3) := by decide +kernel
theorem dX9_named_113 : decode cX9_named 113 = .ok (.aload_n 0, 1) := by decide +kernel
theorem dX9_named_114 : decode cX9_named 114 = .ok (.getfield 183, 3) := by decide +kernel
theorem dX9_named_117 : decode cX9_named 117 = .ok (.ifCond .ne 16, 3) := by decide +kernel
theorem dX9_named_120 : decode cX9_named 120 = .ok (.aload_n 0, 1) := by decide +kernel
theorem dX9_named_121 : decode cX9_named 121 = .ok (.getfield 155, 3) := by decide +kernel
theorem dX9_named_124 : decode cX9_named 124 = .ok (.iconst 2, 1) := by decide +kernel
theorem dX9_named_125 : decode cX9_named 125 = .ok (.if_icmp .ne 8, 3) := by decide +kernel
theorem dX9_named_128 : decode cX9_named 128 = .ok (.aload_n 0, 1) := by decide +kernel
theorem dX9_named_129 : decode cX9_named 129 = .ok (.iload_n 1, 1) := by decide +kernel
theorem dX9_named_130 : decode cX9_named 130 = .ok (.invokevirtual 221, 3) := by decide +kernel
theorem dX9_named_133 : decode cX9_named 133 = .ok (.aload_n 0, 1) := by decide +kernel
theorem dX9_named_134 : decode cX9_named 134 = .ok (.bipush 61, 2) := by decide +kernel
theorem dX9_named_136 : decode cX9_named 136 = .ok (.invokevirtual 208, 3) := by decide +kernel
theorem dX9_named_139 : decode cX9_named 139 = .ok (.aload_n 0, 1) := by decide +kernel
theorem dX9_named_140 : decode cX9_named 140 = .ok (.getfield 38, 3) := by decide +kernel
theorem dX9_named_143 : decode cX9_named 143 = .ok (.iload_n 1, 1) := by decide +kernel
theorem dX9_named_144 : decode cX9_named 144 = .ok (.aload_n 0, 1) := by decide +kernel
theorem dX9_named_145 : decode cX9_named 145 = .ok (.iconst 3, 1) := by decide +kernel
theorem dX9_named_146 : decode cX9_named 146 = .ok (.invokevirtual 211, 3) := by decide +kernel
theorem dX9_named_149 : decode cX9_named 149 = .ok (.iastore, 1) := by decide +kernel
theorem dX9_named_150 : decode cX9_named 150 = .ok (.iload_n 2, 1) := by decide +kernel
theorem dX9_named_151 : decode cX9_named 151 = .ok (.iconst 5, 1) := by decide +kernel
theorem dX9_named_152 : decode cX9_named 152 = .ok (.if_icmp .ne 12, 3) := by decide +kernel
theorem dX9_named_155 : decode cX9_named 155 = .ok (.aload_n 0, 1) := by decide +kernel
theorem dX9_named_156 : decode cX9_named 156 = .ok (.bipush 37, 2) := by decide +kernel
theorem dX9_named_158 : decode cX9_named 158 = .ok (.invokevirtual 196, 3) := by decide +kernel
theorem dX9_named_161 : decode cX9_named 161 = .ok (.ifCond .ne 4, 3) := by decide +kernel
theorem dX9_named_164 : decode cX9_named 164 = .ok (.return_, 1) := by decide +kernel
theorem dX9_named_165 : decode cX9_named 165 = .ok (.aload_n 0, 1) := by decide +kernel
theorem dX9_named_166 : decode cX9_named 166 = .ok (.getfield 38, 3) := by decide +kernel
theorem dX9_named_169 : decode cX9_named 169 = .ok (.iload_n 1, 1) := by decide +kernel
theorem dX9_named_170 : decode cX9_named 170 = .ok (.iaload, 1) := by decide +kernel
theorem dX9_named_171 : decode cX9_named 171 = .ok (.sipush 999, 3) := by decide +kernel
theorem dX9_named_174 : decode cX9_named 174 = .ok (.if_icmp .le 12, 3) := by decide +kernel
theorem dX9_named_177 : decode cX9_named 177 = .ok (.aload_n 0, 1) := by decide +kernel
theorem dX9_named_178 : decode cX9_named 178 = .ok (.iconst 2, 1) := by decide +kernel
theorem dX9_named_179 : decode cX9_named 179 = .ok (.aload_n 0, 1) := by decide +kernel
theorem dX9_named_180 : decode cX9_named 180 = .ok (.getfield 152, 3) := by decide +kernel
theorem dX9_named_183 : decode cX9_named 183 = .ok (.invokevirtual 189, 3) := by decide +kernel
theorem dX9_named_186 : decode cX9_named 186 = .ok (.aload_n 0, 1) := by decide +kernel
theorem dX9_named_187 : decode cX9_named 187 = .ok (.getfield 41, 3) := by decide +kernel
theorem dX9_named_190 : decode cX9_named 190 = .ok (.iload_n 1, 1) := by decide +kernel
theorem dX9_named_191 : decode cX9_named 191 = .ok (.iconst 1, 1) := by decide +kernel
theorem dX9_named_192 : decode cX9_named 192 = .ok (.bastore, 1) := by decide +kernel
theorem dX9_named_193 : decode cX9_named 193 = .ok (.aload_n 0, 1) := by decide +kernel
theorem dX9_named_194 : decode cX9_named 194 = .ok (.invokevirtual 193, 3) := by decide +kernel
theorem dX9_named_197 : decode cX9_named 197 = .ok (.return_, 1) := by decide +kernel
theorem dX9_scaleNumber_0 : decode cX9_scaleNumber 0 = .ok (.aload_n 0, 1) := by decide +kernel
theorem dX9_scaleNumber_1 : decode cX9_scaleNumber 1 = .ok (.getfield 183, 3) := by decide +kernel
theorem dX9_scaleNumber_4 : decode cX9_scaleNumber 4 = .ok (.ifCond .ne 31, 3) := by decide +kernel
theorem dX9_scaleNumber_7 : decode cX9_scaleNumber 7 = .ok (.aload_n 0, 1) := by decide +kernel
theorem dX9_scaleNumber_8 : decode cX9_scaleNumber 8 = .ok (.getfield 155, 3) := by decide +kernel
theorem dX9_scaleNumber_11 : decode cX9_scaleNumber 11 = .ok (.iconst 3, 1) := by decide +kernel
theorem dX9_scaleNumber_12 : decode cX9_scaleNumber 12 = .ok (.if_icmp .ne 23, 3) := by decide +kernel
theorem dX9_scaleNumber_15 : decode cX9_scaleNumber 15 = .ok (.aload_n 0, 1) := by decide +kernel
theorem dX9_scaleNumber_16 : decode cX9_scaleNumber 16 = .ok (.getfield 47, 3) := by decide +kernel
theorem dX9_scaleNumber_19 : decode cX9_scaleNumber 19 = .ok (.iload_n 1, 1) := by decide +kernel
theorem dX9_scaleNumber_20 : decode cX9_scaleNumber 20 = .ok (.iaload, 1) := by decide +kernel
theorem dX9_scaleNumber_21 : decode cX9_scaleNumber 21 = .ok (.bipush 8, 2) := by decide +kernel
theorem dX9_scaleNumber_23 : decode cX9_scaleNumber 23 = .ok (.if_icmp .ne 12, 3) := by decide +kernel
theorem dX9_scaleNumber_26 : decode cX9_scaleNumber 26 = .ok (.aload_n 0, 1) := by decide +kernel
theorem dX9_scaleNumber_27 : decode cX9_scaleNumber 27 = .ok (.iconst 2, 1) := by decide +kernel
theorem dX9_scaleNumber_28 : decode cX9_scaleNumber 28 = .ok (.aload_n 0, 1) := by decide +kernel
theorem dX9_scaleNumber_29 : decode cX9_scaleNumber 29 = .ok (.getfield 152, 3) := by decide +kernel
theorem dX9_scaleNumber_32 : decode cX9_scaleNumber 32 = .ok (.invokevirtual 189, 3) := by decide +kernel
theorem dX9_scaleNumber_35 : decode cX9_scaleNumber 35 = .ok (.aload_n 0, 1) := by decide +kernel
theorem dX9_scaleNumber_36 : decode cX9_scaleNumber 36 = .ok (.iconst 3, 1) := by decide +kernel
theorem dX9_scaleNumber_37 : decode cX9_scaleNumber 37 = .ok (.invokevirtual 211, 3) := by decide +kernel
theorem dX9_scaleNumber_40 : decode cX9_scaleNumber 40 = .ok (.istore_n 2, 1) := by decide +kernel
theorem dX9_scaleNumber_41 : decode cX9_scaleNumber 41 = .ok (.aload_n 0, 1) := by decide +kernel
theorem dX9_scaleNumber_42 : decode cX9_scaleNumber 42 = .ok (.getfield 183, 3) := by decide +kernel
theorem dX9_scaleNumber_45 : decode cX9_scaleNumber 45 = .ok (.ifCond .eq 4, 3) := by decide +kernel
theorem dX9_scaleNumber_48 : decode cX9_scaleNumber 48 = .ok (.return_, 1) := by decide +kernel
theorem dX9_scaleNumber_49 : decode cX9_scaleNumber 49 = .ok (.aload_n 0, 1) := by decide +kernel
theorem dX9_scaleNumber_50 : decode cX9_scaleNumber 50 = .ok (.getfield 44, 3) := by decide +kernel
theorem dX9_scaleNumber_53 : decode cX9_scaleNumber 53 = .ok (.bipush 8, 2) := by decide +kernel
theorem dX9_scaleNumber_55 : decode cX9_scaleNumber 55 = .ok (.iload_n 1, 1) := by decide +kernel
theorem dX9_scaleNumber_56 : decode cX9_scaleNumber 56 = .ok (.imul, 1) := by decide +kernel
theorem dX9_scaleNumber_57 : decode cX9_scaleNumber 57 = .ok (.aload_n 0, 1) := by decide +kernel
theorem dX9_scaleNumber_58 : decode cX9_scaleNumber 58 = .ok (.getfield 47, 3) := by decide +kernel
theorem dX9_scaleNumber_61 : decode cX9_scaleNumber 61 = .ok (.iload_n 1, 1) := by decide +kernel
theorem dX9_scaleNumber_62 : decode cX9_scaleNumber 62 = .ok (.iaload, 1) := by decide +kernel
theorem dX9_scaleNumber_63 : decode cX9_scaleNumber 63 = .ok (.iadd, 1) := by decide +kernel
theorem dX9_scaleNumber_64 : decode cX9_scaleNumber 64 = .ok (.iload_n 2, 1) := by decide +kernel
theorem dX9_scaleNumber_65 : decode cX9_scaleNumber 65 = .ok (.iastore, 1) := by decide +kernel
theorem dX9_scaleNumber_66 : decode cX9_scaleNumber 66 = .ok (.aload_n 0, 1) := by decide +kernel
theorem dX9_scaleNumber_67 : decode cX9_scaleNumber 67 = .ok (.getfield 47, 3) := by decide +kernel
theorem dX9_scaleNumber_70 : decode cX9_scaleNumber 70 = .ok (.iload_n 1, 1) := by decide +kernel
theorem dX9_scaleNumber_71 : decode cX9_scaleNumber 71 = .ok (.dup2, 1) := by decide +kernel
theorem dX9_scaleNumber_72 : decode cX9_scaleNumber 72 = .ok (.iaload, 1) := by decide +kernel
theorem dX9_scaleNumber_73 : decode cX9_scaleNumber 73 = .ok (.iconst 1, 1) := by decide +kernel
theorem dX9_scaleNumber_74 : decode cX9_scaleNumber 74 = .ok (.iadd, 1) := by decide +kernel
theorem dX9_scaleNumber_75 : decode cX9_scaleNumber 75 = .ok (.iastore, 1) := by decide +kernel
theorem dX9_scaleNumber_76 : decode cX9_scaleNumber 76 = .ok (.return_, 1) := by decide +kernel
theorem dX9_factOf_0 : decode cX9_factOf 0 = .ok (.aload_n 0, 1) := by decide +kernel
theorem dX9_factOf_1 : decode cX9_factOf 1 = .ok (.getfield 29, 3) := by decide +kernel
theorem dX9_factOf_4 : decode cX9_factOf 4 = .ok (.iload_n 1, 1) := by decide +kernel
theorem dX9_factOf_5 : decode cX9_factOf 5 = .ok (.aload_n 0, 1) := by decide +kernel
theorem dX9_factOf_6 : decode cX9_factOf 6 = .ok (.iconst 2, 1) := by decide +kernel
theorem dX9_factOf_7 : decode cX9_factOf 7 = .ok (.invokevirtual 211, 3) := by decide +kernel
theorem dX9_factOf_10 : decode cX9_factOf 10 = .ok (.iastore, 1) := by decide +kernel
theorem dX9_factOf_11 : decode cX9_factOf 11 = .ok (.aload_n 0, 1) := by decide +kernel
theorem dX9_factOf_12 : decode cX9_factOf 12 = .ok (.getfield 183, 3) := by decide +kernel
theorem dX9_factOf_15 : decode cX9_factOf 15 = .ok (.ifCond .eq 4, 3) := by decide +kernel
theorem dX9_factOf_18 : decode cX9_factOf 18 = .ok (.return_, 1) := by decide +kernel
theorem dX9_factOf_19 : decode cX9_factOf 19 = .ok (.aload_n 0, 1) := by decide +kernel
theorem dX9_factOf_20 : decode cX9_factOf 20 = .ok (.bipush 60, 2) := by decide +kernel
theorem dX9_factOf_22 : decode cX9_factOf 22 = .ok (.invokevirtual 196, 3) := by decide +kernel
theorem dX9_factOf_25 : decode cX9_factOf 25 = .ok (.ifCond .ne 31, 3) := by decide +kernel
theorem dX9_factOf_28 : decode cX9_factOf 28 = .ok (.aload_n 0, 1) := by decide +kernel
theorem dX9_factOf_29 : decode cX9_factOf 29 = .ok (.bipush 62, 2) := by decide +kernel
theorem dX9_factOf_31 : decode cX9_factOf 31 = .ok (.invokevirtual 196, 3) := by decide +kernel
theorem dX9_factOf_34 : decode cX9_factOf 34 = .ok (.ifCond .ne 22, 3) := by decide +kernel
theorem dX9_factOf_37 : decode cX9_factOf 37 = .ok (.aload_n 0, 1) := by decide +kernel
theorem dX9_factOf_38 : decode cX9_factOf 38 = .ok (.bipush 61, 2) := by decide +kernel
theorem dX9_factOf_40 : decode cX9_factOf 40 = .ok (.invokevirtual 196, 3) := by decide +kernel
theorem dX9_factOf_43 : decode cX9_factOf 43 = .ok (.ifCond .ne 13, 3) := by decide +kernel
theorem dX9_factOf_46 : decode cX9_factOf 46 = .ok (.aload_n 0, 1) := by decide +kernel
theorem dX9_factOf_47 : decode cX9_factOf 47 = .ok (.iconst 1, 1) := by decide +kernel
theorem dX9_factOf_48 : decode cX9_factOf 48 = .ok (.aload_n 0, 1) := by decide +kernel
theorem dX9_factOf_49 : decode cX9_factOf 49 = .ok (.getfield 152, 3) := by decide +kernel
theorem dX9_factOf_52 : decode cX9_factOf 52 = .ok (.invokevirtual 189, 3) := by decide +kernel
theorem dX9_factOf_55 : decode cX9_factOf 55 = .ok (.return_, 1) := by decide +kernel
theorem dX9_factOf_56 : decode cX9_factOf 56 = .ok (.aload_n 0, 1) := by decide +kernel
theorem dX9_factOf_57 : decode cX9_factOf 57 = .ok (.getfield 32, 3) := by decide +kernel
theorem dX9_factOf_60 : decode cX9_factOf 60 = .ok (.iload_n 1, 1) := by decide +kernel
theorem dX9_factOf_61 : decode cX9_factOf 61 = .ok (.aload_n 0, 1) := by decide +kernel
theorem dX9_factOf_62 : decode cX9_factOf 62 = .ok (.getfield 169, 3) := by decide +kernel
theorem dX9_factOf_65 : decode cX9_factOf 65 = .ok (.iastore, 1) := by decide +kernel
theorem dX9_factOf_66 : decode cX9_factOf 66 = .ok (.aload_n 0, 1) := by decide +kernel
theorem dX9_factOf_67 : decode cX9_factOf 67 = .ok (.invokevirtual 193, 3) := by decide +kernel
theorem dX9_factOf_70 : decode cX9_factOf 70 = .ok (.aload_n 0, 1) := by decide +kernel
theorem dX9_factOf_71 : decode cX9_factOf 71 = .ok (.getfield 35, 3) := by decide +kernel
theorem dX9_factOf_74 : decode cX9_factOf 74 = .ok (.iload_n 1, 1) := by decide +kernel
theorem dX9_factOf_75 : decode cX9_factOf 75 = .ok (.aload_n 0, 1) := by decide +kernel
theorem dX9_factOf_76 : decode cX9_factOf 76 = .ok (.iconst 3, 1) := by decide +kernel
theorem dX9_factOf_77 : decode cX9_factOf 77 = .ok (.invokevirtual 211, 3) := by decide +kernel
theorem dX9_factOf_80 : decode cX9_factOf 80 = .ok (.iastore, 1) := by decide +kernel
theorem dX9_factOf_81 : decode cX9_factOf 81 = .ok (.return_, 1) := by decide +kernel
theorem dX9_agree_0 : decode cX9_agree 0 = .ok (.aload_n 0, 1) := by decide +kernel
theorem dX9_agree_1 : decode cX9_agree 1 = .ok (.iconst 0, 1) := by decide +kernel
theorem dX9_agree_2 : decode cX9_agree 2 = .ok (.putfield 136, 3) := by decide +kernel
theorem dX9_agree_5 : decode cX9_agree 5 = .ok (.iload_n 1, 1) := by decide +kernel
theorem dX9_agree_6 : decode cX9_agree 6 = .ok (.ifCond .lt 31, 3) := by decide +kernel
theorem dX9_agree_9 : decode cX9_agree 9 = .ok (.iload_n 1, 1) := by decide +kernel
theorem dX9_agree_10 : decode cX9_agree 10 = .ok (.aload_n 0, 1) := by decide +kernel
theorem dX9_agree_11 : decode cX9_agree 11 = .ok (.getfield 139, 3) := by decide +kernel
theorem dX9_agree_14 : decode cX9_agree 14 = .ok (.if_icmp .gt 23, 3) := by decide +kernel
theorem dX9_agree_17 : decode cX9_agree 17 = .ok (.iload_n 2, 1) := by decide +kernel
theorem dX9_agree_18 : decode cX9_agree 18 = .ok (.ifCond .lt 19, 3) := by decide +kernel
theorem dX9_agree_21 : decode cX9_agree 21 = .ok (.iload_n 2, 1) := by decide +kernel
theorem dX9_agree_22 : decode cX9_agree 22 = .ok (.sipush 1200, 3) := by decide +kernel
theorem dX9_agree_25 : decode cX9_agree 25 = .ok (.if_icmp .ge 12, 3) := by decide +kernel
theorem dX9_agree_28 : decode cX9_agree 28 = .ok (.aload_n 0, 1) := by decide +kernel
theorem dX9_agree_29 : decode cX9_agree 29 = .ok (.getfield 199, 3) := by decide +kernel
theorem dX9_agree_32 : decode cX9_agree 32 = .ok (.bipush 12, 2) := by decide +kernel
theorem dX9_agree_34 : decode cX9_agree 34 = .ok (.if_icmp .ne 6, 3) := by decide +kernel
theorem dX9_agree_37 : decode cX9_agree 37 = .ok (.bipush (-2), 2) := by decide +kernel
theorem dX9_agree_39 : decode cX9_agree 39 = .ok (.ireturn, 1) := by decide +kernel
theorem dX9_agree_40 : decode cX9_agree 40 = .ok (.aload_n 0, 1) := by decide +kernel
theorem dX9_agree_41 : decode cX9_agree 41 = .ok (.iload_n 1, 1) := by decide +kernel
theorem dX9_agree_42 : decode cX9_agree 42 = .ok (.putfield 145, 3) := by decide +kernel
theorem dX9_agree_45 : decode cX9_agree 45 = .ok (.aload_n 0, 1) := by decide +kernel
theorem dX9_agree_46 : decode cX9_agree 46 = .ok (.iconst 0, 1) := by decide +kernel
theorem dX9_agree_47 : decode cX9_agree 47 = .ok (.putfield 139, 3) := by decide +kernel
theorem dX9_agree_50 : decode cX9_agree 50 = .ok (.aload_n 0, 1) := by decide +kernel
theorem dX9_agree_51 : decode cX9_agree 51 = .ok (.invokevirtual 224, 3) := by decide +kernel
theorem dX9_agree_54 : decode cX9_agree 54 = .ok (.aload_n 0, 1) := by decide +kernel
theorem dX9_agree_55 : decode cX9_agree 55 = .ok (.aload_n 0, 1) := by decide +kernel
theorem dX9_agree_56 : decode cX9_agree 56 = .ok (.getfield 183, 3) := by decide +kernel
theorem dX9_agree_59 : decode cX9_agree 59 = .ok (.putfield 227, 3) := by decide +kernel
theorem dX9_agree_62 : decode cX9_agree 62 = .ok (.aload_n 0, 1) := by decide +kernel
theorem dX9_agree_63 : decode cX9_agree 63 = .ok (.aload_n 0, 1) := by decide +kernel
theorem dX9_agree_64 : decode cX9_agree 64 = .ok (.getfield 186, 3) := by decide +kernel
theorem dX9_agree_67 : decode cX9_agree 67 = .ok (.putfield 50, 3) := by decide +kernel
theorem dX9_agree_70 : decode cX9_agree 70 = .ok (.aload_n 0, 1) := by decide +kernel
theorem dX9_agree_71 : decode cX9_agree 71 = .ok (.getfield 183, 3) := by decide +kernel
theorem dX9_agree_74 : decode cX9_agree 74 = .ok (.ifCond .eq 5, 3) := by decide +kernel
theorem dX9_agree_77 : decode cX9_agree 77 = .ok (.iconst (-1), 1) := by decide +kernel
theorem dX9_agree_78 : decode cX9_agree 78 = .ok (.ireturn, 1) := by decide +kernel
theorem dX9_agree_79 : decode cX9_agree 79 = .ok (.aload_n 0, 1) := by decide +kernel
theorem dX9_agree_80 : decode cX9_agree 80 = .ok (.getfield 13, 3) := by decide +kernel
theorem dX9_agree_83 : decode cX9_agree 83 = .ok (.aload_n 0, 1) := by decide +kernel
theorem dX9_agree_84 : decode cX9_agree 84 = .ok (.getfield 199, 3) := by decide +kernel
theorem dX9_agree_87 : decode cX9_agree 87 = .ok (.aload_n 0, 1) := by decide +kernel
theorem dX9_agree_88 : decode cX9_agree 88 = .ok (.getfield 230, 3) := by decide +kernel
theorem dX9_agree_91 : decode cX9_agree 91 = .ok (.iastore, 1) := by decide +kernel
theorem dX9_agree_92 : decode cX9_agree 92 = .ok (.aload_n 0, 1) := by decide +kernel
theorem dX9_agree_93 : decode cX9_agree 93 = .ok (.getfield 16, 3) := by decide +kernel
theorem dX9_agree_96 : decode cX9_agree 96 = .ok (.aload_n 0, 1) := by decide +kernel
theorem dX9_agree_97 : decode cX9_agree 97 = .ok (.getfield 199, 3) := by decide +kernel
theorem dX9_agree_100 : decode cX9_agree 100 = .ok (.iload_n 2, 1) := by decide +kernel
theorem dX9_agree_101 : decode cX9_agree 101 = .ok (.iastore, 1) := by decide +kernel
theorem dX9_agree_102 : decode cX9_agree 102 = .ok (.aload_n 0, 1) := by decide +kernel
theorem dX9_agree_103 : decode cX9_agree 103 = .ok (.dup, 1) := by decide +kernel
theorem dX9_agree_104 : decode cX9_agree 104 = .ok (.getfield 199, 3) := by decide +kernel
theorem dX9_agree_107 : decode cX9_agree 107 = .ok (.iconst 1, 1) := by decide +kernel
theorem dX9_agree_108 : decode cX9_agree 108 = .ok (.iadd, 1) := by decide +kernel
theorem dX9_agree_109 : decode cX9_agree 109 = .ok (.putfield 199, 3) := by decide +kernel
theorem dX9_agree_112 : decode cX9_agree 112 = .ok (.aload_n 0, 1) := by decide +kernel
theorem dX9_agree_113 : decode cX9_agree 113 = .ok (.getfield 19, 3) := by decide +kernel
theorem dX9_agree_116 : decode cX9_agree 116 = .ok (.aload_n 0, 1) := by decide +kernel
theorem dX9_agree_117 : decode cX9_agree 117 = .ok (.getfield 199, 3) := by decide +kernel
theorem dX9_agree_120 : decode cX9_agree 120 = .ok (.aload_n 0, 1) := by decide +kernel
theorem dX9_agree_121 : decode cX9_agree 121 = .ok (.getfield 202, 3) := by decide +kernel
theorem dX9_agree_124 : decode cX9_agree 124 = .ok (.iastore, 1) := by decide +kernel
theorem dX9_agree_125 : decode cX9_agree 125 = .ok (.aload_n 0, 1) := by decide +kernel
theorem dX9_agree_126 : decode cX9_agree 126 = .ok (.getfield 199, 3) := by decide +kernel
theorem dX9_agree_129 : decode cX9_agree 129 = .ok (.iconst 1, 1) := by decide +kernel
theorem dX9_agree_130 : decode cX9_agree 130 = .ok (.isub, 1) := by decide +kernel
theorem dX9_agree_131 : decode cX9_agree 131 = .ok (.ireturn, 1) := by decide +kernel
theorem dX9_fault_0 : decode cX9_fault 0 = .ok (.aload_n 0, 1) := by decide +kernel
theorem dX9_fault_1 : decode cX9_fault 1 = .ok (.iconst 0, 1) := by decide +kernel
theorem dX9_fault_2 : decode cX9_fault 2 = .ok (.putfield 136, 3) := by decide +kernel
theorem dX9_fault_5 : decode cX9_fault 5 = .ok (.iload_n 1, 1) := by decide +kernel
theorem dX9_fault_6 : decode cX9_fault 6 = .ok (.ifCond .ne 10, 3) := by decide +kernel
theorem dX9_fault_9 : decode cX9_fault 9 = .ok (.aload_n 0, 1) := by decide +kernel
theorem dX9_fault_10 : decode cX9_fault 10 = .ok (.getfield 227, 3) := by decide +kernel
theorem dX9_fault_13 : decode cX9_fault 13 = .ok (.goto 16, 3) := by decide +kernel
theorem dX9_fault_16 : decode cX9_fault 16 = .ok (.iload_n 1, 1) := by decide +kernel
theorem dX9_fault_17 : decode cX9_fault 17 = .ok (.iconst 1, 1) := by decide +kernel
theorem dX9_fault_18 : decode cX9_fault 18 = .ok (.if_icmp .ne 10, 3) := by decide +kernel
theorem dX9_fault_21 : decode cX9_fault 21 = .ok (.aload_n 0, 1) := by decide +kernel
theorem dX9_fault_22 : decode cX9_fault 22 = .ok (.getfield 50, 3) := by decide +kernel
theorem dX9_fault_25 : decode cX9_fault 25 = .ok (.goto 4, 3) := by decide +kernel
theorem dX9_fault_28 : decode cX9_fault 28 = .ok (.iconst (-1), 1) := by decide +kernel
theorem dX9_fault_29 : decode cX9_fault 29 = .ok (.ireturn, 1) := by decide +kernel
theorem dX9_pass_0 : decode cX9_pass 0 = .ok (.aload_n 0, 1) := by decide +kernel
theorem dX9_pass_1 : decode cX9_pass 1 = .ok (.iconst 0, 1) := by decide +kernel
theorem dX9_pass_2 : decode cX9_pass 2 = .ok (.putfield 136, 3) := by decide +kernel
theorem dX9_pass_5 : decode cX9_pass 5 = .ok (.iload_n 1, 1) := by decide +kernel
theorem dX9_pass_6 : decode cX9_pass 6 = .ok (.ifCond .lt 22, 3) := by decide +kernel
theorem dX9_pass_9 : decode cX9_pass 9 = .ok (.iload_n 1, 1) := by decide +kernel
theorem dX9_pass_10 : decode cX9_pass 10 = .ok (.sipush 1200, 3) := by decide +kernel
theorem dX9_pass_13 : decode cX9_pass 13 = .ok (.if_icmp .gt 15, 3) := by decide +kernel
theorem dX9_pass_16 : decode cX9_pass 16 = .ok (.aload_n 0, 1) := by decide +kernel
theorem dX9_pass_17 : decode cX9_pass 17 = .ok (.getfield 230, 3) := by decide +kernel
theorem dX9_pass_20 : decode cX9_pass 20 = .ok (.iload_n 1, 1) := by decide +kernel
theorem dX9_pass_21 : decode cX9_pass 21 = .ok (.iadd, 1) := by decide +kernel
theorem dX9_pass_22 : decode cX9_pass 22 = .ok (.sipush 1200, 3) := by decide +kernel
theorem dX9_pass_25 : decode cX9_pass 25 = .ok (.if_icmp .lt 5, 3) := by decide +kernel
theorem dX9_pass_28 : decode cX9_pass 28 = .ok (.iconst (-1), 1) := by decide +kernel
theorem dX9_pass_29 : decode cX9_pass 29 = .ok (.ireturn, 1) := by decide +kernel
theorem dX9_pass_30 : decode cX9_pass 30 = .ok (.aload_n 0, 1) := by decide +kernel
theorem dX9_pass_31 : decode cX9_pass 31 = .ok (.dup, 1) := by decide +kernel
theorem dX9_pass_32 : decode cX9_pass 32 = .ok (.getfield 230, 3) := by decide +kernel
theorem dX9_pass_35 : decode cX9_pass 35 = .ok (.iload_n 1, 1) := by decide +kernel
theorem dX9_pass_36 : decode cX9_pass 36 = .ok (.iadd, 1) := by decide +kernel
theorem dX9_pass_37 : decode cX9_pass 37 = .ok (.putfield 230, 3) := by decide +kernel
theorem dX9_pass_40 : decode cX9_pass 40 = .ok (.aload_n 0, 1) := by decide +kernel
theorem dX9_pass_41 : decode cX9_pass 41 = .ok (.getfield 230, 3) := by decide +kernel
theorem dX9_pass_44 : decode cX9_pass 44 = .ok (.ireturn, 1) := by decide +kernel
theorem dX9_post_0 : decode cX9_post 0 = .ok (.aload_n 0, 1) := by decide +kernel
theorem dX9_post_1 : decode cX9_post 1 = .ok (.iconst 0, 1) := by decide +kernel
theorem dX9_post_2 : decode cX9_post 2 = .ok (.putfield 136, 3) := by decide +kernel
theorem dX9_post_5 : decode cX9_post 5 = .ok (.iload_n 1, 1) := by decide +kernel
theorem dX9_post_6 : decode cX9_post 6 = .ok (.ifCond .lt 18, 3) := by decide +kernel
theorem dX9_post_9 : decode cX9_post 9 = .ok (.iload_n 1, 1) := by decide +kernel
theorem dX9_post_10 : decode cX9_post 10 = .ok (.bipush 7, 2) := by decide +kernel
theorem dX9_post_12 : decode cX9_post 12 = .ok (.if_icmp .gt 12, 3) := by decide +kernel
theorem dX9_post_15 : decode cX9_post 15 = .ok (.aload_n 0, 1) := by decide +kernel
theorem dX9_post_16 : decode cX9_post 16 = .ok (.getfield 233, 3) := by decide +kernel
theorem dX9_post_19 : decode cX9_post 19 = .ok (.bipush 8, 2) := by decide +kernel
theorem dX9_post_21 : decode cX9_post 21 = .ok (.if_icmp .ne 5, 3) := by decide +kernel
theorem dX9_post_24 : decode cX9_post 24 = .ok (.iconst (-1), 1) := by decide +kernel
theorem dX9_post_25 : decode cX9_post 25 = .ok (.ireturn, 1) := by decide +kernel
theorem dX9_post_26 : decode cX9_post 26 = .ok (.aload_n 0, 1) := by decide +kernel
theorem dX9_post_27 : decode cX9_post 27 = .ok (.getfield 54, 3) := by decide +kernel
theorem dX9_post_30 : decode cX9_post 30 = .ok (.aload_n 0, 1) := by decide +kernel
theorem dX9_post_31 : decode cX9_post 31 = .ok (.getfield 233, 3) := by decide +kernel
theorem dX9_post_34 : decode cX9_post 34 = .ok (.iload_n 1, 1) := by decide +kernel
theorem dX9_post_35 : decode cX9_post 35 = .ok (.iastore, 1) := by decide +kernel
theorem dX9_post_36 : decode cX9_post 36 = .ok (.aload_n 0, 1) := by decide +kernel
theorem dX9_post_37 : decode cX9_post 37 = .ok (.dup, 1) := by decide +kernel
theorem dX9_post_38 : decode cX9_post 38 = .ok (.getfield 233, 3) := by decide +kernel
theorem dX9_post_41 : decode cX9_post 41 = .ok (.iconst 1, 1) := by decide +kernel
theorem dX9_post_42 : decode cX9_post 42 = .ok (.iadd, 1) := by decide +kernel
theorem dX9_post_43 : decode cX9_post 43 = .ok (.putfield 233, 3) := by decide +kernel
theorem dX9_post_46 : decode cX9_post 46 = .ok (.aload_n 0, 1) := by decide +kernel
theorem dX9_post_47 : decode cX9_post 47 = .ok (.getfield 233, 3) := by decide +kernel
theorem dX9_post_50 : decode cX9_post 50 = .ok (.iconst 1, 1) := by decide +kernel
theorem dX9_post_51 : decode cX9_post 51 = .ok (.isub, 1) := by decide +kernel
theorem dX9_post_52 : decode cX9_post 52 = .ok (.ireturn, 1) := by decide +kernel
theorem dX9_isValue_0 : decode cX9_isValue 0 = .ok (.iload_n 0, 1) := by decide +kernel
theorem dX9_isValue_1 : decode cX9_isValue 1 = .ok (.bipush 6, 2) := by decide +kernel
theorem dX9_isValue_3 : decode cX9_isValue 3 = .ok (.if_icmp .ge 23, 3) := by decide +kernel
theorem dX9_isValue_6 : decode cX9_isValue 6 = .ok (.iload_n 1, 1) := by decide +kernel
theorem dX9_isValue_7 : decode cX9_isValue 7 = .ok (.sipush (-9999), 3) := by decide +kernel
theorem dX9_isValue_10 : decode cX9_isValue 10 = .ok (.if_icmp .lt 14, 3) := by decide +kernel
theorem dX9_isValue_13 : decode cX9_isValue 13 = .ok (.iload_n 1, 1) := by decide +kernel
theorem dX9_isValue_14 : decode cX9_isValue 14 = .ok (.sipush 9999, 3) := by decide +kernel
theorem dX9_isValue_17 : decode cX9_isValue 17 = .ok (.if_icmp .gt 7, 3) := by decide +kernel
theorem dX9_isValue_20 : decode cX9_isValue 20 = .ok (.iconst 1, 1) := by decide +kernel
theorem dX9_isValue_21 : decode cX9_isValue 21 = .ok (.goto 4, 3) := by decide +kernel
theorem dX9_isValue_24 : decode cX9_isValue 24 = .ok (.iconst 0, 1) := by decide +kernel
theorem dX9_isValue_25 : decode cX9_isValue 25 = .ok (.ireturn, 1) := by decide +kernel
theorem dX9_isValue_26 : decode cX9_isValue 26 = .ok (.iload_n 0, 1) := by decide +kernel
theorem dX9_isValue_27 : decode cX9_isValue 27 = .ok (.bipush 7, 2) := by decide +kernel
theorem dX9_isValue_29 : decode cX9_isValue 29 = .ok (.if_icmp .eq 18, 3) := by decide +kernel
theorem dX9_isValue_32 : decode cX9_isValue 32 = .ok (.iload_n 1, 1) := by decide +kernel
theorem dX9_isValue_33 : decode cX9_isValue 33 = .ok (.ifCond .eq 8, 3) := by decide +kernel
theorem dX9_isValue_36 : decode cX9_isValue 36 = .ok (.iload_n 1, 1) := by decide +kernel
theorem dX9_isValue_37 : decode cX9_isValue 37 = .ok (.iconst 1, 1) := by decide +kernel
theorem dX9_isValue_38 : decode cX9_isValue 38 = .ok (.if_icmp .ne 7, 3) := by decide +kernel
theorem dX9_isValue_41 : decode cX9_isValue 41 = .ok (.iconst 1, 1) := by decide +kernel
theorem dX9_isValue_42 : decode cX9_isValue 42 = .ok (.goto 4, 3) := by decide +kernel
theorem dX9_isValue_45 : decode cX9_isValue 45 = .ok (.iconst 0, 1) := by decide +kernel
theorem dX9_isValue_46 : decode cX9_isValue 46 = .ok (.ireturn, 1) := by decide +kernel
theorem dX9_isValue_47 : decode cX9_isValue 47 = .ok (.iload_n 1, 1) := by decide +kernel
theorem dX9_isValue_48 : decode cX9_isValue 48 = .ok (.ifCond .le 35, 3) := by decide +kernel
theorem dX9_isValue_51 : decode cX9_isValue 51 = .ok (.iload_n 1, 1) := by decide +kernel
theorem dX9_isValue_52 : decode cX9_isValue 52 = .ok (.bipush 10, 2) := by decide +kernel
theorem dX9_isValue_54 : decode cX9_isValue 54 = .ok (.irem, 1) := by decide +kernel
theorem dX9_isValue_55 : decode cX9_isValue 55 = .ok (.iconst 1, 1) := by decide +kernel
theorem dX9_isValue_56 : decode cX9_isValue 56 = .ok (.if_icmp .lt 27, 3) := by decide +kernel
theorem dX9_isValue_59 : decode cX9_isValue 59 = .ok (.iload_n 1, 1) := by decide +kernel
theorem dX9_isValue_60 : decode cX9_isValue 60 = .ok (.bipush 10, 2) := by decide +kernel
theorem dX9_isValue_62 : decode cX9_isValue 62 = .ok (.irem, 1) := by decide +kernel
theorem dX9_isValue_63 : decode cX9_isValue 63 = .ok (.bipush 8, 2) := by decide +kernel
theorem dX9_isValue_65 : decode cX9_isValue 65 = .ok (.if_icmp .gt 18, 3) := by decide +kernel
theorem dX9_isValue_68 : decode cX9_isValue 68 = .ok (.iload_n 1, 1) := by decide +kernel
theorem dX9_isValue_69 : decode cX9_isValue 69 = .ok (.bipush 10, 2) := by decide +kernel
theorem dX9_isValue_71 : decode cX9_isValue 71 = .ok (.idiv, 1) := by decide +kernel
theorem dX9_isValue_72 : decode cX9_isValue 72 = .ok (.iload_n 1, 1) := by decide +kernel
theorem dX9_isValue_73 : decode cX9_isValue 73 = .ok (.bipush 10, 2) := by decide +kernel
theorem dX9_isValue_75 : decode cX9_isValue 75 = .ok (.irem, 1) := by decide +kernel
theorem dX9_isValue_76 : decode cX9_isValue 76 = .ok (.if_icmp .gt 7, 3) := by decide +kernel
theorem dX9_isValue_79 : decode cX9_isValue 79 = .ok (.iconst 1, 1) := by decide +kernel
theorem dX9_isValue_80 : decode cX9_isValue 80 = .ok (.goto 4, 3) := by decide +kernel
theorem dX9_isValue_83 : decode cX9_isValue 83 = .ok (.iconst 0, 1) := by decide +kernel
theorem dX9_isValue_84 : decode cX9_isValue 84 = .ok (.ireturn, 1) := by decide +kernel
theorem dX9_note_0 : decode cX9_note 0 = .ok (.aload_n 0, 1) := by decide +kernel
theorem dX9_note_1 : decode cX9_note 1 = .ok (.iconst 0, 1) := by decide +kernel
theorem dX9_note_2 : decode cX9_note 2 = .ok (.putfield 136, 3) := by decide +kernel
theorem dX9_note_5 : decode cX9_note 5 = .ok (.iload_n 1, 1) := by decide +kernel
theorem dX9_note_6 : decode cX9_note 6 = .ok (.ifCond .lt 51, 3) := by decide +kernel
theorem dX9_note_9 : decode cX9_note 9 = .ok (.iload_n 1, 1) := by decide +kernel
theorem dX9_note_10 : decode cX9_note 10 = .ok (.aload_n 0, 1) := by decide +kernel
theorem dX9_note_11 : decode cX9_note 11 = .ok (.getfield 233, 3) := by decide +kernel
theorem dX9_note_14 : decode cX9_note 14 = .ok (.if_icmp .ge 43, 3) := by decide +kernel
theorem dX9_note_17 : decode cX9_note 17 = .ok (.iload_n 2, 1) := by decide +kernel
theorem dX9_note_18 : decode cX9_note 18 = .ok (.ifCond .lt 39, 3) := by decide +kernel
theorem dX9_note_21 : decode cX9_note 21 = .ok (.iload_n 2, 1) := by decide +kernel
theorem dX9_note_22 : decode cX9_note 22 = .ok (.bipush 8, 2) := by decide +kernel
theorem dX9_note_24 : decode cX9_note 24 = .ok (.if_icmp .gt 33, 3) := by decide +kernel
theorem dX9_note_27 : decode cX9_note 27 = .ok (.iload_n 3, 1) := by decide +kernel
theorem dX9_note_28 : decode cX9_note 28 = .ok (.ifCond .lt 29, 3) := by decide +kernel
theorem dX9_note_31 : decode cX9_note 31 = .ok (.iload_n 3, 1) := by decide +kernel
theorem dX9_note_32 : decode cX9_note 32 = .ok (.sipush 1200, 3) := by decide +kernel
theorem dX9_note_35 : decode cX9_note 35 = .ok (.if_icmp .ge 22, 3) := by decide +kernel
theorem dX9_note_38 : decode cX9_note 38 = .ok (.iload_n 2, 1) := by decide +kernel
theorem dX9_note_39 : decode cX9_note 39 = .ok (.iload 4, 2) := by decide +kernel
theorem dX9_note_41 : decode cX9_note 41 = .ok (.invokestatic 236, 3) := by decide +kernel
theorem dX9_note_44 : decode cX9_note 44 = .ok (.ifCond .eq 13, 3) := by decide +kernel
theorem dX9_note_47 : decode cX9_note 47 = .ok (.aload_n 0, 1) := by decide +kernel
theorem dX9_note_48 : decode cX9_note 48 = .ok (.getfield 240, 3) := by decide +kernel
theorem dX9_note_51 : decode cX9_note 51 = .ok (.sipush 200, 3) := by decide +kernel
theorem dX9_note_54 : decode cX9_note 54 = .ok (.if_icmp .ne 5, 3) := by decide +kernel
theorem dX9_note_57 : decode cX9_note 57 = .ok (.iconst (-1), 1) := by decide +kernel
theorem dX9_note_58 : decode cX9_note 58 = .ok (.ireturn, 1) := by decide +kernel
theorem dX9_note_59 : decode cX9_note 59 = .ok (.aload_n 0, 1) := by decide +kernel
theorem dX9_note_60 : decode cX9_note 60 = .ok (.getfield 57, 3) := by decide +kernel
theorem dX9_note_63 : decode cX9_note 63 = .ok (.aload_n 0, 1) := by decide +kernel
theorem dX9_note_64 : decode cX9_note 64 = .ok (.getfield 240, 3) := by decide +kernel
theorem dX9_note_67 : decode cX9_note 67 = .ok (.iload_n 1, 1) := by decide +kernel
theorem dX9_note_68 : decode cX9_note 68 = .ok (.iastore, 1) := by decide +kernel
theorem dX9_note_69 : decode cX9_note 69 = .ok (.aload_n 0, 1) := by decide +kernel
theorem dX9_note_70 : decode cX9_note 70 = .ok (.getfield 60, 3) := by decide +kernel
theorem dX9_note_73 : decode cX9_note 73 = .ok (.aload_n 0, 1) := by decide +kernel
theorem dX9_note_74 : decode cX9_note 74 = .ok (.getfield 240, 3) := by decide +kernel
theorem dX9_note_77 : decode cX9_note 77 = .ok (.iload_n 2, 1) := by decide +kernel
theorem dX9_note_78 : decode cX9_note 78 = .ok (.iastore, 1) := by decide +kernel
theorem dX9_note_79 : decode cX9_note 79 = .ok (.aload_n 0, 1) := by decide +kernel
theorem dX9_note_80 : decode cX9_note 80 = .ok (.getfield 63, 3) := by decide +kernel
theorem dX9_note_83 : decode cX9_note 83 = .ok (.aload_n 0, 1) := by decide +kernel
theorem dX9_note_84 : decode cX9_note 84 = .ok (.getfield 240, 3) := by decide +kernel
theorem dX9_note_87 : decode cX9_note 87 = .ok (.iload_n 3, 1) := by decide +kernel
theorem dX9_note_88 : decode cX9_note 88 = .ok (.iastore, 1) := by decide +kernel
theorem dX9_note_89 : decode cX9_note 89 = .ok (.aload_n 0, 1) := by decide +kernel
theorem dX9_note_90 : decode cX9_note 90 = .ok (.getfield 66, 3) := by decide +kernel
theorem dX9_note_93 : decode cX9_note 93 = .ok (.aload_n 0, 1) := by decide +kernel
theorem dX9_note_94 : decode cX9_note 94 = .ok (.getfield 240, 3) := by decide +kernel
theorem dX9_note_97 : decode cX9_note 97 = .ok (.aload_n 0, 1) := by decide +kernel
theorem dX9_note_98 : decode cX9_note 98 = .ok (.getfield 230, 3) := by decide +kernel
theorem dX9_note_101 : decode cX9_note 101 = .ok (.iastore, 1) := by decide +kernel
theorem dX9_note_102 : decode cX9_note 102 = .ok (.aload_n 0, 1) := by decide +kernel
theorem dX9_note_103 : decode cX9_note 103 = .ok (.getfield 69, 3) := by decide +kernel
theorem dX9_note_106 : decode cX9_note 106 = .ok (.aload_n 0, 1) := by decide +kernel
theorem dX9_note_107 : decode cX9_note 107 = .ok (.getfield 240, 3) := by decide +kernel
theorem dX9_note_110 : decode cX9_note 110 = .ok (.iload 4, 2) := by decide +kernel
theorem dX9_note_112 : decode cX9_note 112 = .ok (.iastore, 1) := by decide +kernel
theorem dX9_note_113 : decode cX9_note 113 = .ok (.aload_n 0, 1) := by decide +kernel
theorem dX9_note_114 : decode cX9_note 114 = .ok (.dup, 1) := by decide +kernel
theorem dX9_note_115 : decode cX9_note 115 = .ok (.getfield 240, 3) := by decide +kernel
theorem dX9_note_118 : decode cX9_note 118 = .ok (.iconst 1, 1) := by decide +kernel
theorem dX9_note_119 : decode cX9_note 119 = .ok (.iadd, 1) := by decide +kernel
theorem dX9_note_120 : decode cX9_note 120 = .ok (.putfield 240, 3) := by decide +kernel
theorem dX9_note_123 : decode cX9_note 123 = .ok (.aload_n 0, 1) := by decide +kernel
theorem dX9_note_124 : decode cX9_note 124 = .ok (.getfield 240, 3) := by decide +kernel
theorem dX9_note_127 : decode cX9_note 127 = .ok (.ireturn, 1) := by decide +kernel
theorem dX9_lawsOf_0 : decode cX9_lawsOf 0 = .ok (.iconst 0, 1) := by decide +kernel
theorem dX9_lawsOf_1 : decode cX9_lawsOf 1 = .ok (.istore_n 3, 1) := by decide +kernel
theorem dX9_lawsOf_2 : decode cX9_lawsOf 2 = .ok (.iload_n 3, 1) := by decide +kernel
theorem dX9_lawsOf_3 : decode cX9_lawsOf 3 = .ok (.sipush 156, 3) := by decide +kernel
theorem dX9_lawsOf_6 : decode cX9_lawsOf 6 = .ok (.if_icmp .ge 30, 3) := by decide +kernel
theorem dX9_lawsOf_9 : decode cX9_lawsOf 9 = .ok (.aload_n 0, 1) := by decide +kernel
theorem dX9_lawsOf_10 : decode cX9_lawsOf 10 = .ok (.getfield 72, 3) := by decide +kernel
theorem dX9_lawsOf_13 : decode cX9_lawsOf 13 = .ok (.iload_n 3, 1) := by decide +kernel
theorem dX9_lawsOf_14 : decode cX9_lawsOf 14 = .ok (.iconst (-1), 1) := by decide +kernel
theorem dX9_lawsOf_15 : decode cX9_lawsOf 15 = .ok (.iastore, 1) := by decide +kernel
theorem dX9_lawsOf_16 : decode cX9_lawsOf 16 = .ok (.aload_n 0, 1) := by decide +kernel
theorem dX9_lawsOf_17 : decode cX9_lawsOf 17 = .ok (.getfield 75, 3) := by decide +kernel
theorem dX9_lawsOf_20 : decode cX9_lawsOf 20 = .ok (.iload_n 3, 1) := by decide +kernel
theorem dX9_lawsOf_21 : decode cX9_lawsOf 21 = .ok (.iconst (-1), 1) := by decide +kernel
theorem dX9_lawsOf_22 : decode cX9_lawsOf 22 = .ok (.iastore, 1) := by decide +kernel
theorem dX9_lawsOf_23 : decode cX9_lawsOf 23 = .ok (.aload_n 0, 1) := by decide +kernel
theorem dX9_lawsOf_24 : decode cX9_lawsOf 24 = .ok (.getfield 78, 3) := by decide +kernel
theorem dX9_lawsOf_27 : decode cX9_lawsOf 27 = .ok (.iload_n 3, 1) := by decide +kernel
theorem dX9_lawsOf_28 : decode cX9_lawsOf 28 = .ok (.iconst 0, 1) := by decide +kernel
theorem dX9_lawsOf_29 : decode cX9_lawsOf 29 = .ok (.iastore, 1) := by decide +kernel
theorem dX9_lawsOf_30 : decode cX9_lawsOf 30 = .ok (.iinc 3 1, 3) := by decide +kernel
theorem dX9_lawsOf_33 : decode cX9_lawsOf 33 = .ok (.goto (-31), 3) := by decide +kernel
theorem dX9_lawsOf_36 : decode cX9_lawsOf 36 = .ok (.iconst 0, 1) := by decide +kernel
theorem dX9_lawsOf_37 : decode cX9_lawsOf 37 = .ok (.istore_n 3, 1) := by decide +kernel
theorem dX9_lawsOf_38 : decode cX9_lawsOf 38 = .ok (.iload_n 3, 1) := by decide +kernel
theorem dX9_lawsOf_39 : decode cX9_lawsOf 39 = .ok (.aload_n 0, 1) := by decide +kernel
theorem dX9_lawsOf_40 : decode cX9_lawsOf 40 = .ok (.getfield 199, 3) := by decide +kernel
theorem dX9_lawsOf_43 : decode cX9_lawsOf 43 = .ok (.if_icmp .ge 145, 3) := by decide +kernel
theorem dX9_lawsOf_46 : decode cX9_lawsOf 46 = .ok (.aload_n 0, 1) := by decide +kernel
theorem dX9_lawsOf_47 : decode cX9_lawsOf 47 = .ok (.getfield 13, 3) := by decide +kernel
theorem dX9_lawsOf_50 : decode cX9_lawsOf 50 = .ok (.iload_n 3, 1) := by decide +kernel
theorem dX9_lawsOf_51 : decode cX9_lawsOf 51 = .ok (.iaload, 1) := by decide +kernel
theorem dX9_lawsOf_52 : decode cX9_lawsOf 52 = .ok (.iload_n 2, 1) := by decide +kernel
theorem dX9_lawsOf_53 : decode cX9_lawsOf 53 = .ok (.if_icmp .gt 129, 3) := by decide +kernel
theorem dX9_lawsOf_56 : decode cX9_lawsOf 56 = .ok (.aload_n 0, 1) := by decide +kernel
theorem dX9_lawsOf_57 : decode cX9_lawsOf 57 = .ok (.getfield 16, 3) := by decide +kernel
theorem dX9_lawsOf_60 : decode cX9_lawsOf 60 = .ok (.iload_n 3, 1) := by decide +kernel
theorem dX9_lawsOf_61 : decode cX9_lawsOf 61 = .ok (.iaload, 1) := by decide +kernel
theorem dX9_lawsOf_62 : decode cX9_lawsOf 62 = .ok (.iload_n 1, 1) := by decide +kernel
theorem dX9_lawsOf_63 : decode cX9_lawsOf 63 = .ok (.if_icmp .le 6, 3) := by decide +kernel
theorem dX9_lawsOf_66 : decode cX9_lawsOf 66 = .ok (.goto 116, 3) := by decide +kernel
theorem dX9_lawsOf_69 : decode cX9_lawsOf 69 = .ok (.aload_n 0, 1) := by decide +kernel
theorem dX9_lawsOf_70 : decode cX9_lawsOf 70 = .ok (.getfield 19, 3) := by decide +kernel
theorem dX9_lawsOf_73 : decode cX9_lawsOf 73 = .ok (.iload_n 3, 1) := by decide +kernel
theorem dX9_lawsOf_74 : decode cX9_lawsOf 74 = .ok (.iaload, 1) := by decide +kernel
theorem dX9_lawsOf_75 : decode cX9_lawsOf 75 = .ok (.istore 4, 2) := by decide +kernel
theorem dX9_lawsOf_77 : decode cX9_lawsOf 77 = .ok (.iload 4, 2) := by decide +kernel
theorem dX9_lawsOf_79 : decode cX9_lawsOf 79 = .ok (.aload_n 0, 1) := by decide +kernel
theorem dX9_lawsOf_80 : decode cX9_lawsOf 80 = .ok (.getfield 19, 3) := by decide +kernel
theorem dX9_lawsOf_83 : decode cX9_lawsOf 83 = .ok (.iload_n 3, 1) := by decide +kernel
theorem dX9_lawsOf_84 : decode cX9_lawsOf 84 = .ok (.iconst 1, 1) := by decide +kernel
theorem dX9_lawsOf_85 : decode cX9_lawsOf 85 = .ok (.iadd, 1) := by decide +kernel
theorem dX9_lawsOf_86 : decode cX9_lawsOf 86 = .ok (.iaload, 1) := by decide +kernel
theorem dX9_lawsOf_87 : decode cX9_lawsOf 87 = .ok (.if_icmp .ge 95, 3) := by decide +kernel
theorem dX9_lawsOf_90 : decode cX9_lawsOf 90 = .ok (.aload_n 0, 1) := by decide +kernel
theorem dX9_lawsOf_91 : decode cX9_lawsOf 91 = .ok (.getfield 22, 3) := by decide +kernel
theorem dX9_lawsOf_94 : decode cX9_lawsOf 94 = .ok (.iload 4, 2) := by decide +kernel
theorem dX9_lawsOf_96 : decode cX9_lawsOf 96 = .ok (.iaload, 1) := by decide +kernel
theorem dX9_lawsOf_97 : decode cX9_lawsOf 97 = .ok (.istore 5, 2) := by decide +kernel
theorem dX9_lawsOf_99 : decode cX9_lawsOf 99 = .ok (.aload_n 0, 1) := by decide +kernel
theorem dX9_lawsOf_100 : decode cX9_lawsOf 100 = .ok (.getfield 78, 3) := by decide +kernel
theorem dX9_lawsOf_103 : decode cX9_lawsOf 103 = .ok (.iload 5, 2) := by decide +kernel
theorem dX9_lawsOf_105 : decode cX9_lawsOf 105 = .ok (.dup2, 1) := by decide +kernel
theorem dX9_lawsOf_106 : decode cX9_lawsOf 106 = .ok (.iaload, 1) := by decide +kernel
theorem dX9_lawsOf_107 : decode cX9_lawsOf 107 = .ok (.iconst 1, 1) := by decide +kernel
theorem dX9_lawsOf_108 : decode cX9_lawsOf 108 = .ok (.iadd, 1) := by decide +kernel
theorem dX9_lawsOf_109 : decode cX9_lawsOf 109 = .ok (.iastore, 1) := by decide +kernel
theorem dX9_lawsOf_110 : decode cX9_lawsOf 110 = .ok (.aload_n 0, 1) := by decide +kernel
theorem dX9_lawsOf_111 : decode cX9_lawsOf 111 = .ok (.getfield 75, 3) := by decide +kernel
theorem dX9_lawsOf_114 : decode cX9_lawsOf 114 = .ok (.iload 5, 2) := by decide +kernel
theorem dX9_lawsOf_116 : decode cX9_lawsOf 116 = .ok (.iaload, 1) := by decide +kernel
theorem dX9_lawsOf_117 : decode cX9_lawsOf 117 = .ok (.iconst (-1), 1) := by decide +kernel
theorem dX9_lawsOf_118 : decode cX9_lawsOf 118 = .ok (.if_icmp .eq 27, 3) := by decide +kernel
theorem dX9_lawsOf_121 : decode cX9_lawsOf 121 = .ok (.aload_n 0, 1) := by decide +kernel
theorem dX9_lawsOf_122 : decode cX9_lawsOf 122 = .ok (.getfield 16, 3) := by decide +kernel
theorem dX9_lawsOf_125 : decode cX9_lawsOf 125 = .ok (.aload_n 0, 1) := by decide +kernel
theorem dX9_lawsOf_126 : decode cX9_lawsOf 126 = .ok (.getfield 75, 3) := by decide +kernel
theorem dX9_lawsOf_129 : decode cX9_lawsOf 129 = .ok (.iload 5, 2) := by decide +kernel
theorem dX9_lawsOf_131 : decode cX9_lawsOf 131 = .ok (.iaload, 1) := by decide +kernel
theorem dX9_lawsOf_132 : decode cX9_lawsOf 132 = .ok (.iaload, 1) := by decide +kernel
theorem dX9_lawsOf_133 : decode cX9_lawsOf 133 = .ok (.aload_n 0, 1) := by decide +kernel
theorem dX9_lawsOf_134 : decode cX9_lawsOf 134 = .ok (.getfield 16, 3) := by decide +kernel
theorem dX9_lawsOf_137 : decode cX9_lawsOf 137 = .ok (.iload_n 3, 1) := by decide +kernel
theorem dX9_lawsOf_138 : decode cX9_lawsOf 138 = .ok (.iaload, 1) := by decide +kernel
theorem dX9_lawsOf_139 : decode cX9_lawsOf 139 = .ok (.if_icmp .le 6, 3) := by decide +kernel
theorem dX9_lawsOf_142 : decode cX9_lawsOf 142 = .ok (.goto 34, 3) := by decide +kernel
theorem dX9_lawsOf_145 : decode cX9_lawsOf 145 = .ok (.aload_n 0, 1) := by decide +kernel
theorem dX9_lawsOf_146 : decode cX9_lawsOf 146 = .ok (.getfield 75, 3) := by decide +kernel
theorem dX9_lawsOf_149 : decode cX9_lawsOf 149 = .ok (.iload 5, 2) := by decide +kernel
theorem dX9_lawsOf_151 : decode cX9_lawsOf 151 = .ok (.iload_n 3, 1) := by decide +kernel
theorem dX9_lawsOf_152 : decode cX9_lawsOf 152 = .ok (.iastore, 1) := by decide +kernel
theorem dX9_lawsOf_153 : decode cX9_lawsOf 153 = .ok (.aload_n 0, 1) := by decide +kernel
theorem dX9_lawsOf_154 : decode cX9_lawsOf 154 = .ok (.getfield 72, 3) := by decide +kernel
theorem dX9_lawsOf_157 : decode cX9_lawsOf 157 = .ok (.iload 5, 2) := by decide +kernel
theorem dX9_lawsOf_159 : decode cX9_lawsOf 159 = .ok (.aload_n 0, 1) := by decide +kernel
theorem dX9_lawsOf_160 : decode cX9_lawsOf 160 = .ok (.getfield 25, 3) := by decide +kernel
theorem dX9_lawsOf_163 : decode cX9_lawsOf 163 = .ok (.iload 4, 2) := by decide +kernel
theorem dX9_lawsOf_165 : decode cX9_lawsOf 165 = .ok (.baload, 1) := by decide +kernel
theorem dX9_lawsOf_166 : decode cX9_lawsOf 166 = .ok (.ifCond .eq 7, 3) := by decide +kernel
theorem dX9_lawsOf_169 : decode cX9_lawsOf 169 = .ok (.iconst (-1), 1) := by decide +kernel
theorem dX9_lawsOf_170 : decode cX9_lawsOf 170 = .ok (.goto 5, 3) := by decide +kernel
theorem dX9_lawsOf_173 : decode cX9_lawsOf 173 = .ok (.iload 4, 2) := by decide +kernel
theorem dX9_lawsOf_175 : decode cX9_lawsOf 175 = .ok (.iastore, 1) := by decide +kernel
theorem dX9_lawsOf_176 : decode cX9_lawsOf 176 = .ok (.iinc 4 1, 3) := by decide +kernel
theorem dX9_lawsOf_179 : decode cX9_lawsOf 179 = .ok (.goto (-102), 3) := by decide +kernel
theorem dX9_lawsOf_182 : decode cX9_lawsOf 182 = .ok (.iinc 3 1, 3) := by decide +kernel
theorem dX9_lawsOf_185 : decode cX9_lawsOf 185 = .ok (.goto (-147), 3) := by decide +kernel
theorem dX9_lawsOf_188 : decode cX9_lawsOf 188 = .ok (.return_, 1) := by decide +kernel
theorem dX9_isBeginning_0 : decode cX9_isBeginning 0 = .ok (.iload_n 1, 1) := by decide +kernel
theorem dX9_isBeginning_1 : decode cX9_isBeginning 1 = .ok (.ifCond .ne 7, 3) := by decide +kernel
theorem dX9_isBeginning_4 : decode cX9_isBeginning 4 = .ok (.iconst 1, 1) := by decide +kernel
theorem dX9_isBeginning_5 : decode cX9_isBeginning 5 = .ok (.goto 4, 3) := by decide +kernel
theorem dX9_isBeginning_8 : decode cX9_isBeginning 8 = .ok (.iconst 0, 1) := by decide +kernel
theorem dX9_isBeginning_9 : decode cX9_isBeginning 9 = .ok (.istore_n 2, 1) := by decide +kernel
theorem dX9_isBeginning_10 : decode cX9_isBeginning 10 = .ok (.iconst 0, 1) := by decide +kernel
theorem dX9_isBeginning_11 : decode cX9_isBeginning 11 = .ok (.istore_n 3, 1) := by decide +kernel
theorem dX9_isBeginning_12 : decode cX9_isBeginning 12 = .ok (.iload_n 3, 1) := by decide +kernel
theorem dX9_isBeginning_13 : decode cX9_isBeginning 13 = .ok (.aload_n 0, 1) := by decide +kernel
theorem dX9_isBeginning_14 : decode cX9_isBeginning 14 = .ok (.getfield 199, 3) := by decide +kernel
theorem dX9_isBeginning_17 : decode cX9_isBeginning 17 = .ok (.if_icmp .ge 29, 3) := by decide +kernel
theorem dX9_isBeginning_20 : decode cX9_isBeginning 20 = .ok (.iload_n 2, 1) := by decide +kernel
theorem dX9_isBeginning_21 : decode cX9_isBeginning 21 = .ok (.ifCond .ne 13, 3) := by decide +kernel
theorem dX9_isBeginning_24 : decode cX9_isBeginning 24 = .ok (.aload_n 0, 1) := by decide +kernel
theorem dX9_isBeginning_25 : decode cX9_isBeginning 25 = .ok (.getfield 16, 3) := by decide +kernel
theorem dX9_isBeginning_28 : decode cX9_isBeginning 28 = .ok (.iload_n 3, 1) := by decide +kernel
theorem dX9_isBeginning_29 : decode cX9_isBeginning 29 = .ok (.iaload, 1) := by decide +kernel
theorem dX9_isBeginning_30 : decode cX9_isBeginning 30 = .ok (.iload_n 1, 1) := by decide +kernel
theorem dX9_isBeginning_31 : decode cX9_isBeginning 31 = .ok (.if_icmp .ne 7, 3) := by decide +kernel
theorem dX9_isBeginning_34 : decode cX9_isBeginning 34 = .ok (.iconst 1, 1) := by decide +kernel
theorem dX9_isBeginning_35 : decode cX9_isBeginning 35 = .ok (.goto 4, 3) := by decide +kernel
theorem dX9_isBeginning_38 : decode cX9_isBeginning 38 = .ok (.iconst 0, 1) := by decide +kernel
theorem dX9_isBeginning_39 : decode cX9_isBeginning 39 = .ok (.istore_n 2, 1) := by decide +kernel
theorem dX9_isBeginning_40 : decode cX9_isBeginning 40 = .ok (.iinc 3 1, 3) := by decide +kernel
theorem dX9_isBeginning_43 : decode cX9_isBeginning 43 = .ok (.goto (-31), 3) := by decide +kernel
theorem dX9_isBeginning_46 : decode cX9_isBeginning 46 = .ok (.iload_n 2, 1) := by decide +kernel
theorem dX9_isBeginning_47 : decode cX9_isBeginning 47 = .ok (.ireturn, 1) := by decide +kernel
theorem dX9_numberOf_0 : decode cX9_numberOf 0 = .ok (.aload_n 0, 1) := by decide +kernel
theorem dX9_numberOf_1 : decode cX9_numberOf 1 = .ok (.getfield 72, 3) := by decide +kernel
theorem dX9_numberOf_4 : decode cX9_numberOf 4 = .ok (.bipush 26, 2) := by decide +kernel
theorem dX9_numberOf_6 : decode cX9_numberOf 6 = .ok (.iload_n 1, 1) := by decide +kernel
theorem dX9_numberOf_7 : decode cX9_numberOf 7 = .ok (.imul, 1) := by decide +kernel
theorem dX9_numberOf_8 : decode cX9_numberOf 8 = .ok (.iaload, 1) := by decide +kernel
theorem dX9_numberOf_9 : decode cX9_numberOf 9 = .ok (.istore_n 3, 1) := by decide +kernel
theorem dX9_numberOf_10 : decode cX9_numberOf 10 = .ok (.iload_n 3, 1) := by decide +kernel
theorem dX9_numberOf_11 : decode cX9_numberOf 11 = .ok (.iconst (-1), 1) := by decide +kernel
theorem dX9_numberOf_12 : decode cX9_numberOf 12 = .ok (.if_icmp .ne 7, 3) := by decide +kernel
theorem dX9_numberOf_15 : decode cX9_numberOf 15 = .ok (.iload_n 2, 1) := by decide +kernel
theorem dX9_numberOf_16 : decode cX9_numberOf 16 = .ok (.goto 9, 3) := by decide +kernel
theorem dX9_numberOf_19 : decode cX9_numberOf 19 = .ok (.aload_n 0, 1) := by decide +kernel
theorem dX9_numberOf_20 : decode cX9_numberOf 20 = .ok (.getfield 38, 3) := by decide +kernel
theorem dX9_numberOf_23 : decode cX9_numberOf 23 = .ok (.iload_n 3, 1) := by decide +kernel
theorem dX9_numberOf_24 : decode cX9_numberOf 24 = .ok (.iaload, 1) := by decide +kernel
theorem dX9_numberOf_25 : decode cX9_numberOf 25 = .ok (.ireturn, 1) := by decide +kernel
theorem dX9_holds_0 : decode cX9_holds 0 = .ok (.aload_n 0, 1) := by decide +kernel
theorem dX9_holds_1 : decode cX9_holds 1 = .ok (.getfield 29, 3) := by decide +kernel
theorem dX9_holds_4 : decode cX9_holds 4 = .ok (.iload_n 2, 1) := by decide +kernel
theorem dX9_holds_5 : decode cX9_holds 5 = .ok (.iaload, 1) := by decide +kernel
theorem dX9_holds_6 : decode cX9_holds 6 = .ok (.iconst (-1), 1) := by decide +kernel
theorem dX9_holds_7 : decode cX9_holds 7 = .ok (.if_icmp .ne 5, 3) := by decide +kernel
theorem dX9_holds_10 : decode cX9_holds 10 = .ok (.iconst 1, 1) := by decide +kernel
theorem dX9_holds_11 : decode cX9_holds 11 = .ok (.ireturn, 1) := by decide +kernel
theorem dX9_holds_12 : decode cX9_holds 12 = .ok (.aload_n 0, 1) := by decide +kernel
theorem dX9_holds_13 : decode cX9_holds 13 = .ok (.getfield 81, 3) := by decide +kernel
theorem dX9_holds_16 : decode cX9_holds 16 = .ok (.bipush 9, 2) := by decide +kernel
theorem dX9_holds_18 : decode cX9_holds 18 = .ok (.iload_n 1, 1) := by decide +kernel
theorem dX9_holds_19 : decode cX9_holds 19 = .ok (.imul, 1) := by decide +kernel
theorem dX9_holds_20 : decode cX9_holds 20 = .ok (.aload_n 0, 1) := by decide +kernel
theorem dX9_holds_21 : decode cX9_holds 21 = .ok (.getfield 29, 3) := by decide +kernel
theorem dX9_holds_24 : decode cX9_holds 24 = .ok (.iload_n 2, 1) := by decide +kernel
theorem dX9_holds_25 : decode cX9_holds 25 = .ok (.iaload, 1) := by decide +kernel
theorem dX9_holds_26 : decode cX9_holds 26 = .ok (.iadd, 1) := by decide +kernel
theorem dX9_holds_27 : decode cX9_holds 27 = .ok (.iaload, 1) := by decide +kernel
theorem dX9_holds_28 : decode cX9_holds 28 = .ok (.istore_n 3, 1) := by decide +kernel
theorem dX9_holds_29 : decode cX9_holds 29 = .ok (.aload_n 0, 1) := by decide +kernel
theorem dX9_holds_30 : decode cX9_holds 30 = .ok (.getfield 32, 3) := by decide +kernel
theorem dX9_holds_33 : decode cX9_holds 33 = .ok (.iload_n 2, 1) := by decide +kernel
theorem dX9_holds_34 : decode cX9_holds 34 = .ok (.iaload, 1) := by decide +kernel
theorem dX9_holds_35 : decode cX9_holds 35 = .ok (.bipush 60, 2) := by decide +kernel
theorem dX9_holds_37 : decode cX9_holds 37 = .ok (.if_icmp .ne 21, 3) := by decide +kernel
theorem dX9_holds_40 : decode cX9_holds 40 = .ok (.iload_n 3, 1) := by decide +kernel
theorem dX9_holds_41 : decode cX9_holds 41 = .ok (.aload_n 0, 1) := by decide +kernel
theorem dX9_holds_42 : decode cX9_holds 42 = .ok (.getfield 35, 3) := by decide +kernel
theorem dX9_holds_45 : decode cX9_holds 45 = .ok (.iload_n 2, 1) := by decide +kernel
theorem dX9_holds_46 : decode cX9_holds 46 = .ok (.iaload, 1) := by decide +kernel
theorem dX9_holds_47 : decode cX9_holds 47 = .ok (.if_icmp .ge 7, 3) := by decide +kernel
theorem dX9_holds_50 : decode cX9_holds 50 = .ok (.iconst 1, 1) := by decide +kernel
theorem dX9_holds_51 : decode cX9_holds 51 = .ok (.goto 51, 3) := by decide +kernel
theorem dX9_holds_54 : decode cX9_holds 54 = .ok (.iconst 0, 1) := by decide +kernel
theorem dX9_holds_55 : decode cX9_holds 55 = .ok (.goto 47, 3) := by decide +kernel
theorem dX9_holds_58 : decode cX9_holds 58 = .ok (.aload_n 0, 1) := by decide +kernel
theorem dX9_holds_59 : decode cX9_holds 59 = .ok (.getfield 32, 3) := by decide +kernel
theorem dX9_holds_62 : decode cX9_holds 62 = .ok (.iload_n 2, 1) := by decide +kernel
theorem dX9_holds_63 : decode cX9_holds 63 = .ok (.iaload, 1) := by decide +kernel
theorem dX9_holds_64 : decode cX9_holds 64 = .ok (.bipush 62, 2) := by decide +kernel
theorem dX9_holds_66 : decode cX9_holds 66 = .ok (.if_icmp .ne 21, 3) := by decide +kernel
theorem dX9_holds_69 : decode cX9_holds 69 = .ok (.iload_n 3, 1) := by decide +kernel
theorem dX9_holds_70 : decode cX9_holds 70 = .ok (.aload_n 0, 1) := by decide +kernel
theorem dX9_holds_71 : decode cX9_holds 71 = .ok (.getfield 35, 3) := by decide +kernel
theorem dX9_holds_74 : decode cX9_holds 74 = .ok (.iload_n 2, 1) := by decide +kernel
theorem dX9_holds_75 : decode cX9_holds 75 = .ok (.iaload, 1) := by decide +kernel
theorem dX9_holds_76 : decode cX9_holds 76 = .ok (.if_icmp .le 7, 3) := by decide +kernel
theorem dX9_holds_79 : decode cX9_holds 79 = .ok (.iconst 1, 1) := by decide +kernel
theorem dX9_holds_80 : decode cX9_holds 80 = .ok (.goto 22, 3) := by decide +kernel
theorem dX9_holds_83 : decode cX9_holds 83 = .ok (.iconst 0, 1) := by decide +kernel
theorem dX9_holds_84 : decode cX9_holds 84 = .ok (.goto 18, 3) := by decide +kernel
theorem dX9_holds_87 : decode cX9_holds 87 = .ok (.iload_n 3, 1) := by decide +kernel
theorem dX9_holds_88 : decode cX9_holds 88 = .ok (.aload_n 0, 1) := by decide +kernel
theorem dX9_holds_89 : decode cX9_holds 89 = .ok (.getfield 35, 3) := by decide +kernel
theorem dX9_holds_92 : decode cX9_holds 92 = .ok (.iload_n 2, 1) := by decide +kernel
theorem dX9_holds_93 : decode cX9_holds 93 = .ok (.iaload, 1) := by decide +kernel
theorem dX9_holds_94 : decode cX9_holds 94 = .ok (.if_icmp .ne 7, 3) := by decide +kernel
theorem dX9_holds_97 : decode cX9_holds 97 = .ok (.iconst 1, 1) := by decide +kernel
theorem dX9_holds_98 : decode cX9_holds 98 = .ok (.goto 4, 3) := by decide +kernel
theorem dX9_holds_101 : decode cX9_holds 101 = .ok (.iconst 0, 1) := by decide +kernel
theorem dX9_holds_102 : decode cX9_holds 102 = .ok (.ireturn, 1) := by decide +kernel
theorem dX9_passes_0 : decode cX9_passes 0 = .ok (.iconst 0, 1) := by decide +kernel
theorem dX9_passes_1 : decode cX9_passes 1 = .ok (.istore_n 3, 1) := by decide +kernel
theorem dX9_passes_2 : decode cX9_passes 2 = .ok (.iload_n 3, 1) := by decide +kernel
theorem dX9_passes_3 : decode cX9_passes 3 = .ok (.bipush 8, 2) := by decide +kernel
theorem dX9_passes_5 : decode cX9_passes 5 = .ok (.if_icmp .ge 85, 3) := by decide +kernel
theorem dX9_passes_8 : decode cX9_passes 8 = .ok (.iconst 0, 1) := by decide +kernel
theorem dX9_passes_9 : decode cX9_passes 9 = .ok (.istore 4, 2) := by decide +kernel
theorem dX9_passes_11 : decode cX9_passes 11 = .ok (.iload 4, 2) := by decide +kernel
theorem dX9_passes_13 : decode cX9_passes 13 = .ok (.bipush 9, 2) := by decide +kernel
theorem dX9_passes_15 : decode cX9_passes 15 = .ok (.if_icmp .ge 34, 3) := by decide +kernel
theorem dX9_passes_18 : decode cX9_passes 18 = .ok (.aload_n 0, 1) := by decide +kernel
theorem dX9_passes_19 : decode cX9_passes 19 = .ok (.getfield 81, 3) := by decide +kernel
theorem dX9_passes_22 : decode cX9_passes 22 = .ok (.bipush 9, 2) := by decide +kernel
theorem dX9_passes_24 : decode cX9_passes 24 = .ok (.iload_n 3, 1) := by decide +kernel
theorem dX9_passes_25 : decode cX9_passes 25 = .ok (.imul, 1) := by decide +kernel
theorem dX9_passes_26 : decode cX9_passes 26 = .ok (.iload 4, 2) := by decide +kernel
theorem dX9_passes_28 : decode cX9_passes 28 = .ok (.iadd, 1) := by decide +kernel
theorem dX9_passes_29 : decode cX9_passes 29 = .ok (.iload 4, 2) := by decide +kernel
theorem dX9_passes_31 : decode cX9_passes 31 = .ok (.bipush 7, 2) := by decide +kernel
theorem dX9_passes_33 : decode cX9_passes 33 = .ok (.if_icmp .ne 8, 3) := by decide +kernel
theorem dX9_passes_36 : decode cX9_passes 36 = .ok (.bipush 11, 2) := by decide +kernel
theorem dX9_passes_38 : decode cX9_passes 38 = .ok (.goto 4, 3) := by decide +kernel
theorem dX9_passes_41 : decode cX9_passes 41 = .ok (.iconst 0, 1) := by decide +kernel
theorem dX9_passes_42 : decode cX9_passes 42 = .ok (.iastore, 1) := by decide +kernel
theorem dX9_passes_43 : decode cX9_passes 43 = .ok (.iinc 4 1, 3) := by decide +kernel
theorem dX9_passes_46 : decode cX9_passes 46 = .ok (.goto (-35), 3) := by decide +kernel
theorem dX9_passes_49 : decode cX9_passes 49 = .ok (.aload_n 0, 1) := by decide +kernel
theorem dX9_passes_50 : decode cX9_passes 50 = .ok (.getfield 84, 3) := by decide +kernel
theorem dX9_passes_53 : decode cX9_passes 53 = .ok (.iload_n 3, 1) := by decide +kernel
theorem dX9_passes_54 : decode cX9_passes 54 = .ok (.iconst 0, 1) := by decide +kernel
theorem dX9_passes_55 : decode cX9_passes 55 = .ok (.iastore, 1) := by decide +kernel
theorem dX9_passes_56 : decode cX9_passes 56 = .ok (.aload_n 0, 1) := by decide +kernel
theorem dX9_passes_57 : decode cX9_passes 57 = .ok (.getfield 87, 3) := by decide +kernel
theorem dX9_passes_60 : decode cX9_passes 60 = .ok (.iload_n 3, 1) := by decide +kernel
theorem dX9_passes_61 : decode cX9_passes 61 = .ok (.iconst 0, 1) := by decide +kernel
theorem dX9_passes_62 : decode cX9_passes 62 = .ok (.iastore, 1) := by decide +kernel
theorem dX9_passes_63 : decode cX9_passes 63 = .ok (.aload_n 0, 1) := by decide +kernel
theorem dX9_passes_64 : decode cX9_passes 64 = .ok (.getfield 105, 3) := by decide +kernel
theorem dX9_passes_67 : decode cX9_passes 67 = .ok (.iload_n 3, 1) := by decide +kernel
theorem dX9_passes_68 : decode cX9_passes 68 = .ok (.iconst 0, 1) := by decide +kernel
theorem dX9_passes_69 : decode cX9_passes 69 = .ok (.iastore, 1) := by decide +kernel
theorem dX9_passes_70 : decode cX9_passes 70 = .ok (.aload_n 0, 1) := by decide +kernel
theorem dX9_passes_71 : decode cX9_passes 71 = .ok (.getfield 108, 3) := by decide +kernel
theorem dX9_passes_74 : decode cX9_passes 74 = .ok (.iload_n 3, 1) := by decide +kernel
theorem dX9_passes_75 : decode cX9_passes 75 = .ok (.iconst 0, 1) := by decide +kernel
theorem dX9_passes_76 : decode cX9_passes 76 = .ok (.iastore, 1) := by decide +kernel
theorem dX9_passes_77 : decode cX9_passes 77 = .ok (.aload_n 0, 1) := by decide +kernel
theorem dX9_passes_78 : decode cX9_passes 78 = .ok (.getfield 111, 3) := by decide +kernel
theorem dX9_passes_81 : decode cX9_passes 81 = .ok (.iload_n 3, 1) := by decide +kernel
theorem dX9_passes_82 : decode cX9_passes 82 = .ok (.iconst 0, 1) := by decide +kernel
theorem dX9_passes_83 : decode cX9_passes 83 = .ok (.bastore, 1) := by decide +kernel
theorem dX9_passes_84 : decode cX9_passes 84 = .ok (.iinc 3 1, 3) := by decide +kernel
theorem dX9_passes_87 : decode cX9_passes 87 = .ok (.goto (-85), 3) := by decide +kernel
theorem dX9_passes_90 : decode cX9_passes 90 = .ok (.iconst 0, 1) := by decide +kernel
theorem dX9_passes_91 : decode cX9_passes 91 = .ok (.istore_n 3, 1) := by decide +kernel
theorem dX9_passes_92 : decode cX9_passes 92 = .ok (.iload_n 3, 1) := by decide +kernel
theorem dX9_passes_93 : decode cX9_passes 93 = .ok (.sipush 320, 3) := by decide +kernel
theorem dX9_passes_96 : decode cX9_passes 96 = .ok (.if_icmp .ge 16, 3) := by decide +kernel
theorem dX9_passes_99 : decode cX9_passes 99 = .ok (.aload_n 0, 1) := by decide +kernel
theorem dX9_passes_100 : decode cX9_passes 100 = .ok (.getfield 114, 3) := by decide +kernel
theorem dX9_passes_103 : decode cX9_passes 103 = .ok (.iload_n 3, 1) := by decide +kernel
theorem dX9_passes_104 : decode cX9_passes 104 = .ok (.lconst 0, 1) := by decide +kernel
theorem dX9_passes_105 : decode cX9_passes 105 = .ok (.lastore, 1) := by decide +kernel
theorem dX9_passes_106 : decode cX9_passes 106 = .ok (.iinc 3 1, 3) := by decide +kernel
theorem dX9_passes_109 : decode cX9_passes 109 = .ok (.goto (-17), 3) := by decide +kernel
theorem dX9_passes_112 : decode cX9_passes 112 = .ok (.iconst 0, 1) := by decide +kernel
theorem dX9_passes_113 : decode cX9_passes 113 = .ok (.istore_n 3, 1) := by decide +kernel
theorem dX9_passes_114 : decode cX9_passes 114 = .ok (.iload_n 3, 1) := by decide +kernel
theorem dX9_passes_115 : decode cX9_passes 115 = .ok (.iload_n 2, 1) := by decide +kernel
theorem dX9_passes_116 : decode cX9_passes 116 = .ok (.if_icmp .gt 126, 3) := by decide +kernel
theorem dX9_passes_119 : decode cX9_passes 119 = .ok (.iload_n 3, 1) := by decide +kernel
theorem dX9_passes_120 : decode cX9_passes 120 = .ok (.ifCond .le 7, 3) := by decide +kernel
theorem dX9_passes_123 : decode cX9_passes 123 = .ok (.aload_n 0, 1) := by decide +kernel
theorem dX9_passes_124 : decode cX9_passes 124 = .ok (.invokevirtual 243, 3) := by decide +kernel
theorem dX9_passes_127 : decode cX9_passes 127 = .ok (.aload_n 0, 1) := by decide +kernel
theorem dX9_passes_128 : decode cX9_passes 128 = .ok (.iload_n 3, 1) := by decide +kernel
theorem dX9_passes_129 : decode cX9_passes 129 = .ok (.invokevirtual 246, 3) := by decide +kernel
theorem dX9_passes_132 : decode cX9_passes 132 = .ok (.ifCond .eq 9, 3) := by decide +kernel
theorem dX9_passes_135 : decode cX9_passes 135 = .ok (.aload_n 0, 1) := by decide +kernel
theorem dX9_passes_136 : decode cX9_passes 136 = .ok (.iload_n 3, 1) := by decide +kernel
theorem dX9_passes_137 : decode cX9_passes 137 = .ok (.iload_n 1, 1) := by decide +kernel
theorem dX9_passes_138 : decode cX9_passes 138 = .ok (.invokevirtual 249, 3) := by decide +kernel
theorem dX9_passes_141 : decode cX9_passes 141 = .ok (.aload_n 0, 1) := by decide +kernel
theorem dX9_passes_142 : decode cX9_passes 142 = .ok (.iload_n 3, 1) := by decide +kernel
theorem dX9_passes_143 : decode cX9_passes 143 = .ok (.iload_n 1, 1) := by decide +kernel
theorem dX9_passes_144 : decode cX9_passes 144 = .ok (.invokevirtual 252, 3) := by decide +kernel
theorem dX9_passes_147 : decode cX9_passes 147 = .ok (.iconst 0, 1) := by decide +kernel
theorem dX9_passes_148 : decode cX9_passes 148 = .ok (.istore 4, 2) := by decide +kernel
theorem dX9_passes_150 : decode cX9_passes 150 = .ok (.iload 4, 2) := by decide +kernel
theorem dX9_passes_152 : decode cX9_passes 152 = .ok (.aload_n 0, 1) := by decide +kernel
theorem dX9_passes_153 : decode cX9_passes 153 = .ok (.getfield 233, 3) := by decide +kernel
theorem dX9_passes_156 : decode cX9_passes 156 = .ok (.if_icmp .ge 80, 3) := by decide +kernel
theorem dX9_passes_159 : decode cX9_passes 159 = .ok (.aload_n 0, 1) := by decide +kernel
theorem dX9_passes_160 : decode cX9_passes 160 = .ok (.iload 4, 2) := by decide +kernel
theorem dX9_passes_162 : decode cX9_passes 162 = .ok (.invokevirtual 255, 3) := by decide +kernel
theorem dX9_passes_165 : decode cX9_passes 165 = .ok (.aload_n 0, 1) := by decide +kernel
theorem dX9_passes_166 : decode cX9_passes 166 = .ok (.iload 4, 2) := by decide +kernel
theorem dX9_passes_168 : decode cX9_passes 168 = .ok (.invokevirtual 258, 3) := by decide +kernel
theorem dX9_passes_171 : decode cX9_passes 171 = .ok (.aload_n 0, 1) := by decide +kernel
theorem dX9_passes_172 : decode cX9_passes 172 = .ok (.getfield 81, 3) := by decide +kernel
theorem dX9_passes_175 : decode cX9_passes 175 = .ok (.bipush 9, 2) := by decide +kernel
theorem dX9_passes_177 : decode cX9_passes 177 = .ok (.iload 4, 2) := by decide +kernel
theorem dX9_passes_179 : decode cX9_passes 179 = .ok (.imul, 1) := by decide +kernel
theorem dX9_passes_180 : decode cX9_passes 180 = .ok (.bipush 7, 2) := by decide +kernel
theorem dX9_passes_182 : decode cX9_passes 182 = .ok (.iadd, 1) := by decide +kernel
theorem dX9_passes_183 : decode cX9_passes 183 = .ok (.iaload, 1) := by decide +kernel
theorem dX9_passes_184 : decode cX9_passes 184 = .ok (.istore 5, 2) := by decide +kernel
theorem dX9_passes_186 : decode cX9_passes 186 = .ok (.aload_n 0, 1) := by decide +kernel
theorem dX9_passes_187 : decode cX9_passes 187 = .ok (.getfield 114, 3) := by decide +kernel
theorem dX9_passes_190 : decode cX9_passes 190 = .ok (.bipush 40, 2) := by decide +kernel
theorem dX9_passes_192 : decode cX9_passes 192 = .ok (.iload 4, 2) := by decide +kernel
theorem dX9_passes_194 : decode cX9_passes 194 = .ok (.imul, 1) := by decide +kernel
theorem dX9_passes_195 : decode cX9_passes 195 = .ok (.iload_n 3, 1) := by decide +kernel
theorem dX9_passes_196 : decode cX9_passes 196 = .ok (.bipush 30, 2) := by decide +kernel
theorem dX9_passes_198 : decode cX9_passes 198 = .ok (.idiv, 1) := by decide +kernel
theorem dX9_passes_199 : decode cX9_passes 199 = .ok (.iadd, 1) := by decide +kernel
theorem dX9_passes_200 : decode cX9_passes 200 = .ok (.dup2, 1) := by decide +kernel
theorem dX9_passes_201 : decode cX9_passes 201 = .ok (.laload, 1) := by decide +kernel
theorem dX9_passes_202 : decode cX9_passes 202 = .ok (.ldc2_w 261, 3) := by decide +kernel
theorem dX9_passes_205 : decode cX9_passes 205 = .ok (.aload_n 0, 1) := by decide +kernel
theorem dX9_passes_206 : decode cX9_passes 206 = .ok (.getfield 105, 3) := by decide +kernel
theorem dX9_passes_209 : decode cX9_passes 209 = .ok (.iload 4, 2) := by decide +kernel
theorem dX9_passes_211 : decode cX9_passes 211 = .ok (.iaload, 1) := by decide +kernel
theorem dX9_passes_212 : decode cX9_passes 212 = .ok (.i2l, 1) := by decide +kernel
theorem dX9_passes_213 : decode cX9_passes 213 = .ok (.lmul, 1) := by decide +kernel
theorem dX9_passes_214 : decode cX9_passes 214 = .ok (.iload 5, 2) := by decide +kernel
theorem dX9_passes_216 : decode cX9_passes 216 = .ok (.bipush 10, 2) := by decide +kernel
theorem dX9_passes_218 : decode cX9_passes 218 = .ok (.idiv, 1) := by decide +kernel
theorem dX9_passes_219 : decode cX9_passes 219 = .ok (.i2l, 1) := by decide +kernel
theorem dX9_passes_220 : decode cX9_passes 220 = .ok (.lmul, 1) := by decide +kernel
theorem dX9_passes_221 : decode cX9_passes 221 = .ok (.iload 5, 2) := by decide +kernel
theorem dX9_passes_223 : decode cX9_passes 223 = .ok (.bipush 10, 2) := by decide +kernel
theorem dX9_passes_225 : decode cX9_passes 225 = .ok (.irem, 1) := by decide +kernel
theorem dX9_passes_226 : decode cX9_passes 226 = .ok (.i2l, 1) := by decide +kernel
theorem dX9_passes_227 : decode cX9_passes 227 = .ok (.ldiv, 1) := by decide +kernel
theorem dX9_passes_228 : decode cX9_passes 228 = .ok (.ladd, 1) := by decide +kernel
theorem dX9_passes_229 : decode cX9_passes 229 = .ok (.lastore, 1) := by decide +kernel
theorem dX9_passes_230 : decode cX9_passes 230 = .ok (.iinc 4 1, 3) := by decide +kernel
theorem dX9_passes_233 : decode cX9_passes 233 = .ok (.goto (-83), 3) := by decide +kernel
theorem dX9_passes_236 : decode cX9_passes 236 = .ok (.iinc 3 1, 3) := by decide +kernel
theorem dX9_passes_239 : decode cX9_passes 239 = .ok (.goto (-125), 3) := by decide +kernel
theorem dX9_passes_242 : decode cX9_passes 242 = .ok (.return_, 1) := by decide +kernel
theorem dX9_serves_0 : decode cX9_serves 0 = .ok (.aload_n 0, 1) := by decide +kernel
theorem dX9_serves_1 : decode cX9_serves 1 = .ok (.iconst 4, 1) := by decide +kernel
theorem dX9_serves_2 : decode cX9_serves 2 = .ok (.iconst 0, 1) := by decide +kernel
theorem dX9_serves_3 : decode cX9_serves 3 = .ok (.invokevirtual 263, 3) := by decide +kernel
theorem dX9_serves_6 : decode cX9_serves 6 = .ok (.istore_n 1, 1) := by decide +kernel
theorem dX9_serves_7 : decode cX9_serves 7 = .ok (.iconst 0, 1) := by decide +kernel
theorem dX9_serves_8 : decode cX9_serves 8 = .ok (.istore_n 2, 1) := by decide +kernel
theorem dX9_serves_9 : decode cX9_serves 9 = .ok (.iload_n 2, 1) := by decide +kernel
theorem dX9_serves_10 : decode cX9_serves 10 = .ok (.bipush 8, 2) := by decide +kernel
theorem dX9_serves_12 : decode cX9_serves 12 = .ok (.if_icmp .ge 130, 3) := by decide +kernel
theorem dX9_serves_15 : decode cX9_serves 15 = .ok (.iconst 0, 1) := by decide +kernel
theorem dX9_serves_16 : decode cX9_serves 16 = .ok (.istore_n 3, 1) := by decide +kernel
theorem dX9_serves_17 : decode cX9_serves 17 = .ok (.iconst 0, 1) := by decide +kernel
theorem dX9_serves_18 : decode cX9_serves 18 = .ok (.istore 4, 2) := by decide +kernel
theorem dX9_serves_20 : decode cX9_serves 20 = .ok (.iload 4, 2) := by decide +kernel
theorem dX9_serves_22 : decode cX9_serves 22 = .ok (.aload_n 0, 1) := by decide +kernel
theorem dX9_serves_23 : decode cX9_serves 23 = .ok (.getfield 233, 3) := by decide +kernel
theorem dX9_serves_26 : decode cX9_serves 26 = .ok (.if_icmp .ge 47, 3) := by decide +kernel
theorem dX9_serves_29 : decode cX9_serves 29 = .ok (.iload_n 3, 1) := by decide +kernel
theorem dX9_serves_30 : decode cX9_serves 30 = .ok (.ifCond .ne 31, 3) := by decide +kernel
theorem dX9_serves_33 : decode cX9_serves 33 = .ok (.aload_n 0, 1) := by decide +kernel
theorem dX9_serves_34 : decode cX9_serves 34 = .ok (.getfield 54, 3) := by decide +kernel
theorem dX9_serves_37 : decode cX9_serves 37 = .ok (.iload 4, 2) := by decide +kernel
theorem dX9_serves_39 : decode cX9_serves 39 = .ok (.iaload, 1) := by decide +kernel
theorem dX9_serves_40 : decode cX9_serves 40 = .ok (.iload_n 2, 1) := by decide +kernel
theorem dX9_serves_41 : decode cX9_serves 41 = .ok (.if_icmp .ne 24, 3) := by decide +kernel
theorem dX9_serves_44 : decode cX9_serves 44 = .ok (.aload_n 0, 1) := by decide +kernel
theorem dX9_serves_45 : decode cX9_serves 45 = .ok (.getfield 81, 3) := by decide +kernel
theorem dX9_serves_48 : decode cX9_serves 48 = .ok (.bipush 9, 2) := by decide +kernel
theorem dX9_serves_50 : decode cX9_serves 50 = .ok (.iload 4, 2) := by decide +kernel
theorem dX9_serves_52 : decode cX9_serves 52 = .ok (.imul, 1) := by decide +kernel
theorem dX9_serves_53 : decode cX9_serves 53 = .ok (.bipush 6, 2) := by decide +kernel
theorem dX9_serves_55 : decode cX9_serves 55 = .ok (.iadd, 1) := by decide +kernel
theorem dX9_serves_56 : decode cX9_serves 56 = .ok (.iaload, 1) := by decide +kernel
theorem dX9_serves_57 : decode cX9_serves 57 = .ok (.iconst 1, 1) := by decide +kernel
theorem dX9_serves_58 : decode cX9_serves 58 = .ok (.if_icmp .ne 7, 3) := by decide +kernel
theorem dX9_serves_61 : decode cX9_serves 61 = .ok (.iconst 1, 1) := by decide +kernel
theorem dX9_serves_62 : decode cX9_serves 62 = .ok (.goto 4, 3) := by decide +kernel
theorem dX9_serves_65 : decode cX9_serves 65 = .ok (.iconst 0, 1) := by decide +kernel
theorem dX9_serves_66 : decode cX9_serves 66 = .ok (.istore_n 3, 1) := by decide +kernel
theorem dX9_serves_67 : decode cX9_serves 67 = .ok (.iinc 4 1, 3) := by decide +kernel
theorem dX9_serves_70 : decode cX9_serves 70 = .ok (.goto (-50), 3) := by decide +kernel
theorem dX9_serves_73 : decode cX9_serves 73 = .ok (.aload_n 0, 1) := by decide +kernel
theorem dX9_serves_74 : decode cX9_serves 74 = .ok (.getfield 87, 3) := by decide +kernel
theorem dX9_serves_77 : decode cX9_serves 77 = .ok (.iload_n 2, 1) := by decide +kernel
theorem dX9_serves_78 : decode cX9_serves 78 = .ok (.iload_n 3, 1) := by decide +kernel
theorem dX9_serves_79 : decode cX9_serves 79 = .ok (.ifCond .eq 7, 3) := by decide +kernel
theorem dX9_serves_82 : decode cX9_serves 82 = .ok (.iconst 0, 1) := by decide +kernel
theorem dX9_serves_83 : decode cX9_serves 83 = .ok (.goto 11, 3) := by decide +kernel
theorem dX9_serves_86 : decode cX9_serves 86 = .ok (.aload_n 0, 1) := by decide +kernel
theorem dX9_serves_87 : decode cX9_serves 87 = .ok (.getfield 87, 3) := by decide +kernel
theorem dX9_serves_90 : decode cX9_serves 90 = .ok (.iload_n 2, 1) := by decide +kernel
theorem dX9_serves_91 : decode cX9_serves 91 = .ok (.iaload, 1) := by decide +kernel
theorem dX9_serves_92 : decode cX9_serves 92 = .ok (.iconst 1, 1) := by decide +kernel
theorem dX9_serves_93 : decode cX9_serves 93 = .ok (.iadd, 1) := by decide +kernel
theorem dX9_serves_94 : decode cX9_serves 94 = .ok (.iastore, 1) := by decide +kernel
theorem dX9_serves_95 : decode cX9_serves 95 = .ok (.aload_n 0, 1) := by decide +kernel
theorem dX9_serves_96 : decode cX9_serves 96 = .ok (.getfield 84, 3) := by decide +kernel
theorem dX9_serves_99 : decode cX9_serves 99 = .ok (.iload_n 2, 1) := by decide +kernel
theorem dX9_serves_100 : decode cX9_serves 100 = .ok (.iload_n 3, 1) := by decide +kernel
theorem dX9_serves_101 : decode cX9_serves 101 = .ok (.ifCond .eq 14, 3) := by decide +kernel
theorem dX9_serves_104 : decode cX9_serves 104 = .ok (.aload_n 0, 1) := by decide +kernel
theorem dX9_serves_105 : decode cX9_serves 105 = .ok (.getfield 84, 3) := by decide +kernel
theorem dX9_serves_108 : decode cX9_serves 108 = .ok (.iload_n 2, 1) := by decide +kernel
theorem dX9_serves_109 : decode cX9_serves 109 = .ok (.iaload, 1) := by decide +kernel
theorem dX9_serves_110 : decode cX9_serves 110 = .ok (.iconst 1, 1) := by decide +kernel
theorem dX9_serves_111 : decode cX9_serves 111 = .ok (.iadd, 1) := by decide +kernel
theorem dX9_serves_112 : decode cX9_serves 112 = .ok (.goto 23, 3) := by decide +kernel
theorem dX9_serves_115 : decode cX9_serves 115 = .ok (.aload_n 0, 1) := by decide +kernel
theorem dX9_serves_116 : decode cX9_serves 116 = .ok (.getfield 87, 3) := by decide +kernel
theorem dX9_serves_119 : decode cX9_serves 119 = .ok (.iload_n 2, 1) := by decide +kernel
theorem dX9_serves_120 : decode cX9_serves 120 = .ok (.iaload, 1) := by decide +kernel
theorem dX9_serves_121 : decode cX9_serves 121 = .ok (.iload_n 1, 1) := by decide +kernel
theorem dX9_serves_122 : decode cX9_serves 122 = .ok (.if_icmp .le 7, 3) := by decide +kernel
theorem dX9_serves_125 : decode cX9_serves 125 = .ok (.iconst 0, 1) := by decide +kernel
theorem dX9_serves_126 : decode cX9_serves 126 = .ok (.goto 9, 3) := by decide +kernel
theorem dX9_serves_129 : decode cX9_serves 129 = .ok (.aload_n 0, 1) := by decide +kernel
theorem dX9_serves_130 : decode cX9_serves 130 = .ok (.getfield 84, 3) := by decide +kernel
theorem dX9_serves_133 : decode cX9_serves 133 = .ok (.iload_n 2, 1) := by decide +kernel
theorem dX9_serves_134 : decode cX9_serves 134 = .ok (.iaload, 1) := by decide +kernel
theorem dX9_serves_135 : decode cX9_serves 135 = .ok (.iastore, 1) := by decide +kernel
theorem dX9_serves_136 : decode cX9_serves 136 = .ok (.iinc 2 1, 3) := by decide +kernel
theorem dX9_serves_139 : decode cX9_serves 139 = .ok (.goto (-130), 3) := by decide +kernel
theorem dX9_serves_142 : decode cX9_serves 142 = .ok (.return_, 1) := by decide +kernel
theorem dX9_notesOf_0 : decode cX9_notesOf 0 = .ok (.iconst 0, 1) := by decide +kernel
theorem dX9_notesOf_1 : decode cX9_notesOf 1 = .ok (.istore_n 3, 1) := by decide +kernel
theorem dX9_notesOf_2 : decode cX9_notesOf 2 = .ok (.iload_n 3, 1) := by decide +kernel
theorem dX9_notesOf_3 : decode cX9_notesOf 3 = .ok (.aload_n 0, 1) := by decide +kernel
theorem dX9_notesOf_4 : decode cX9_notesOf 4 = .ok (.getfield 240, 3) := by decide +kernel
theorem dX9_notesOf_7 : decode cX9_notesOf 7 = .ok (.if_icmp .ge 121, 3) := by decide +kernel
theorem dX9_notesOf_10 : decode cX9_notesOf 10 = .ok (.aload_n 0, 1) := by decide +kernel
theorem dX9_notesOf_11 : decode cX9_notesOf 11 = .ok (.getfield 63, 3) := by decide +kernel
theorem dX9_notesOf_14 : decode cX9_notesOf 14 = .ok (.iload_n 3, 1) := by decide +kernel
theorem dX9_notesOf_15 : decode cX9_notesOf 15 = .ok (.iaload, 1) := by decide +kernel
theorem dX9_notesOf_16 : decode cX9_notesOf 16 = .ok (.iload_n 1, 1) := by decide +kernel
theorem dX9_notesOf_17 : decode cX9_notesOf 17 = .ok (.if_icmp .ne 105, 3) := by decide +kernel
theorem dX9_notesOf_20 : decode cX9_notesOf 20 = .ok (.aload_n 0, 1) := by decide +kernel
theorem dX9_notesOf_21 : decode cX9_notesOf 21 = .ok (.getfield 66, 3) := by decide +kernel
theorem dX9_notesOf_24 : decode cX9_notesOf 24 = .ok (.iload_n 3, 1) := by decide +kernel
theorem dX9_notesOf_25 : decode cX9_notesOf 25 = .ok (.iaload, 1) := by decide +kernel
theorem dX9_notesOf_26 : decode cX9_notesOf 26 = .ok (.iload_n 2, 1) := by decide +kernel
theorem dX9_notesOf_27 : decode cX9_notesOf 27 = .ok (.if_icmp .le 6, 3) := by decide +kernel
theorem dX9_notesOf_30 : decode cX9_notesOf 30 = .ok (.goto 92, 3) := by decide +kernel
theorem dX9_notesOf_33 : decode cX9_notesOf 33 = .ok (.aload_n 0, 1) := by decide +kernel
theorem dX9_notesOf_34 : decode cX9_notesOf 34 = .ok (.getfield 81, 3) := by decide +kernel
theorem dX9_notesOf_37 : decode cX9_notesOf 37 = .ok (.bipush 9, 2) := by decide +kernel
theorem dX9_notesOf_39 : decode cX9_notesOf 39 = .ok (.aload_n 0, 1) := by decide +kernel
theorem dX9_notesOf_40 : decode cX9_notesOf 40 = .ok (.getfield 57, 3) := by decide +kernel
theorem dX9_notesOf_43 : decode cX9_notesOf 43 = .ok (.iload_n 3, 1) := by decide +kernel
theorem dX9_notesOf_44 : decode cX9_notesOf 44 = .ok (.iaload, 1) := by decide +kernel
theorem dX9_notesOf_45 : decode cX9_notesOf 45 = .ok (.imul, 1) := by decide +kernel
theorem dX9_notesOf_46 : decode cX9_notesOf 46 = .ok (.aload_n 0, 1) := by decide +kernel
theorem dX9_notesOf_47 : decode cX9_notesOf 47 = .ok (.getfield 60, 3) := by decide +kernel
theorem dX9_notesOf_50 : decode cX9_notesOf 50 = .ok (.iload_n 3, 1) := by decide +kernel
theorem dX9_notesOf_51 : decode cX9_notesOf 51 = .ok (.iaload, 1) := by decide +kernel
theorem dX9_notesOf_52 : decode cX9_notesOf 52 = .ok (.iadd, 1) := by decide +kernel
theorem dX9_notesOf_53 : decode cX9_notesOf 53 = .ok (.aload_n 0, 1) := by decide +kernel
theorem dX9_notesOf_54 : decode cX9_notesOf 54 = .ok (.getfield 69, 3) := by decide +kernel
theorem dX9_notesOf_57 : decode cX9_notesOf 57 = .ok (.iload_n 3, 1) := by decide +kernel
theorem dX9_notesOf_58 : decode cX9_notesOf 58 = .ok (.iaload, 1) := by decide +kernel
theorem dX9_notesOf_59 : decode cX9_notesOf 59 = .ok (.iastore, 1) := by decide +kernel
theorem dX9_notesOf_60 : decode cX9_notesOf 60 = .ok (.aload_n 0, 1) := by decide +kernel
theorem dX9_notesOf_61 : decode cX9_notesOf 61 = .ok (.getfield 60, 3) := by decide +kernel
theorem dX9_notesOf_64 : decode cX9_notesOf 64 = .ok (.iload_n 3, 1) := by decide +kernel
theorem dX9_notesOf_65 : decode cX9_notesOf 65 = .ok (.iaload, 1) := by decide +kernel
theorem dX9_notesOf_66 : decode cX9_notesOf 66 = .ok (.bipush 8, 2) := by decide +kernel
theorem dX9_notesOf_68 : decode cX9_notesOf 68 = .ok (.if_icmp .eq 6, 3) := by decide +kernel
theorem dX9_notesOf_71 : decode cX9_notesOf 71 = .ok (.goto 51, 3) := by decide +kernel
theorem dX9_notesOf_74 : decode cX9_notesOf 74 = .ok (.aload_n 0, 1) := by decide +kernel
theorem dX9_notesOf_75 : decode cX9_notesOf 75 = .ok (.getfield 111, 3) := by decide +kernel
theorem dX9_notesOf_78 : decode cX9_notesOf 78 = .ok (.aload_n 0, 1) := by decide +kernel
theorem dX9_notesOf_79 : decode cX9_notesOf 79 = .ok (.getfield 57, 3) := by decide +kernel
theorem dX9_notesOf_82 : decode cX9_notesOf 82 = .ok (.iload_n 3, 1) := by decide +kernel
theorem dX9_notesOf_83 : decode cX9_notesOf 83 = .ok (.iaload, 1) := by decide +kernel
theorem dX9_notesOf_84 : decode cX9_notesOf 84 = .ok (.aload_n 0, 1) := by decide +kernel
theorem dX9_notesOf_85 : decode cX9_notesOf 85 = .ok (.getfield 69, 3) := by decide +kernel
theorem dX9_notesOf_88 : decode cX9_notesOf 88 = .ok (.iload_n 3, 1) := by decide +kernel
theorem dX9_notesOf_89 : decode cX9_notesOf 89 = .ok (.iaload, 1) := by decide +kernel
theorem dX9_notesOf_90 : decode cX9_notesOf 90 = .ok (.iconst 1, 1) := by decide +kernel
theorem dX9_notesOf_91 : decode cX9_notesOf 91 = .ok (.if_icmp .ne 7, 3) := by decide +kernel
theorem dX9_notesOf_94 : decode cX9_notesOf 94 = .ok (.iconst 1, 1) := by decide +kernel
theorem dX9_notesOf_95 : decode cX9_notesOf 95 = .ok (.goto 4, 3) := by decide +kernel
theorem dX9_notesOf_98 : decode cX9_notesOf 98 = .ok (.iconst 0, 1) := by decide +kernel
theorem dX9_notesOf_99 : decode cX9_notesOf 99 = .ok (.bastore, 1) := by decide +kernel
theorem dX9_notesOf_100 : decode cX9_notesOf 100 = .ok (.aload_n 0, 1) := by decide +kernel
theorem dX9_notesOf_101 : decode cX9_notesOf 101 = .ok (.getfield 108, 3) := by decide +kernel
theorem dX9_notesOf_104 : decode cX9_notesOf 104 = .ok (.aload_n 0, 1) := by decide +kernel
theorem dX9_notesOf_105 : decode cX9_notesOf 105 = .ok (.getfield 57, 3) := by decide +kernel
theorem dX9_notesOf_108 : decode cX9_notesOf 108 = .ok (.iload_n 3, 1) := by decide +kernel
theorem dX9_notesOf_109 : decode cX9_notesOf 109 = .ok (.iaload, 1) := by decide +kernel
theorem dX9_notesOf_110 : decode cX9_notesOf 110 = .ok (.aload_n 0, 1) := by decide +kernel
theorem dX9_notesOf_111 : decode cX9_notesOf 111 = .ok (.getfield 105, 3) := by decide +kernel
theorem dX9_notesOf_114 : decode cX9_notesOf 114 = .ok (.aload_n 0, 1) := by decide +kernel
theorem dX9_notesOf_115 : decode cX9_notesOf 115 = .ok (.getfield 57, 3) := by decide +kernel
theorem dX9_notesOf_118 : decode cX9_notesOf 118 = .ok (.iload_n 3, 1) := by decide +kernel
theorem dX9_notesOf_119 : decode cX9_notesOf 119 = .ok (.iaload, 1) := by decide +kernel
theorem dX9_notesOf_120 : decode cX9_notesOf 120 = .ok (.iaload, 1) := by decide +kernel
theorem dX9_notesOf_121 : decode cX9_notesOf 121 = .ok (.iastore, 1) := by decide +kernel
theorem dX9_notesOf_122 : decode cX9_notesOf 122 = .ok (.iinc 3 1, 3) := by decide +kernel
theorem dX9_notesOf_125 : decode cX9_notesOf 125 = .ok (.goto (-123), 3) := by decide +kernel
theorem dX9_notesOf_128 : decode cX9_notesOf 128 = .ok (.return_, 1) := by decide +kernel
theorem dX9_stands_0 : decode cX9_stands 0 = .ok (.aload_n 0, 1) := by decide +kernel
theorem dX9_stands_1 : decode cX9_stands 1 = .ok (.getfield 90, 3) := by decide +kernel
theorem dX9_stands_4 : decode cX9_stands 4 = .ok (.iload_n 1, 1) := by decide +kernel
theorem dX9_stands_5 : decode cX9_stands 5 = .ok (.iconst 0, 1) := by decide +kernel
theorem dX9_stands_6 : decode cX9_stands 6 = .ok (.iastore, 1) := by decide +kernel
theorem dX9_stands_7 : decode cX9_stands 7 = .ok (.aload_n 0, 1) := by decide +kernel
theorem dX9_stands_8 : decode cX9_stands 8 = .ok (.getfield 93, 3) := by decide +kernel
theorem dX9_stands_11 : decode cX9_stands 11 = .ok (.iload_n 1, 1) := by decide +kernel
theorem dX9_stands_12 : decode cX9_stands 12 = .ok (.iconst (-1), 1) := by decide +kernel
theorem dX9_stands_13 : decode cX9_stands 13 = .ok (.iastore, 1) := by decide +kernel
theorem dX9_stands_14 : decode cX9_stands 14 = .ok (.iconst 0, 1) := by decide +kernel
theorem dX9_stands_15 : decode cX9_stands 15 = .ok (.istore_n 2, 1) := by decide +kernel
theorem dX9_stands_16 : decode cX9_stands 16 = .ok (.iload_n 2, 1) := by decide +kernel
theorem dX9_stands_17 : decode cX9_stands 17 = .ok (.bipush 26, 2) := by decide +kernel
theorem dX9_stands_19 : decode cX9_stands 19 = .ok (.if_icmp .ge 45, 3) := by decide +kernel
theorem dX9_stands_22 : decode cX9_stands 22 = .ok (.aload_n 0, 1) := by decide +kernel
theorem dX9_stands_23 : decode cX9_stands 23 = .ok (.getfield 72, 3) := by decide +kernel
theorem dX9_stands_26 : decode cX9_stands 26 = .ok (.iload_n 2, 1) := by decide +kernel
theorem dX9_stands_27 : decode cX9_stands 27 = .ok (.iaload, 1) := by decide +kernel
theorem dX9_stands_28 : decode cX9_stands 28 = .ok (.istore_n 3, 1) := by decide +kernel
theorem dX9_stands_29 : decode cX9_stands 29 = .ok (.iload_n 3, 1) := by decide +kernel
theorem dX9_stands_30 : decode cX9_stands 30 = .ok (.iconst (-1), 1) := by decide +kernel
theorem dX9_stands_31 : decode cX9_stands 31 = .ok (.if_icmp .eq 27, 3) := by decide +kernel
theorem dX9_stands_34 : decode cX9_stands 34 = .ok (.aload_n 0, 1) := by decide +kernel
theorem dX9_stands_35 : decode cX9_stands 35 = .ok (.iload_n 1, 1) := by decide +kernel
theorem dX9_stands_36 : decode cX9_stands 36 = .ok (.iload_n 3, 1) := by decide +kernel
theorem dX9_stands_37 : decode cX9_stands 37 = .ok (.invokevirtual 267, 3) := by decide +kernel
theorem dX9_stands_40 : decode cX9_stands 40 = .ok (.ifCond .eq 18, 3) := by decide +kernel
theorem dX9_stands_43 : decode cX9_stands 43 = .ok (.aload_n 0, 1) := by decide +kernel
theorem dX9_stands_44 : decode cX9_stands 44 = .ok (.getfield 90, 3) := by decide +kernel
theorem dX9_stands_47 : decode cX9_stands 47 = .ok (.iload_n 1, 1) := by decide +kernel
theorem dX9_stands_48 : decode cX9_stands 48 = .ok (.dup2, 1) := by decide +kernel
theorem dX9_stands_49 : decode cX9_stands 49 = .ok (.iaload, 1) := by decide +kernel
theorem dX9_stands_50 : decode cX9_stands 50 = .ok (.aload_n 0, 1) := by decide +kernel
theorem dX9_stands_51 : decode cX9_stands 51 = .ok (.getfield 38, 3) := by decide +kernel
theorem dX9_stands_54 : decode cX9_stands 54 = .ok (.iload_n 3, 1) := by decide +kernel
theorem dX9_stands_55 : decode cX9_stands 55 = .ok (.iaload, 1) := by decide +kernel
theorem dX9_stands_56 : decode cX9_stands 56 = .ok (.iadd, 1) := by decide +kernel
theorem dX9_stands_57 : decode cX9_stands 57 = .ok (.iastore, 1) := by decide +kernel
theorem dX9_stands_58 : decode cX9_stands 58 = .ok (.iinc 2 1, 3) := by decide +kernel
theorem dX9_stands_61 : decode cX9_stands 61 = .ok (.goto (-45), 3) := by decide +kernel
theorem dX9_stands_64 : decode cX9_stands 64 = .ok (.iconst 0, 1) := by decide +kernel
theorem dX9_stands_65 : decode cX9_stands 65 = .ok (.istore_n 2, 1) := by decide +kernel
theorem dX9_stands_66 : decode cX9_stands 66 = .ok (.iload_n 2, 1) := by decide +kernel
theorem dX9_stands_67 : decode cX9_stands 67 = .ok (.bipush 26, 2) := by decide +kernel
theorem dX9_stands_69 : decode cX9_stands 69 = .ok (.if_icmp .ge 87, 3) := by decide +kernel
theorem dX9_stands_72 : decode cX9_stands 72 = .ok (.aload_n 0, 1) := by decide +kernel
theorem dX9_stands_73 : decode cX9_stands 73 = .ok (.getfield 72, 3) := by decide +kernel
theorem dX9_stands_76 : decode cX9_stands 76 = .ok (.bipush 26, 2) := by decide +kernel
theorem dX9_stands_78 : decode cX9_stands 78 = .ok (.iload_n 2, 1) := by decide +kernel
theorem dX9_stands_79 : decode cX9_stands 79 = .ok (.iadd, 1) := by decide +kernel
theorem dX9_stands_80 : decode cX9_stands 80 = .ok (.iaload, 1) := by decide +kernel
theorem dX9_stands_81 : decode cX9_stands 81 = .ok (.istore_n 3, 1) := by decide +kernel
theorem dX9_stands_82 : decode cX9_stands 82 = .ok (.iload_n 3, 1) := by decide +kernel
theorem dX9_stands_83 : decode cX9_stands 83 = .ok (.iconst (-1), 1) := by decide +kernel
theorem dX9_stands_84 : decode cX9_stands 84 = .ok (.if_icmp .eq 66, 3) := by decide +kernel
theorem dX9_stands_87 : decode cX9_stands 87 = .ok (.aload_n 0, 1) := by decide +kernel
theorem dX9_stands_88 : decode cX9_stands 88 = .ok (.getfield 38, 3) := by decide +kernel
theorem dX9_stands_91 : decode cX9_stands 91 = .ok (.iload_n 3, 1) := by decide +kernel
theorem dX9_stands_92 : decode cX9_stands 92 = .ok (.iaload, 1) := by decide +kernel
theorem dX9_stands_93 : decode cX9_stands 93 = .ok (.aload_n 0, 1) := by decide +kernel
theorem dX9_stands_94 : decode cX9_stands 94 = .ok (.getfield 90, 3) := by decide +kernel
theorem dX9_stands_97 : decode cX9_stands 97 = .ok (.iload_n 1, 1) := by decide +kernel
theorem dX9_stands_98 : decode cX9_stands 98 = .ok (.iaload, 1) := by decide +kernel
theorem dX9_stands_99 : decode cX9_stands 99 = .ok (.if_icmp .le 6, 3) := by decide +kernel
theorem dX9_stands_102 : decode cX9_stands 102 = .ok (.goto 48, 3) := by decide +kernel
theorem dX9_stands_105 : decode cX9_stands 105 = .ok (.aload_n 0, 1) := by decide +kernel
theorem dX9_stands_106 : decode cX9_stands 106 = .ok (.getfield 93, 3) := by decide +kernel
theorem dX9_stands_109 : decode cX9_stands 109 = .ok (.iload_n 1, 1) := by decide +kernel
theorem dX9_stands_110 : decode cX9_stands 110 = .ok (.iaload, 1) := by decide +kernel
theorem dX9_stands_111 : decode cX9_stands 111 = .ok (.iconst (-1), 1) := by decide +kernel
theorem dX9_stands_112 : decode cX9_stands 112 = .ok (.if_icmp .eq 31, 3) := by decide +kernel
theorem dX9_stands_115 : decode cX9_stands 115 = .ok (.aload_n 0, 1) := by decide +kernel
theorem dX9_stands_116 : decode cX9_stands 116 = .ok (.getfield 38, 3) := by decide +kernel
theorem dX9_stands_119 : decode cX9_stands 119 = .ok (.iload_n 3, 1) := by decide +kernel
theorem dX9_stands_120 : decode cX9_stands 120 = .ok (.iaload, 1) := by decide +kernel
theorem dX9_stands_121 : decode cX9_stands 121 = .ok (.aload_n 0, 1) := by decide +kernel
theorem dX9_stands_122 : decode cX9_stands 122 = .ok (.getfield 38, 3) := by decide +kernel
theorem dX9_stands_125 : decode cX9_stands 125 = .ok (.aload_n 0, 1) := by decide +kernel
theorem dX9_stands_126 : decode cX9_stands 126 = .ok (.getfield 72, 3) := by decide +kernel
theorem dX9_stands_129 : decode cX9_stands 129 = .ok (.bipush 26, 2) := by decide +kernel
theorem dX9_stands_131 : decode cX9_stands 131 = .ok (.aload_n 0, 1) := by decide +kernel
theorem dX9_stands_132 : decode cX9_stands 132 = .ok (.getfield 93, 3) := by decide +kernel
theorem dX9_stands_135 : decode cX9_stands 135 = .ok (.iload_n 1, 1) := by decide +kernel
theorem dX9_stands_136 : decode cX9_stands 136 = .ok (.iaload, 1) := by decide +kernel
theorem dX9_stands_137 : decode cX9_stands 137 = .ok (.iadd, 1) := by decide +kernel
theorem dX9_stands_138 : decode cX9_stands 138 = .ok (.iaload, 1) := by decide +kernel
theorem dX9_stands_139 : decode cX9_stands 139 = .ok (.iaload, 1) := by decide +kernel
theorem dX9_stands_140 : decode cX9_stands 140 = .ok (.if_icmp .le 10, 3) := by decide +kernel
theorem dX9_stands_143 : decode cX9_stands 143 = .ok (.aload_n 0, 1) := by decide +kernel
theorem dX9_stands_144 : decode cX9_stands 144 = .ok (.getfield 93, 3) := by decide +kernel
theorem dX9_stands_147 : decode cX9_stands 147 = .ok (.iload_n 1, 1) := by decide +kernel
theorem dX9_stands_148 : decode cX9_stands 148 = .ok (.iload_n 2, 1) := by decide +kernel
theorem dX9_stands_149 : decode cX9_stands 149 = .ok (.iastore, 1) := by decide +kernel
theorem dX9_stands_150 : decode cX9_stands 150 = .ok (.iinc 2 1, 3) := by decide +kernel
theorem dX9_stands_153 : decode cX9_stands 153 = .ok (.goto (-87), 3) := by decide +kernel
theorem dX9_stands_156 : decode cX9_stands 156 = .ok (.aload_n 0, 1) := by decide +kernel
theorem dX9_stands_157 : decode cX9_stands 157 = .ok (.getfield 93, 3) := by decide +kernel
theorem dX9_stands_160 : decode cX9_stands 160 = .ok (.iload_n 1, 1) := by decide +kernel
theorem dX9_stands_161 : decode cX9_stands 161 = .ok (.iaload, 1) := by decide +kernel
theorem dX9_stands_162 : decode cX9_stands 162 = .ok (.iconst (-1), 1) := by decide +kernel
theorem dX9_stands_163 : decode cX9_stands 163 = .ok (.if_icmp .ne 7, 3) := by decide +kernel
theorem dX9_stands_166 : decode cX9_stands 166 = .ok (.iconst (-1), 1) := by decide +kernel
theorem dX9_stands_167 : decode cX9_stands 167 = .ok (.goto 17, 3) := by decide +kernel
theorem dX9_stands_170 : decode cX9_stands 170 = .ok (.aload_n 0, 1) := by decide +kernel
theorem dX9_stands_171 : decode cX9_stands 171 = .ok (.getfield 72, 3) := by decide +kernel
theorem dX9_stands_174 : decode cX9_stands 174 = .ok (.bipush 52, 2) := by decide +kernel
theorem dX9_stands_176 : decode cX9_stands 176 = .ok (.aload_n 0, 1) := by decide +kernel
theorem dX9_stands_177 : decode cX9_stands 177 = .ok (.getfield 93, 3) := by decide +kernel
theorem dX9_stands_180 : decode cX9_stands 180 = .ok (.iload_n 1, 1) := by decide +kernel
theorem dX9_stands_181 : decode cX9_stands 181 = .ok (.iaload, 1) := by decide +kernel
theorem dX9_stands_182 : decode cX9_stands 182 = .ok (.iadd, 1) := by decide +kernel
theorem dX9_stands_183 : decode cX9_stands 183 = .ok (.iaload, 1) := by decide +kernel
theorem dX9_stands_184 : decode cX9_stands 184 = .ok (.istore_n 2, 1) := by decide +kernel
theorem dX9_stands_185 : decode cX9_stands 185 = .ok (.aload_n 0, 1) := by decide +kernel
theorem dX9_stands_186 : decode cX9_stands 186 = .ok (.getfield 96, 3) := by decide +kernel
theorem dX9_stands_189 : decode cX9_stands 189 = .ok (.iload_n 1, 1) := by decide +kernel
theorem dX9_stands_190 : decode cX9_stands 190 = .ok (.iload_n 2, 1) := by decide +kernel
theorem dX9_stands_191 : decode cX9_stands 191 = .ok (.iconst (-1), 1) := by decide +kernel
theorem dX9_stands_192 : decode cX9_stands 192 = .ok (.if_icmp .ne 7, 3) := by decide +kernel
theorem dX9_stands_195 : decode cX9_stands 195 = .ok (.iconst (-1), 1) := by decide +kernel
theorem dX9_stands_196 : decode cX9_stands 196 = .ok (.goto 34, 3) := by decide +kernel
theorem dX9_stands_199 : decode cX9_stands 199 = .ok (.aload_n 0, 1) := by decide +kernel
theorem dX9_stands_200 : decode cX9_stands 200 = .ok (.getfield 84, 3) := by decide +kernel
theorem dX9_stands_203 : decode cX9_stands 203 = .ok (.aload_n 0, 1) := by decide +kernel
theorem dX9_stands_204 : decode cX9_stands 204 = .ok (.getfield 54, 3) := by decide +kernel
theorem dX9_stands_207 : decode cX9_stands 207 = .ok (.iload_n 1, 1) := by decide +kernel
theorem dX9_stands_208 : decode cX9_stands 208 = .ok (.iaload, 1) := by decide +kernel
theorem dX9_stands_209 : decode cX9_stands 209 = .ok (.iaload, 1) := by decide +kernel
theorem dX9_stands_210 : decode cX9_stands 210 = .ok (.aload_n 0, 1) := by decide +kernel
theorem dX9_stands_211 : decode cX9_stands 211 = .ok (.iconst 3, 1) := by decide +kernel
theorem dX9_stands_212 : decode cX9_stands 212 = .ok (.sipush 360, 3) := by decide +kernel
theorem dX9_stands_215 : decode cX9_stands 215 = .ok (.invokevirtual 263, 3) := by decide +kernel
theorem dX9_stands_218 : decode cX9_stands 218 = .ok (.idiv, 1) := by decide +kernel
theorem dX9_stands_219 : decode cX9_stands 219 = .ok (.aload_n 0, 1) := by decide +kernel
theorem dX9_stands_220 : decode cX9_stands 220 = .ok (.getfield 47, 3) := by decide +kernel
theorem dX9_stands_223 : decode cX9_stands 223 = .ok (.iload_n 2, 1) := by decide +kernel
theorem dX9_stands_224 : decode cX9_stands 224 = .ok (.iaload, 1) := by decide +kernel
theorem dX9_stands_225 : decode cX9_stands 225 = .ok (.iconst 1, 1) := by decide +kernel
theorem dX9_stands_226 : decode cX9_stands 226 = .ok (.isub, 1) := by decide +kernel
theorem dX9_stands_227 : decode cX9_stands 227 = .ok (.invokestatic 270, 3) := by decide +kernel
theorem dX9_stands_230 : decode cX9_stands 230 = .ok (.iastore, 1) := by decide +kernel
theorem dX9_stands_231 : decode cX9_stands 231 = .ok (.aload_n 0, 1) := by decide +kernel
theorem dX9_stands_232 : decode cX9_stands 232 = .ok (.getfield 99, 3) := by decide +kernel
theorem dX9_stands_235 : decode cX9_stands 235 = .ok (.iload_n 1, 1) := by decide +kernel
theorem dX9_stands_236 : decode cX9_stands 236 = .ok (.iload_n 2, 1) := by decide +kernel
theorem dX9_stands_237 : decode cX9_stands 237 = .ok (.iconst (-1), 1) := by decide +kernel
theorem dX9_stands_238 : decode cX9_stands 238 = .ok (.if_icmp .ne 7, 3) := by decide +kernel
theorem dX9_stands_241 : decode cX9_stands 241 = .ok (.iconst 0, 1) := by decide +kernel
theorem dX9_stands_242 : decode cX9_stands 242 = .ok (.goto 19, 3) := by decide +kernel
theorem dX9_stands_245 : decode cX9_stands 245 = .ok (.aload_n 0, 1) := by decide +kernel
theorem dX9_stands_246 : decode cX9_stands 246 = .ok (.getfield 44, 3) := by decide +kernel
theorem dX9_stands_249 : decode cX9_stands 249 = .ok (.bipush 8, 2) := by decide +kernel
theorem dX9_stands_251 : decode cX9_stands 251 = .ok (.iload_n 2, 1) := by decide +kernel
theorem dX9_stands_252 : decode cX9_stands 252 = .ok (.imul, 1) := by decide +kernel
theorem dX9_stands_253 : decode cX9_stands 253 = .ok (.aload_n 0, 1) := by decide +kernel
theorem dX9_stands_254 : decode cX9_stands 254 = .ok (.getfield 96, 3) := by decide +kernel
theorem dX9_stands_257 : decode cX9_stands 257 = .ok (.iload_n 1, 1) := by decide +kernel
theorem dX9_stands_258 : decode cX9_stands 258 = .ok (.iaload, 1) := by decide +kernel
theorem dX9_stands_259 : decode cX9_stands 259 = .ok (.iadd, 1) := by decide +kernel
theorem dX9_stands_260 : decode cX9_stands 260 = .ok (.iaload, 1) := by decide +kernel
theorem dX9_stands_261 : decode cX9_stands 261 = .ok (.iastore, 1) := by decide +kernel
theorem dX9_stands_262 : decode cX9_stands 262 = .ok (.aload_n 0, 1) := by decide +kernel
theorem dX9_stands_263 : decode cX9_stands 263 = .ok (.getfield 102, 3) := by decide +kernel
theorem dX9_stands_266 : decode cX9_stands 266 = .ok (.iload_n 1, 1) := by decide +kernel
theorem dX9_stands_267 : decode cX9_stands 267 = .ok (.bipush 100, 2) := by decide +kernel
theorem dX9_stands_269 : decode cX9_stands 269 = .ok (.aload_n 0, 1) := by decide +kernel
theorem dX9_stands_270 : decode cX9_stands 270 = .ok (.getfield 99, 3) := by decide +kernel
theorem dX9_stands_273 : decode cX9_stands 273 = .ok (.iload_n 1, 1) := by decide +kernel
theorem dX9_stands_274 : decode cX9_stands 274 = .ok (.iaload, 1) := by decide +kernel
theorem dX9_stands_275 : decode cX9_stands 275 = .ok (.imul, 1) := by decide +kernel
theorem dX9_stands_276 : decode cX9_stands 276 = .ok (.iastore, 1) := by decide +kernel
theorem dX9_stands_277 : decode cX9_stands 277 = .ok (.iconst 0, 1) := by decide +kernel
theorem dX9_stands_278 : decode cX9_stands 278 = .ok (.istore_n 3, 1) := by decide +kernel
theorem dX9_stands_279 : decode cX9_stands 279 = .ok (.iload_n 3, 1) := by decide +kernel
theorem dX9_stands_280 : decode cX9_stands 280 = .ok (.bipush 26, 2) := by decide +kernel
theorem dX9_stands_282 : decode cX9_stands 282 = .ok (.if_icmp .ge 75, 3) := by decide +kernel
theorem dX9_stands_285 : decode cX9_stands 285 = .ok (.aload_n 0, 1) := by decide +kernel
theorem dX9_stands_286 : decode cX9_stands 286 = .ok (.getfield 72, 3) := by decide +kernel
theorem dX9_stands_289 : decode cX9_stands 289 = .ok (.sipush 130, 3) := by decide +kernel
theorem dX9_stands_292 : decode cX9_stands 292 = .ok (.iload_n 3, 1) := by decide +kernel
theorem dX9_stands_293 : decode cX9_stands 293 = .ok (.iadd, 1) := by decide +kernel
theorem dX9_stands_294 : decode cX9_stands 294 = .ok (.iaload, 1) := by decide +kernel
theorem dX9_stands_295 : decode cX9_stands 295 = .ok (.istore 4, 2) := by decide +kernel
theorem dX9_stands_297 : decode cX9_stands 297 = .ok (.iload 4, 2) := by decide +kernel
theorem dX9_stands_299 : decode cX9_stands 299 = .ok (.iconst (-1), 1) := by decide +kernel
theorem dX9_stands_300 : decode cX9_stands 300 = .ok (.if_icmp .eq 51, 3) := by decide +kernel
theorem dX9_stands_303 : decode cX9_stands 303 = .ok (.aload_n 0, 1) := by decide +kernel
theorem dX9_stands_304 : decode cX9_stands 304 = .ok (.iload_n 1, 1) := by decide +kernel
theorem dX9_stands_305 : decode cX9_stands 305 = .ok (.iload 4, 2) := by decide +kernel
theorem dX9_stands_307 : decode cX9_stands 307 = .ok (.invokevirtual 267, 3) := by decide +kernel
theorem dX9_stands_310 : decode cX9_stands 310 = .ok (.ifCond .eq 41, 3) := by decide +kernel
theorem dX9_stands_313 : decode cX9_stands 313 = .ok (.aload_n 0, 1) := by decide +kernel
theorem dX9_stands_314 : decode cX9_stands 314 = .ok (.getfield 102, 3) := by decide +kernel
theorem dX9_stands_317 : decode cX9_stands 317 = .ok (.iload_n 1, 1) := by decide +kernel
theorem dX9_stands_318 : decode cX9_stands 318 = .ok (.dup2, 1) := by decide +kernel
theorem dX9_stands_319 : decode cX9_stands 319 = .ok (.iaload, 1) := by decide +kernel
theorem dX9_stands_320 : decode cX9_stands 320 = .ok (.aload_n 0, 1) := by decide +kernel
theorem dX9_stands_321 : decode cX9_stands 321 = .ok (.getfield 38, 3) := by decide +kernel
theorem dX9_stands_324 : decode cX9_stands 324 = .ok (.iload 4, 2) := by decide +kernel
theorem dX9_stands_326 : decode cX9_stands 326 = .ok (.iaload, 1) := by decide +kernel
theorem dX9_stands_327 : decode cX9_stands 327 = .ok (.aload_n 0, 1) := by decide +kernel
theorem dX9_stands_328 : decode cX9_stands 328 = .ok (.getfield 41, 3) := by decide +kernel
theorem dX9_stands_331 : decode cX9_stands 331 = .ok (.iload 4, 2) := by decide +kernel
theorem dX9_stands_333 : decode cX9_stands 333 = .ok (.baload, 1) := by decide +kernel
theorem dX9_stands_334 : decode cX9_stands 334 = .ok (.ifCond .eq 12, 3) := by decide +kernel
theorem dX9_stands_337 : decode cX9_stands 337 = .ok (.aload_n 0, 1) := by decide +kernel
theorem dX9_stands_338 : decode cX9_stands 338 = .ok (.getfield 99, 3) := by decide +kernel
theorem dX9_stands_341 : decode cX9_stands 341 = .ok (.iload_n 1, 1) := by decide +kernel
theorem dX9_stands_342 : decode cX9_stands 342 = .ok (.iaload, 1) := by decide +kernel
theorem dX9_stands_343 : decode cX9_stands 343 = .ok (.goto 5, 3) := by decide +kernel
theorem dX9_stands_346 : decode cX9_stands 346 = .ok (.bipush 100, 2) := by decide +kernel
theorem dX9_stands_348 : decode cX9_stands 348 = .ok (.imul, 1) := by decide +kernel
theorem dX9_stands_349 : decode cX9_stands 349 = .ok (.iadd, 1) := by decide +kernel
theorem dX9_stands_350 : decode cX9_stands 350 = .ok (.iastore, 1) := by decide +kernel
theorem dX9_stands_351 : decode cX9_stands 351 = .ok (.iinc 3 1, 3) := by decide +kernel
theorem dX9_stands_354 : decode cX9_stands 354 = .ok (.goto (-75), 3) := by decide +kernel
theorem dX9_stands_357 : decode cX9_stands 357 = .ok (.return_, 1) := by decide +kernel
theorem dX9_gives_0 : decode cX9_gives 0 = .ok (.aload_n 0, 1) := by decide +kernel
theorem dX9_gives_1 : decode cX9_gives 1 = .ok (.getfield 81, 3) := by decide +kernel
theorem dX9_gives_4 : decode cX9_gives 4 = .ok (.bipush 9, 2) := by decide +kernel
theorem dX9_gives_6 : decode cX9_gives 6 = .ok (.iload_n 1, 1) := by decide +kernel
theorem dX9_gives_7 : decode cX9_gives 7 = .ok (.imul, 1) := by decide +kernel
theorem dX9_gives_8 : decode cX9_gives 8 = .ok (.bipush 6, 2) := by decide +kernel
theorem dX9_gives_10 : decode cX9_gives 10 = .ok (.iadd, 1) := by decide +kernel
theorem dX9_gives_11 : decode cX9_gives 11 = .ok (.iaload, 1) := by decide +kernel
theorem dX9_gives_12 : decode cX9_gives 12 = .ok (.ifCond .ne 11, 3) := by decide +kernel
theorem dX9_gives_15 : decode cX9_gives 15 = .ok (.aload_n 0, 1) := by decide +kernel
theorem dX9_gives_16 : decode cX9_gives 16 = .ok (.getfield 105, 3) := by decide +kernel
theorem dX9_gives_19 : decode cX9_gives 19 = .ok (.iload_n 1, 1) := by decide +kernel
theorem dX9_gives_20 : decode cX9_gives 20 = .ok (.iconst 0, 1) := by decide +kernel
theorem dX9_gives_21 : decode cX9_gives 21 = .ok (.iastore, 1) := by decide +kernel
theorem dX9_gives_22 : decode cX9_gives 22 = .ok (.return_, 1) := by decide +kernel
theorem dX9_gives_23 : decode cX9_gives 23 = .ok (.aload_n 0, 1) := by decide +kernel
theorem dX9_gives_24 : decode cX9_gives 24 = .ok (.getfield 111, 3) := by decide +kernel
theorem dX9_gives_27 : decode cX9_gives 27 = .ok (.iload_n 1, 1) := by decide +kernel
theorem dX9_gives_28 : decode cX9_gives 28 = .ok (.baload, 1) := by decide +kernel
theorem dX9_gives_29 : decode cX9_gives 29 = .ok (.ifCond .eq 25, 3) := by decide +kernel
theorem dX9_gives_32 : decode cX9_gives 32 = .ok (.aload_n 0, 1) := by decide +kernel
theorem dX9_gives_33 : decode cX9_gives 33 = .ok (.getfield 102, 3) := by decide +kernel
theorem dX9_gives_36 : decode cX9_gives 36 = .ok (.iload_n 1, 1) := by decide +kernel
theorem dX9_gives_37 : decode cX9_gives 37 = .ok (.iaload, 1) := by decide +kernel
theorem dX9_gives_38 : decode cX9_gives 38 = .ok (.aload_n 0, 1) := by decide +kernel
theorem dX9_gives_39 : decode cX9_gives 39 = .ok (.getfield 108, 3) := by decide +kernel
theorem dX9_gives_42 : decode cX9_gives 42 = .ok (.iload_n 1, 1) := by decide +kernel
theorem dX9_gives_43 : decode cX9_gives 43 = .ok (.iaload, 1) := by decide +kernel
theorem dX9_gives_44 : decode cX9_gives 44 = .ok (.if_icmp .lt 10, 3) := by decide +kernel
theorem dX9_gives_47 : decode cX9_gives 47 = .ok (.aload_n 0, 1) := by decide +kernel
theorem dX9_gives_48 : decode cX9_gives 48 = .ok (.getfield 111, 3) := by decide +kernel
theorem dX9_gives_51 : decode cX9_gives 51 = .ok (.iload_n 1, 1) := by decide +kernel
theorem dX9_gives_52 : decode cX9_gives 52 = .ok (.iconst 0, 1) := by decide +kernel
theorem dX9_gives_53 : decode cX9_gives 53 = .ok (.bastore, 1) := by decide +kernel
theorem dX9_gives_54 : decode cX9_gives 54 = .ok (.aload_n 0, 1) := by decide +kernel
theorem dX9_gives_55 : decode cX9_gives 55 = .ok (.getfield 105, 3) := by decide +kernel
theorem dX9_gives_58 : decode cX9_gives 58 = .ok (.iload_n 1, 1) := by decide +kernel
theorem dX9_gives_59 : decode cX9_gives 59 = .ok (.aload_n 0, 1) := by decide +kernel
theorem dX9_gives_60 : decode cX9_gives 60 = .ok (.getfield 111, 3) := by decide +kernel
theorem dX9_gives_63 : decode cX9_gives 63 = .ok (.iload_n 1, 1) := by decide +kernel
theorem dX9_gives_64 : decode cX9_gives 64 = .ok (.baload, 1) := by decide +kernel
theorem dX9_gives_65 : decode cX9_gives 65 = .ok (.ifCond .eq 12, 3) := by decide +kernel
theorem dX9_gives_68 : decode cX9_gives 68 = .ok (.aload_n 0, 1) := by decide +kernel
theorem dX9_gives_69 : decode cX9_gives 69 = .ok (.getfield 108, 3) := by decide +kernel
theorem dX9_gives_72 : decode cX9_gives 72 = .ok (.iload_n 1, 1) := by decide +kernel
theorem dX9_gives_73 : decode cX9_gives 73 = .ok (.iaload, 1) := by decide +kernel
theorem dX9_gives_74 : decode cX9_gives 74 = .ok (.goto 9, 3) := by decide +kernel
theorem dX9_gives_77 : decode cX9_gives 77 = .ok (.aload_n 0, 1) := by decide +kernel
theorem dX9_gives_78 : decode cX9_gives 78 = .ok (.getfield 102, 3) := by decide +kernel
theorem dX9_gives_81 : decode cX9_gives 81 = .ok (.iload_n 1, 1) := by decide +kernel
theorem dX9_gives_82 : decode cX9_gives 82 = .ok (.iaload, 1) := by decide +kernel
theorem dX9_gives_83 : decode cX9_gives 83 = .ok (.iastore, 1) := by decide +kernel
theorem dX9_gives_84 : decode cX9_gives 84 = .ok (.return_, 1) := by decide +kernel
theorem dX9_isDay_0 : decode cX9_isDay 0 = .ok (.iload_n 1, 1) := by decide +kernel
theorem dX9_isDay_1 : decode cX9_isDay 1 = .ok (.ifCond .lt 14, 3) := by decide +kernel
theorem dX9_isDay_4 : decode cX9_isDay 4 = .ok (.iload_n 1, 1) := by decide +kernel
theorem dX9_isDay_5 : decode cX9_isDay 5 = .ok (.sipush 1200, 3) := by decide +kernel
theorem dX9_isDay_8 : decode cX9_isDay 8 = .ok (.if_icmp .ge 7, 3) := by decide +kernel
theorem dX9_isDay_11 : decode cX9_isDay 11 = .ok (.iconst 1, 1) := by decide +kernel
theorem dX9_isDay_12 : decode cX9_isDay 12 = .ok (.goto 4, 3) := by decide +kernel
theorem dX9_isDay_15 : decode cX9_isDay 15 = .ok (.iconst 0, 1) := by decide +kernel
theorem dX9_isDay_16 : decode cX9_isDay 16 = .ok (.ireturn, 1) := by decide +kernel
theorem dX9_isKnown_0 : decode cX9_isKnown 0 = .ok (.iload_n 1, 1) := by decide +kernel
theorem dX9_isKnown_1 : decode cX9_isKnown 1 = .ok (.ifCond .lt 15, 3) := by decide +kernel
theorem dX9_isKnown_4 : decode cX9_isKnown 4 = .ok (.iload_n 1, 1) := by decide +kernel
theorem dX9_isKnown_5 : decode cX9_isKnown 5 = .ok (.aload_n 0, 1) := by decide +kernel
theorem dX9_isKnown_6 : decode cX9_isKnown 6 = .ok (.getfield 230, 3) := by decide +kernel
theorem dX9_isKnown_9 : decode cX9_isKnown 9 = .ok (.if_icmp .gt 7, 3) := by decide +kernel
theorem dX9_isKnown_12 : decode cX9_isKnown 12 = .ok (.iconst 1, 1) := by decide +kernel
theorem dX9_isKnown_13 : decode cX9_isKnown 13 = .ok (.goto 4, 3) := by decide +kernel
theorem dX9_isKnown_16 : decode cX9_isKnown 16 = .ok (.iconst 0, 1) := by decide +kernel
theorem dX9_isKnown_17 : decode cX9_isKnown 17 = .ok (.ireturn, 1) := by decide +kernel
theorem dX9_isPost_0 : decode cX9_isPost 0 = .ok (.iload_n 1, 1) := by decide +kernel
theorem dX9_isPost_1 : decode cX9_isPost 1 = .ok (.ifCond .lt 15, 3) := by decide +kernel
theorem dX9_isPost_4 : decode cX9_isPost 4 = .ok (.iload_n 1, 1) := by decide +kernel
theorem dX9_isPost_5 : decode cX9_isPost 5 = .ok (.aload_n 0, 1) := by decide +kernel
theorem dX9_isPost_6 : decode cX9_isPost 6 = .ok (.getfield 233, 3) := by decide +kernel
theorem dX9_isPost_9 : decode cX9_isPost 9 = .ok (.if_icmp .ge 7, 3) := by decide +kernel
theorem dX9_isPost_12 : decode cX9_isPost 12 = .ok (.iconst 1, 1) := by decide +kernel
theorem dX9_isPost_13 : decode cX9_isPost 13 = .ok (.goto 4, 3) := by decide +kernel
theorem dX9_isPost_16 : decode cX9_isPost 16 = .ok (.iconst 0, 1) := by decide +kernel
theorem dX9_isPost_17 : decode cX9_isPost 17 = .ok (.ireturn, 1) := by decide +kernel
theorem dX9_look_0 : decode cX9_look 0 = .ok (.aload_n 0, 1) := by decide +kernel
theorem dX9_look_1 : decode cX9_look 1 = .ok (.iconst 0, 1) := by decide +kernel
theorem dX9_look_2 : decode cX9_look 2 = .ok (.putfield 136, 3) := by decide +kernel
theorem dX9_look_5 : decode cX9_look 5 = .ok (.aload_n 0, 1) := by decide +kernel
theorem dX9_look_6 : decode cX9_look 6 = .ok (.iload_n 1, 1) := by decide +kernel
theorem dX9_look_7 : decode cX9_look 7 = .ok (.invokevirtual 275, 3) := by decide +kernel
theorem dX9_look_10 : decode cX9_look 10 = .ok (.ifCond .eq 31, 3) := by decide +kernel
theorem dX9_look_13 : decode cX9_look 13 = .ok (.aload_n 0, 1) := by decide +kernel
theorem dX9_look_14 : decode cX9_look 14 = .ok (.iload_n 2, 1) := by decide +kernel
theorem dX9_look_15 : decode cX9_look 15 = .ok (.invokevirtual 278, 3) := by decide +kernel
theorem dX9_look_18 : decode cX9_look 18 = .ok (.ifCond .eq 23, 3) := by decide +kernel
theorem dX9_look_21 : decode cX9_look 21 = .ok (.aload_n 0, 1) := by decide +kernel
theorem dX9_look_22 : decode cX9_look 22 = .ok (.iload_n 3, 1) := by decide +kernel
theorem dX9_look_23 : decode cX9_look 23 = .ok (.invokevirtual 281, 3) := by decide +kernel
theorem dX9_look_26 : decode cX9_look 26 = .ok (.ifCond .eq 15, 3) := by decide +kernel
theorem dX9_look_29 : decode cX9_look 29 = .ok (.iload 4, 2) := by decide +kernel
theorem dX9_look_31 : decode cX9_look 31 = .ok (.ifCond .lt 10, 3) := by decide +kernel
theorem dX9_look_34 : decode cX9_look 34 = .ok (.iload 4, 2) := by decide +kernel
theorem dX9_look_36 : decode cX9_look 36 = .ok (.bipush 15, 2) := by decide +kernel
theorem dX9_look_38 : decode cX9_look 38 = .ok (.if_icmp .le 7, 3) := by decide +kernel
theorem dX9_look_41 : decode cX9_look 41 = .ok (.ldc_w 284, 3) := by decide +kernel
theorem dX9_look_44 : decode cX9_look 44 = .ok (.ireturn, 1) := by decide +kernel
theorem dX9_look_45 : decode cX9_look 45 = .ok (.aload_n 0, 1) := by decide +kernel
theorem dX9_look_46 : decode cX9_look 46 = .ok (.iload_n 3, 1) := by decide +kernel
theorem dX9_look_47 : decode cX9_look 47 = .ok (.iload_n 2, 1) := by decide +kernel
theorem dX9_look_48 : decode cX9_look 48 = .ok (.invokevirtual 285, 3) := by decide +kernel
theorem dX9_look_51 : decode cX9_look 51 = .ok (.iload 4, 2) := by decide +kernel
theorem dX9_look_53 : decode cX9_look 53 = .ok (.bipush 9, 2) := by decide +kernel
theorem dX9_look_55 : decode cX9_look 55 = .ok (.if_icmp .ge 16, 3) := by decide +kernel
theorem dX9_look_58 : decode cX9_look 58 = .ok (.aload_n 0, 1) := by decide +kernel
theorem dX9_look_59 : decode cX9_look 59 = .ok (.getfield 81, 3) := by decide +kernel
theorem dX9_look_62 : decode cX9_look 62 = .ok (.bipush 9, 2) := by decide +kernel
theorem dX9_look_64 : decode cX9_look 64 = .ok (.iload_n 1, 1) := by decide +kernel
theorem dX9_look_65 : decode cX9_look 65 = .ok (.imul, 1) := by decide +kernel
theorem dX9_look_66 : decode cX9_look 66 = .ok (.iload 4, 2) := by decide +kernel
theorem dX9_look_68 : decode cX9_look 68 = .ok (.iadd, 1) := by decide +kernel
theorem dX9_look_69 : decode cX9_look 69 = .ok (.iaload, 1) := by decide +kernel
theorem dX9_look_70 : decode cX9_look 70 = .ok (.ireturn, 1) := by decide +kernel
theorem dX9_look_71 : decode cX9_look 71 = .ok (.iload 4, 2) := by decide +kernel
theorem dX9_look_73 : decode cX9_look 73 = .ok (.tableswitch 86 9 14 #[39, 46, 53, 65, 72, 79], 39) := by decide +kernel
theorem dX9_look_112 : decode cX9_look 112 = .ok (.aload_n 0, 1) := by decide +kernel
theorem dX9_look_113 : decode cX9_look 113 = .ok (.getfield 90, 3) := by decide +kernel
theorem dX9_look_116 : decode cX9_look 116 = .ok (.iload_n 1, 1) := by decide +kernel
theorem dX9_look_117 : decode cX9_look 117 = .ok (.iaload, 1) := by decide +kernel
theorem dX9_look_118 : decode cX9_look 118 = .ok (.ireturn, 1) := by decide +kernel
theorem dX9_look_119 : decode cX9_look 119 = .ok (.aload_n 0, 1) := by decide +kernel
theorem dX9_look_120 : decode cX9_look 120 = .ok (.getfield 93, 3) := by decide +kernel
theorem dX9_look_123 : decode cX9_look 123 = .ok (.iload_n 1, 1) := by decide +kernel
theorem dX9_look_124 : decode cX9_look 124 = .ok (.iaload, 1) := by decide +kernel
theorem dX9_look_125 : decode cX9_look 125 = .ok (.ireturn, 1) := by decide +kernel
theorem dX9_look_126 : decode cX9_look 126 = .ok (.aload_n 0, 1) := by decide +kernel
theorem dX9_look_127 : decode cX9_look 127 = .ok (.getfield 84, 3) := by decide +kernel
theorem dX9_look_130 : decode cX9_look 130 = .ok (.aload_n 0, 1) := by decide +kernel
theorem dX9_look_131 : decode cX9_look 131 = .ok (.getfield 54, 3) := by decide +kernel
theorem dX9_look_134 : decode cX9_look 134 = .ok (.iload_n 1, 1) := by decide +kernel
theorem dX9_look_135 : decode cX9_look 135 = .ok (.iaload, 1) := by decide +kernel
theorem dX9_look_136 : decode cX9_look 136 = .ok (.iaload, 1) := by decide +kernel
theorem dX9_look_137 : decode cX9_look 137 = .ok (.ireturn, 1) := by decide +kernel
theorem dX9_look_138 : decode cX9_look 138 = .ok (.aload_n 0, 1) := by decide +kernel
theorem dX9_look_139 : decode cX9_look 139 = .ok (.getfield 96, 3) := by decide +kernel
theorem dX9_look_142 : decode cX9_look 142 = .ok (.iload_n 1, 1) := by decide +kernel
theorem dX9_look_143 : decode cX9_look 143 = .ok (.iaload, 1) := by decide +kernel
theorem dX9_look_144 : decode cX9_look 144 = .ok (.ireturn, 1) := by decide +kernel
theorem dX9_look_145 : decode cX9_look 145 = .ok (.aload_n 0, 1) := by decide +kernel
theorem dX9_look_146 : decode cX9_look 146 = .ok (.getfield 99, 3) := by decide +kernel
theorem dX9_look_149 : decode cX9_look 149 = .ok (.iload_n 1, 1) := by decide +kernel
theorem dX9_look_150 : decode cX9_look 150 = .ok (.iaload, 1) := by decide +kernel
theorem dX9_look_151 : decode cX9_look 151 = .ok (.ireturn, 1) := by decide +kernel
theorem dX9_look_152 : decode cX9_look 152 = .ok (.aload_n 0, 1) := by decide +kernel
theorem dX9_look_153 : decode cX9_look 153 = .ok (.getfield 102, 3) := by decide +kernel
theorem dX9_look_156 : decode cX9_look 156 = .ok (.iload_n 1, 1) := by decide +kernel
theorem dX9_look_157 : decode cX9_look 157 = .ok (.iaload, 1) := by decide +kernel
theorem dX9_look_158 : decode cX9_look 158 = .ok (.ireturn, 1) := by decide +kernel
theorem dX9_look_159 : decode cX9_look 159 = .ok (.aload_n 0, 1) := by decide +kernel
theorem dX9_look_160 : decode cX9_look 160 = .ok (.getfield 105, 3) := by decide +kernel
theorem dX9_look_163 : decode cX9_look 163 = .ok (.iload_n 1, 1) := by decide +kernel
theorem dX9_look_164 : decode cX9_look 164 = .ok (.iaload, 1) := by decide +kernel
theorem dX9_look_165 : decode cX9_look 165 = .ok (.ireturn, 1) := by decide +kernel
theorem dX9_pay_0 : decode cX9_pay 0 = .ok (.aload_n 0, 1) := by decide +kernel
theorem dX9_pay_1 : decode cX9_pay 1 = .ok (.iconst 0, 1) := by decide +kernel
theorem dX9_pay_2 : decode cX9_pay 2 = .ok (.putfield 136, 3) := by decide +kernel
theorem dX9_pay_5 : decode cX9_pay 5 = .ok (.aload_n 0, 1) := by decide +kernel
theorem dX9_pay_6 : decode cX9_pay 6 = .ok (.iload_n 1, 1) := by decide +kernel
theorem dX9_pay_7 : decode cX9_pay 7 = .ok (.invokevirtual 275, 3) := by decide +kernel
theorem dX9_pay_10 : decode cX9_pay 10 = .ok (.ifCond .eq 19, 3) := by decide +kernel
theorem dX9_pay_13 : decode cX9_pay 13 = .ok (.aload_n 0, 1) := by decide +kernel
theorem dX9_pay_14 : decode cX9_pay 14 = .ok (.iload_n 2, 1) := by decide +kernel
theorem dX9_pay_15 : decode cX9_pay 15 = .ok (.invokevirtual 278, 3) := by decide +kernel
theorem dX9_pay_18 : decode cX9_pay 18 = .ok (.ifCond .eq 11, 3) := by decide +kernel
theorem dX9_pay_21 : decode cX9_pay 21 = .ok (.aload_n 0, 1) := by decide +kernel
theorem dX9_pay_22 : decode cX9_pay 22 = .ok (.iload_n 3, 1) := by decide +kernel
theorem dX9_pay_23 : decode cX9_pay 23 = .ok (.invokevirtual 281, 3) := by decide +kernel
theorem dX9_pay_26 : decode cX9_pay 26 = .ok (.ifCond .ne 7, 3) := by decide +kernel
theorem dX9_pay_29 : decode cX9_pay 29 = .ok (.ldc2_w 288, 3) := by decide +kernel
theorem dX9_pay_32 : decode cX9_pay 32 = .ok (.lreturn, 1) := by decide +kernel
theorem dX9_pay_33 : decode cX9_pay 33 = .ok (.aload_n 0, 1) := by decide +kernel
theorem dX9_pay_34 : decode cX9_pay 34 = .ok (.iload_n 3, 1) := by decide +kernel
theorem dX9_pay_35 : decode cX9_pay 35 = .ok (.iload_n 2, 1) := by decide +kernel
theorem dX9_pay_36 : decode cX9_pay 36 = .ok (.invokevirtual 285, 3) := by decide +kernel
theorem dX9_pay_39 : decode cX9_pay 39 = .ok (.aload_n 0, 1) := by decide +kernel
theorem dX9_pay_40 : decode cX9_pay 40 = .ok (.getfield 81, 3) := by decide +kernel
theorem dX9_pay_43 : decode cX9_pay 43 = .ok (.bipush 9, 2) := by decide +kernel
theorem dX9_pay_45 : decode cX9_pay 45 = .ok (.iload_n 1, 1) := by decide +kernel
theorem dX9_pay_46 : decode cX9_pay 46 = .ok (.imul, 1) := by decide +kernel
theorem dX9_pay_47 : decode cX9_pay 47 = .ok (.bipush 7, 2) := by decide +kernel
theorem dX9_pay_49 : decode cX9_pay 49 = .ok (.iadd, 1) := by decide +kernel
theorem dX9_pay_50 : decode cX9_pay 50 = .ok (.iaload, 1) := by decide +kernel
theorem dX9_pay_51 : decode cX9_pay 51 = .ok (.istore 4, 2) := by decide +kernel
theorem dX9_pay_53 : decode cX9_pay 53 = .ok (.ldc2_w 261, 3) := by decide +kernel
theorem dX9_pay_56 : decode cX9_pay 56 = .ok (.aload_n 0, 1) := by decide +kernel
theorem dX9_pay_57 : decode cX9_pay 57 = .ok (.getfield 105, 3) := by decide +kernel
theorem dX9_pay_60 : decode cX9_pay 60 = .ok (.iload_n 1, 1) := by decide +kernel
theorem dX9_pay_61 : decode cX9_pay 61 = .ok (.iaload, 1) := by decide +kernel
theorem dX9_pay_62 : decode cX9_pay 62 = .ok (.i2l, 1) := by decide +kernel
theorem dX9_pay_63 : decode cX9_pay 63 = .ok (.lmul, 1) := by decide +kernel
theorem dX9_pay_64 : decode cX9_pay 64 = .ok (.iload 4, 2) := by decide +kernel
theorem dX9_pay_66 : decode cX9_pay 66 = .ok (.bipush 10, 2) := by decide +kernel
theorem dX9_pay_68 : decode cX9_pay 68 = .ok (.idiv, 1) := by decide +kernel
theorem dX9_pay_69 : decode cX9_pay 69 = .ok (.i2l, 1) := by decide +kernel
theorem dX9_pay_70 : decode cX9_pay 70 = .ok (.lmul, 1) := by decide +kernel
theorem dX9_pay_71 : decode cX9_pay 71 = .ok (.iload 4, 2) := by decide +kernel
theorem dX9_pay_73 : decode cX9_pay 73 = .ok (.bipush 10, 2) := by decide +kernel
theorem dX9_pay_75 : decode cX9_pay 75 = .ok (.irem, 1) := by decide +kernel
theorem dX9_pay_76 : decode cX9_pay 76 = .ok (.i2l, 1) := by decide +kernel
theorem dX9_pay_77 : decode cX9_pay 77 = .ok (.ldiv, 1) := by decide +kernel
theorem dX9_pay_78 : decode cX9_pay 78 = .ok (.lreturn, 1) := by decide +kernel
theorem dX9_due_0 : decode cX9_due 0 = .ok (.aload_n 0, 1) := by decide +kernel
theorem dX9_due_1 : decode cX9_due 1 = .ok (.iconst 0, 1) := by decide +kernel
theorem dX9_due_2 : decode cX9_due 2 = .ok (.putfield 136, 3) := by decide +kernel
theorem dX9_due_5 : decode cX9_due 5 = .ok (.aload_n 0, 1) := by decide +kernel
theorem dX9_due_6 : decode cX9_due 6 = .ok (.iload_n 1, 1) := by decide +kernel
theorem dX9_due_7 : decode cX9_due 7 = .ok (.invokevirtual 275, 3) := by decide +kernel
theorem dX9_due_10 : decode cX9_due 10 = .ok (.ifCond .eq 21, 3) := by decide +kernel
theorem dX9_due_13 : decode cX9_due 13 = .ok (.iload_n 2, 1) := by decide +kernel
theorem dX9_due_14 : decode cX9_due 14 = .ok (.ifCond .lt 17, 3) := by decide +kernel
theorem dX9_due_17 : decode cX9_due 17 = .ok (.iload_n 2, 1) := by decide +kernel
theorem dX9_due_18 : decode cX9_due 18 = .ok (.bipush 39, 2) := by decide +kernel
theorem dX9_due_20 : decode cX9_due 20 = .ok (.if_icmp .gt 11, 3) := by decide +kernel
theorem dX9_due_23 : decode cX9_due 23 = .ok (.aload_n 0, 1) := by decide +kernel
theorem dX9_due_24 : decode cX9_due 24 = .ok (.iload_n 3, 1) := by decide +kernel
theorem dX9_due_25 : decode cX9_due 25 = .ok (.invokevirtual 281, 3) := by decide +kernel
theorem dX9_due_28 : decode cX9_due 28 = .ok (.ifCond .ne 7, 3) := by decide +kernel
theorem dX9_due_31 : decode cX9_due 31 = .ok (.ldc2_w 288, 3) := by decide +kernel
theorem dX9_due_34 : decode cX9_due 34 = .ok (.lreturn, 1) := by decide +kernel
theorem dX9_due_35 : decode cX9_due 35 = .ok (.aload_n 0, 1) := by decide +kernel
theorem dX9_due_36 : decode cX9_due 36 = .ok (.iload_n 3, 1) := by decide +kernel
theorem dX9_due_37 : decode cX9_due 37 = .ok (.bipush 30, 2) := by decide +kernel
theorem dX9_due_39 : decode cX9_due 39 = .ok (.iload_n 2, 1) := by decide +kernel
theorem dX9_due_40 : decode cX9_due 40 = .ok (.imul, 1) := by decide +kernel
theorem dX9_due_41 : decode cX9_due 41 = .ok (.bipush 29, 2) := by decide +kernel
theorem dX9_due_43 : decode cX9_due 43 = .ok (.iadd, 1) := by decide +kernel
theorem dX9_due_44 : decode cX9_due 44 = .ok (.invokevirtual 285, 3) := by decide +kernel
theorem dX9_due_47 : decode cX9_due 47 = .ok (.aload_n 0, 1) := by decide +kernel
theorem dX9_due_48 : decode cX9_due 48 = .ok (.getfield 114, 3) := by decide +kernel
theorem dX9_due_51 : decode cX9_due 51 = .ok (.bipush 40, 2) := by decide +kernel
theorem dX9_due_53 : decode cX9_due 53 = .ok (.iload_n 1, 1) := by decide +kernel
theorem dX9_due_54 : decode cX9_due 54 = .ok (.imul, 1) := by decide +kernel
theorem dX9_due_55 : decode cX9_due 55 = .ok (.iload_n 2, 1) := by decide +kernel
theorem dX9_due_56 : decode cX9_due 56 = .ok (.iadd, 1) := by decide +kernel
theorem dX9_due_57 : decode cX9_due 57 = .ok (.laload, 1) := by decide +kernel
theorem dX9_due_58 : decode cX9_due 58 = .ok (.lreturn, 1) := by decide +kernel
theorem dX9_run_0 : decode cX9_run 0 = .ok (.aload_n 0, 1) := by decide +kernel
theorem dX9_run_1 : decode cX9_run 1 = .ok (.iconst 0, 1) := by decide +kernel
theorem dX9_run_2 : decode cX9_run 2 = .ok (.putfield 136, 3) := by decide +kernel
theorem dX9_run_5 : decode cX9_run 5 = .ok (.aload_n 0, 1) := by decide +kernel
theorem dX9_run_6 : decode cX9_run 6 = .ok (.dup, 1) := by decide +kernel
theorem dX9_run_7 : decode cX9_run 7 = .ok (.getfield 290, 3) := by decide +kernel
