theorem dX11_line_8 : decode cX11_line 8 = .ok (.invokestatic 100, 3) := by decide +kernel
theorem dX11_line_11 : decode cX11_line 11 = .ok (.ifCond .eq 12, 3) := by decide +kernel
theorem dX11_line_14 : decode cX11_line 14 = .ok (.aload_n 0, 1) := by decide +kernel
theorem dX11_line_15 : decode cX11_line 15 = .ok (.getfield 94, 3) := by decide +kernel
theorem dX11_line_18 : decode cX11_line 18 = .ok (.iload_n 1, 1) := by decide +kernel
theorem dX11_line_19 : decode cX11_line 19 = .ok (.iaload, 1) := by decide +kernel
theorem dX11_line_20 : decode cX11_line 20 = .ok (.goto 4, 3) := by decide +kernel
theorem dX11_line_23 : decode cX11_line 23 = .ok (.iconst (-1), 1) := by decide +kernel
theorem dX11_line_24 : decode cX11_line 24 = .ok (.ireturn, 1) := by decide +kernel
theorem dX11_replace_0 : decode cX11_replace 0 = .ok (.aload_n 0, 1) := by decide +kernel
theorem dX11_replace_1 : decode cX11_replace 1 = .ok (.iload_n 1, 1) := by decide +kernel
theorem dX11_replace_2 : decode cX11_replace 2 = .ok (.invokevirtual 156, 3) := by decide +kernel
theorem dX11_replace_5 : decode cX11_replace 5 = .ok (.ifCond .eq 10, 3) := by decide +kernel
theorem dX11_replace_8 : decode cX11_replace 8 = .ok (.iload_n 2, 1) := by decide +kernel
theorem dX11_replace_9 : decode cX11_replace 9 = .ok (.invokestatic 196, 3) := by decide +kernel
theorem dX11_replace_12 : decode cX11_replace 12 = .ok (.ifCond .ne 6, 3) := by decide +kernel
theorem dX11_replace_15 : decode cX11_replace 15 = .ok (.bipush (-2), 2) := by decide +kernel
theorem dX11_replace_17 : decode cX11_replace 17 = .ok (.ireturn, 1) := by decide +kernel
theorem dX11_replace_18 : decode cX11_replace 18 = .ok (.aload_n 0, 1) := by decide +kernel
theorem dX11_replace_19 : decode cX11_replace 19 = .ok (.iload_n 1, 1) := by decide +kernel
theorem dX11_replace_20 : decode cX11_replace 20 = .ok (.invokevirtual 199, 3) := by decide +kernel
theorem dX11_replace_23 : decode cX11_replace 23 = .ok (.aload_n 0, 1) := by decide +kernel
theorem dX11_replace_24 : decode cX11_replace 24 = .ok (.iload_n 3, 1) := by decide +kernel
theorem dX11_replace_25 : decode cX11_replace 25 = .ok (.putfield 185, 3) := by decide +kernel
theorem dX11_replace_28 : decode cX11_replace 28 = .ok (.iconst 0, 1) := by decide +kernel
theorem dX11_replace_29 : decode cX11_replace 29 = .ok (.istore 4, 2) := by decide +kernel
theorem dX11_replace_31 : decode cX11_replace 31 = .ok (.iconst 0, 1) := by decide +kernel
theorem dX11_replace_32 : decode cX11_replace 32 = .ok (.istore 5, 2) := by decide +kernel
theorem dX11_replace_34 : decode cX11_replace 34 = .ok (.iconst 0, 1) := by decide +kernel
theorem dX11_replace_35 : decode cX11_replace 35 = .ok (.istore 6, 2) := by decide +kernel
theorem dX11_replace_37 : decode cX11_replace 37 = .ok (.iconst 1, 1) := by decide +kernel
theorem dX11_replace_38 : decode cX11_replace 38 = .ok (.istore 7, 2) := by decide +kernel
theorem dX11_replace_40 : decode cX11_replace 40 = .ok (.iload 7, 2) := by decide +kernel
theorem dX11_replace_42 : decode cX11_replace 42 = .ok (.ifCond .eq 191, 3) := by decide +kernel
theorem dX11_replace_45 : decode cX11_replace 45 = .ok (.aload_n 0, 1) := by decide +kernel
theorem dX11_replace_46 : decode cX11_replace 46 = .ok (.iload 6, 2) := by decide +kernel
theorem dX11_replace_48 : decode cX11_replace 48 = .ok (.aload_n 0, 1) := by decide +kernel
theorem dX11_replace_49 : decode cX11_replace 49 = .ok (.getfield 162, 3) := by decide +kernel
theorem dX11_replace_52 : decode cX11_replace 52 = .ok (.invokevirtual 202, 3) := by decide +kernel
theorem dX11_replace_55 : decode cX11_replace 55 = .ok (.aload_n 0, 1) := by decide +kernel
theorem dX11_replace_56 : decode cX11_replace 56 = .ok (.iload_n 2, 1) := by decide +kernel
theorem dX11_replace_57 : decode cX11_replace 57 = .ok (.iconst 1, 1) := by decide +kernel
theorem dX11_replace_58 : decode cX11_replace 58 = .ok (.invokevirtual 223, 3) := by decide +kernel
theorem dX11_replace_61 : decode cX11_replace 61 = .ok (.istore 8, 2) := by decide +kernel
theorem dX11_replace_63 : decode cX11_replace 63 = .ok (.iload 8, 2) := by decide +kernel
theorem dX11_replace_65 : decode cX11_replace 65 = .ok (.ifCond .le 7, 3) := by decide +kernel
theorem dX11_replace_68 : decode cX11_replace 68 = .ok (.iconst 1, 1) := by decide +kernel
theorem dX11_replace_69 : decode cX11_replace 69 = .ok (.goto 4, 3) := by decide +kernel
theorem dX11_replace_72 : decode cX11_replace 72 = .ok (.iconst 0, 1) := by decide +kernel
theorem dX11_replace_73 : decode cX11_replace 73 = .ok (.istore 7, 2) := by decide +kernel
theorem dX11_replace_75 : decode cX11_replace 75 = .ok (.iload 7, 2) := by decide +kernel
theorem dX11_replace_77 : decode cX11_replace 77 = .ok (.ifCond .eq 15, 3) := by decide +kernel
theorem dX11_replace_80 : decode cX11_replace 80 = .ok (.aload_n 0, 1) := by decide +kernel
theorem dX11_replace_81 : decode cX11_replace 81 = .ok (.getfield 60, 3) := by decide +kernel
theorem dX11_replace_84 : decode cX11_replace 84 = .ok (.aload_n 0, 1) := by decide +kernel
theorem dX11_replace_85 : decode cX11_replace 85 = .ok (.getfield 172, 3) := by decide +kernel
theorem dX11_replace_88 : decode cX11_replace 88 = .ok (.iaload, 1) := by decide +kernel
theorem dX11_replace_89 : decode cX11_replace 89 = .ok (.goto 7, 3) := by decide +kernel
theorem dX11_replace_92 : decode cX11_replace 92 = .ok (.aload_n 0, 1) := by decide +kernel
theorem dX11_replace_93 : decode cX11_replace 93 = .ok (.getfield 175, 3) := by decide +kernel
theorem dX11_replace_96 : decode cX11_replace 96 = .ok (.istore 9, 2) := by decide +kernel
theorem dX11_replace_98 : decode cX11_replace 98 = .ok (.iconst 0, 1) := by decide +kernel
theorem dX11_replace_99 : decode cX11_replace 99 = .ok (.istore 10, 2) := by decide +kernel
theorem dX11_replace_101 : decode cX11_replace 101 = .ok (.iload 10, 2) := by decide +kernel
theorem dX11_replace_103 : decode cX11_replace 103 = .ok (.iload 9, 2) := by decide +kernel
theorem dX11_replace_105 : decode cX11_replace 105 = .ok (.if_icmp .ge 40, 3) := by decide +kernel
theorem dX11_replace_108 : decode cX11_replace 108 = .ok (.aload_n 0, 1) := by decide +kernel
theorem dX11_replace_109 : decode cX11_replace 109 = .ok (.getfield 97, 3) := by decide +kernel
theorem dX11_replace_112 : decode cX11_replace 112 = .ok (.iload 4, 2) := by decide +kernel
theorem dX11_replace_114 : decode cX11_replace 114 = .ok (.sipush 1500, 3) := by decide +kernel
theorem dX11_replace_117 : decode cX11_replace 117 = .ok (.if_icmp .ge 8, 3) := by decide +kernel
theorem dX11_replace_120 : decode cX11_replace 120 = .ok (.iload 4, 2) := by decide +kernel
theorem dX11_replace_122 : decode cX11_replace 122 = .ok (.goto 6, 3) := by decide +kernel
theorem dX11_replace_125 : decode cX11_replace 125 = .ok (.sipush 1500, 3) := by decide +kernel
theorem dX11_replace_128 : decode cX11_replace 128 = .ok (.aload_n 0, 1) := by decide +kernel
theorem dX11_replace_129 : decode cX11_replace 129 = .ok (.getfield 48, 3) := by decide +kernel
theorem dX11_replace_132 : decode cX11_replace 132 = .ok (.iload 10, 2) := by decide +kernel
theorem dX11_replace_134 : decode cX11_replace 134 = .ok (.iaload, 1) := by decide +kernel
theorem dX11_replace_135 : decode cX11_replace 135 = .ok (.iastore, 1) := by decide +kernel
theorem dX11_replace_136 : decode cX11_replace 136 = .ok (.iinc 4 1, 3) := by decide +kernel
theorem dX11_replace_139 : decode cX11_replace 139 = .ok (.iinc 10 1, 3) := by decide +kernel
theorem dX11_replace_142 : decode cX11_replace 142 = .ok (.goto (-41), 3) := by decide +kernel
theorem dX11_replace_145 : decode cX11_replace 145 = .ok (.iconst 0, 1) := by decide +kernel
theorem dX11_replace_146 : decode cX11_replace 146 = .ok (.istore 10, 2) := by decide +kernel
theorem dX11_replace_148 : decode cX11_replace 148 = .ok (.iload 10, 2) := by decide +kernel
theorem dX11_replace_150 : decode cX11_replace 150 = .ok (.aload_n 0, 1) := by decide +kernel
theorem dX11_replace_151 : decode cX11_replace 151 = .ok (.getfield 110, 3) := by decide +kernel
theorem dX11_replace_154 : decode cX11_replace 154 = .ok (.if_icmp .ge 45, 3) := by decide +kernel
theorem dX11_replace_157 : decode cX11_replace 157 = .ok (.iload 7, 2) := by decide +kernel
theorem dX11_replace_159 : decode cX11_replace 159 = .ok (.ifCond .eq 40, 3) := by decide +kernel
theorem dX11_replace_162 : decode cX11_replace 162 = .ok (.aload_n 0, 1) := by decide +kernel
theorem dX11_replace_163 : decode cX11_replace 163 = .ok (.getfield 97, 3) := by decide +kernel
theorem dX11_replace_166 : decode cX11_replace 166 = .ok (.iload 4, 2) := by decide +kernel
theorem dX11_replace_168 : decode cX11_replace 168 = .ok (.sipush 1500, 3) := by decide +kernel
theorem dX11_replace_171 : decode cX11_replace 171 = .ok (.if_icmp .ge 8, 3) := by decide +kernel
theorem dX11_replace_174 : decode cX11_replace 174 = .ok (.iload 4, 2) := by decide +kernel
theorem dX11_replace_176 : decode cX11_replace 176 = .ok (.goto 6, 3) := by decide +kernel
theorem dX11_replace_179 : decode cX11_replace 179 = .ok (.sipush 1500, 3) := by decide +kernel
theorem dX11_replace_182 : decode cX11_replace 182 = .ok (.aload_n 0, 1) := by decide +kernel
theorem dX11_replace_183 : decode cX11_replace 183 = .ok (.getfield 7, 3) := by decide +kernel
theorem dX11_replace_186 : decode cX11_replace 186 = .ok (.iload 10, 2) := by decide +kernel
theorem dX11_replace_188 : decode cX11_replace 188 = .ok (.iaload, 1) := by decide +kernel
theorem dX11_replace_189 : decode cX11_replace 189 = .ok (.iastore, 1) := by decide +kernel
theorem dX11_replace_190 : decode cX11_replace 190 = .ok (.iinc 4 1, 3) := by decide +kernel
theorem dX11_replace_193 : decode cX11_replace 193 = .ok (.iinc 10 1, 3) := by decide +kernel
theorem dX11_replace_196 : decode cX11_replace 196 = .ok (.goto (-48), 3) := by decide +kernel
theorem dX11_replace_199 : decode cX11_replace 199 = .ok (.iload 5, 2) := by decide +kernel
theorem dX11_replace_201 : decode cX11_replace 201 = .ok (.iload 7, 2) := by decide +kernel
theorem dX11_replace_203 : decode cX11_replace 203 = .ok (.ifCond .eq 7, 3) := by decide +kernel
theorem dX11_replace_206 : decode cX11_replace 206 = .ok (.iconst 1, 1) := by decide +kernel
theorem dX11_replace_207 : decode cX11_replace 207 = .ok (.goto 4, 3) := by decide +kernel
theorem dX11_replace_210 : decode cX11_replace 210 = .ok (.iconst 0, 1) := by decide +kernel
theorem dX11_replace_211 : decode cX11_replace 211 = .ok (.iadd, 1) := by decide +kernel
theorem dX11_replace_212 : decode cX11_replace 212 = .ok (.istore 5, 2) := by decide +kernel
theorem dX11_replace_214 : decode cX11_replace 214 = .ok (.iload 6, 2) := by decide +kernel
theorem dX11_replace_216 : decode cX11_replace 216 = .ok (.iload 7, 2) := by decide +kernel
theorem dX11_replace_218 : decode cX11_replace 218 = .ok (.ifCond .eq 8, 3) := by decide +kernel
theorem dX11_replace_221 : decode cX11_replace 221 = .ok (.iload 8, 2) := by decide +kernel
theorem dX11_replace_223 : decode cX11_replace 223 = .ok (.goto 4, 3) := by decide +kernel
theorem dX11_replace_226 : decode cX11_replace 226 = .ok (.iconst 0, 1) := by decide +kernel
theorem dX11_replace_227 : decode cX11_replace 227 = .ok (.iadd, 1) := by decide +kernel
theorem dX11_replace_228 : decode cX11_replace 228 = .ok (.istore 6, 2) := by decide +kernel
theorem dX11_replace_230 : decode cX11_replace 230 = .ok (.goto (-190), 3) := by decide +kernel
theorem dX11_replace_233 : decode cX11_replace 233 = .ok (.iload 4, 2) := by decide +kernel
theorem dX11_replace_235 : decode cX11_replace 235 = .ok (.sipush 1500, 3) := by decide +kernel
theorem dX11_replace_238 : decode cX11_replace 238 = .ok (.if_icmp .le 6, 3) := by decide +kernel
theorem dX11_replace_241 : decode cX11_replace 241 = .ok (.bipush (-3), 2) := by decide +kernel
theorem dX11_replace_243 : decode cX11_replace 243 = .ok (.ireturn, 1) := by decide +kernel
theorem dX11_replace_244 : decode cX11_replace 244 = .ok (.aload_n 0, 1) := by decide +kernel
theorem dX11_replace_245 : decode cX11_replace 245 = .ok (.invokevirtual 165, 3) := by decide +kernel
theorem dX11_replace_248 : decode cX11_replace 248 = .ok (.iconst 0, 1) := by decide +kernel
theorem dX11_replace_249 : decode cX11_replace 249 = .ok (.istore 8, 2) := by decide +kernel
theorem dX11_replace_251 : decode cX11_replace 251 = .ok (.iload 8, 2) := by decide +kernel
theorem dX11_replace_253 : decode cX11_replace 253 = .ok (.iload 4, 2) := by decide +kernel
theorem dX11_replace_255 : decode cX11_replace 255 = .ok (.if_icmp .ge 23, 3) := by decide +kernel
theorem dX11_replace_258 : decode cX11_replace 258 = .ok (.aload_n 0, 1) := by decide +kernel
theorem dX11_replace_259 : decode cX11_replace 259 = .ok (.getfield 13, 3) := by decide +kernel
theorem dX11_replace_262 : decode cX11_replace 262 = .ok (.iload 8, 2) := by decide +kernel
theorem dX11_replace_264 : decode cX11_replace 264 = .ok (.aload_n 0, 1) := by decide +kernel
theorem dX11_replace_265 : decode cX11_replace 265 = .ok (.getfield 97, 3) := by decide +kernel
theorem dX11_replace_268 : decode cX11_replace 268 = .ok (.iload 8, 2) := by decide +kernel
theorem dX11_replace_270 : decode cX11_replace 270 = .ok (.iaload, 1) := by decide +kernel
theorem dX11_replace_271 : decode cX11_replace 271 = .ok (.iastore, 1) := by decide +kernel
theorem dX11_replace_272 : decode cX11_replace 272 = .ok (.iinc 8 1, 3) := by decide +kernel
theorem dX11_replace_275 : decode cX11_replace 275 = .ok (.goto (-24), 3) := by decide +kernel
theorem dX11_replace_278 : decode cX11_replace 278 = .ok (.aload_n 0, 1) := by decide +kernel
theorem dX11_replace_279 : decode cX11_replace 279 = .ok (.iload 4, 2) := by decide +kernel
theorem dX11_replace_281 : decode cX11_replace 281 = .ok (.putfield 162, 3) := by decide +kernel
theorem dX11_replace_284 : decode cX11_replace 284 = .ok (.aload_n 0, 1) := by decide +kernel
theorem dX11_replace_285 : decode cX11_replace 285 = .ok (.iconst 0, 1) := by decide +kernel
theorem dX11_replace_286 : decode cX11_replace 286 = .ok (.putfield 110, 3) := by decide +kernel
theorem dX11_replace_289 : decode cX11_replace 289 = .ok (.iload 5, 2) := by decide +kernel
theorem dX11_replace_291 : decode cX11_replace 291 = .ok (.ireturn, 1) := by decide +kernel
theorem dX11_whole_0 : decode cX11_whole 0 = .ok (.aload_n 0, 1) := by decide +kernel
theorem dX11_whole_1 : decode cX11_whole 1 = .ok (.iload_n 1, 1) := by decide +kernel
theorem dX11_whole_2 : decode cX11_whole 2 = .ok (.invokevirtual 156, 3) := by decide +kernel
theorem dX11_whole_5 : decode cX11_whole 5 = .ok (.ifCond .eq 24, 3) := by decide +kernel
theorem dX11_whole_8 : decode cX11_whole 8 = .ok (.aload_n 0, 1) := by decide +kernel
theorem dX11_whole_9 : decode cX11_whole 9 = .ok (.iload_n 2, 1) := by decide +kernel
theorem dX11_whole_10 : decode cX11_whole 10 = .ok (.iload_n 3, 1) := by decide +kernel
theorem dX11_whole_11 : decode cX11_whole 11 = .ok (.invokevirtual 168, 3) := by decide +kernel
theorem dX11_whole_14 : decode cX11_whole 14 = .ok (.ifCond .eq 15, 3) := by decide +kernel
theorem dX11_whole_17 : decode cX11_whole 17 = .ok (.iload 5, 2) := by decide +kernel
theorem dX11_whole_19 : decode cX11_whole 19 = .ok (.iconst 0, 1) := by decide +kernel
theorem dX11_whole_20 : decode cX11_whole 20 = .ok (.sipush 2000, 3) := by decide +kernel
theorem dX11_whole_23 : decode cX11_whole 23 = .ok (.invokestatic 100, 3) := by decide +kernel
theorem dX11_whole_26 : decode cX11_whole 26 = .ok (.ifCond .ne 6, 3) := by decide +kernel
theorem dX11_whole_29 : decode cX11_whole 29 = .ok (.bipush (-2), 2) := by decide +kernel
theorem dX11_whole_31 : decode cX11_whole 31 = .ok (.ireturn, 1) := by decide +kernel
theorem dX11_whole_32 : decode cX11_whole 32 = .ok (.aload_n 0, 1) := by decide +kernel
theorem dX11_whole_33 : decode cX11_whole 33 = .ok (.iload_n 1, 1) := by decide +kernel
theorem dX11_whole_34 : decode cX11_whole 34 = .ok (.invokevirtual 199, 3) := by decide +kernel
theorem dX11_whole_37 : decode cX11_whole 37 = .ok (.aload_n 0, 1) := by decide +kernel
theorem dX11_whole_38 : decode cX11_whole 38 = .ok (.iload_n 2, 1) := by decide +kernel
theorem dX11_whole_39 : decode cX11_whole 39 = .ok (.iload_n 3, 1) := by decide +kernel
theorem dX11_whole_40 : decode cX11_whole 40 = .ok (.invokevirtual 202, 3) := by decide +kernel
theorem dX11_whole_43 : decode cX11_whole 43 = .ok (.aload_n 0, 1) := by decide +kernel
theorem dX11_whole_44 : decode cX11_whole 44 = .ok (.iload 4, 2) := by decide +kernel
theorem dX11_whole_46 : decode cX11_whole 46 = .ok (.putfield 185, 3) := by decide +kernel
theorem dX11_whole_49 : decode cX11_whole 49 = .ok (.aload_n 0, 1) := by decide +kernel
theorem dX11_whole_50 : decode cX11_whole 50 = .ok (.invokevirtual 227, 3) := by decide +kernel
theorem dX11_whole_53 : decode cX11_whole 53 = .ok (.istore 6, 2) := by decide +kernel
theorem dX11_whole_55 : decode cX11_whole 55 = .ok (.iload 6, 2) := by decide +kernel
theorem dX11_whole_57 : decode cX11_whole 57 = .ok (.iload 5, 2) := by decide +kernel
theorem dX11_whole_59 : decode cX11_whole 59 = .ok (.if_icmp .le 8, 3) := by decide +kernel
theorem dX11_whole_62 : decode cX11_whole 62 = .ok (.bipush (-4), 2) := by decide +kernel
theorem dX11_whole_64 : decode cX11_whole 64 = .ok (.goto 5, 3) := by decide +kernel
theorem dX11_whole_67 : decode cX11_whole 67 = .ok (.iload 6, 2) := by decide +kernel
theorem dX11_whole_69 : decode cX11_whole 69 = .ok (.ireturn, 1) := by decide +kernel
theorem dX11_which_0 : decode cX11_which 0 = .ok (.aload_n 0, 1) := by decide +kernel
theorem dX11_which_1 : decode cX11_which 1 = .ok (.iload_n 1, 1) := by decide +kernel
theorem dX11_which_2 : decode cX11_which 2 = .ok (.iload_n 2, 1) := by decide +kernel
theorem dX11_which_3 : decode cX11_which 3 = .ok (.invokevirtual 168, 3) := by decide +kernel
theorem dX11_which_6 : decode cX11_which 6 = .ok (.ifCond .ne 6, 3) := by decide +kernel
theorem dX11_which_9 : decode cX11_which 9 = .ok (.bipush (-2), 2) := by decide +kernel
theorem dX11_which_11 : decode cX11_which 11 = .ok (.ireturn, 1) := by decide +kernel
theorem dX11_which_12 : decode cX11_which 12 = .ok (.iconst (-1), 1) := by decide +kernel
theorem dX11_which_13 : decode cX11_which 13 = .ok (.istore 4, 2) := by decide +kernel
theorem dX11_which_15 : decode cX11_which 15 = .ok (.iconst 0, 1) := by decide +kernel
theorem dX11_which_16 : decode cX11_which 16 = .ok (.istore 5, 2) := by decide +kernel
theorem dX11_which_18 : decode cX11_which 18 = .ok (.iconst 0, 1) := by decide +kernel
theorem dX11_which_19 : decode cX11_which 19 = .ok (.istore 6, 2) := by decide +kernel
theorem dX11_which_21 : decode cX11_which 21 = .ok (.iload 6, 2) := by decide +kernel
theorem dX11_which_23 : decode cX11_which 23 = .ok (.bipush 8, 2) := by decide +kernel
theorem dX11_which_25 : decode cX11_which 25 = .ok (.if_icmp .ge 62, 3) := by decide +kernel
theorem dX11_which_28 : decode cX11_which 28 = .ok (.aload_n 0, 1) := by decide +kernel
theorem dX11_which_29 : decode cX11_which 29 = .ok (.getfield 29, 3) := by decide +kernel
theorem dX11_which_32 : decode cX11_which 32 = .ok (.iload 6, 2) := by decide +kernel
theorem dX11_which_34 : decode cX11_which 34 = .ok (.iaload, 1) := by decide +kernel
theorem dX11_which_35 : decode cX11_which 35 = .ok (.ifCond .le 46, 3) := by decide +kernel
theorem dX11_which_38 : decode cX11_which 38 = .ok (.aload_n 0, 1) := by decide +kernel
theorem dX11_which_39 : decode cX11_which 39 = .ok (.iload 6, 2) := by decide +kernel
theorem dX11_which_41 : decode cX11_which 41 = .ok (.invokevirtual 199, 3) := by decide +kernel
theorem dX11_which_44 : decode cX11_which 44 = .ok (.aload_n 0, 1) := by decide +kernel
theorem dX11_which_45 : decode cX11_which 45 = .ok (.iload_n 1, 1) := by decide +kernel
theorem dX11_which_46 : decode cX11_which 46 = .ok (.iload_n 2, 1) := by decide +kernel
theorem dX11_which_47 : decode cX11_which 47 = .ok (.invokevirtual 202, 3) := by decide +kernel
theorem dX11_which_50 : decode cX11_which 50 = .ok (.aload_n 0, 1) := by decide +kernel
theorem dX11_which_51 : decode cX11_which 51 = .ok (.iload_n 3, 1) := by decide +kernel
theorem dX11_which_52 : decode cX11_which 52 = .ok (.putfield 185, 3) := by decide +kernel
theorem dX11_which_55 : decode cX11_which 55 = .ok (.aload_n 0, 1) := by decide +kernel
theorem dX11_which_56 : decode cX11_which 56 = .ok (.invokevirtual 227, 3) := by decide +kernel
theorem dX11_which_59 : decode cX11_which 59 = .ok (.istore 7, 2) := by decide +kernel
theorem dX11_which_61 : decode cX11_which 61 = .ok (.iload 4, 2) := by decide +kernel
theorem dX11_which_63 : decode cX11_which 63 = .ok (.ifCond .lt 10, 3) := by decide +kernel
theorem dX11_which_66 : decode cX11_which 66 = .ok (.iload 7, 2) := by decide +kernel
theorem dX11_which_68 : decode cX11_which 68 = .ok (.iload 5, 2) := by decide +kernel
theorem dX11_which_70 : decode cX11_which 70 = .ok (.if_icmp .ge 11, 3) := by decide +kernel
theorem dX11_which_73 : decode cX11_which 73 = .ok (.iload 6, 2) := by decide +kernel
theorem dX11_which_75 : decode cX11_which 75 = .ok (.istore 4, 2) := by decide +kernel
theorem dX11_which_77 : decode cX11_which 77 = .ok (.iload 7, 2) := by decide +kernel
theorem dX11_which_79 : decode cX11_which 79 = .ok (.istore 5, 2) := by decide +kernel
theorem dX11_which_81 : decode cX11_which 81 = .ok (.iinc 6 1, 3) := by decide +kernel
theorem dX11_which_84 : decode cX11_which 84 = .ok (.goto (-63), 3) := by decide +kernel
theorem dX11_which_87 : decode cX11_which 87 = .ok (.iload 4, 2) := by decide +kernel
theorem dX11_which_89 : decode cX11_which 89 = .ok (.ireturn, 1) := by decide +kernel
theorem dX11_apart_0 : decode cX11_apart 0 = .ok (.aload_n 0, 1) := by decide +kernel
theorem dX11_apart_1 : decode cX11_apart 1 = .ok (.iload_n 1, 1) := by decide +kernel
theorem dX11_apart_2 : decode cX11_apart 2 = .ok (.iload_n 2, 1) := by decide +kernel
theorem dX11_apart_3 : decode cX11_apart 3 = .ok (.invokevirtual 168, 3) := by decide +kernel
theorem dX11_apart_6 : decode cX11_apart 6 = .ok (.ifCond .eq 25, 3) := by decide +kernel
theorem dX11_apart_9 : decode cX11_apart 9 = .ok (.aload_n 0, 1) := by decide +kernel
theorem dX11_apart_10 : decode cX11_apart 10 = .ok (.iload_n 3, 1) := by decide +kernel
theorem dX11_apart_11 : decode cX11_apart 11 = .ok (.iload 4, 2) := by decide +kernel
theorem dX11_apart_13 : decode cX11_apart 13 = .ok (.invokevirtual 168, 3) := by decide +kernel
theorem dX11_apart_16 : decode cX11_apart 16 = .ok (.ifCond .eq 15, 3) := by decide +kernel
theorem dX11_apart_19 : decode cX11_apart 19 = .ok (.iload 6, 2) := by decide +kernel
theorem dX11_apart_21 : decode cX11_apart 21 = .ok (.iconst 0, 1) := by decide +kernel
theorem dX11_apart_22 : decode cX11_apart 22 = .ok (.sipush 2000, 3) := by decide +kernel
theorem dX11_apart_25 : decode cX11_apart 25 = .ok (.invokestatic 100, 3) := by decide +kernel
theorem dX11_apart_28 : decode cX11_apart 28 = .ok (.ifCond .ne 6, 3) := by decide +kernel
theorem dX11_apart_31 : decode cX11_apart 31 = .ok (.bipush (-2), 2) := by decide +kernel
theorem dX11_apart_33 : decode cX11_apart 33 = .ok (.ireturn, 1) := by decide +kernel
theorem dX11_apart_34 : decode cX11_apart 34 = .ok (.aload_n 0, 1) := by decide +kernel
theorem dX11_apart_35 : decode cX11_apart 35 = .ok (.iload_n 2, 1) := by decide +kernel
theorem dX11_apart_36 : decode cX11_apart 36 = .ok (.iload_n 1, 1) := by decide +kernel
theorem dX11_apart_37 : decode cX11_apart 37 = .ok (.isub, 1) := by decide +kernel
theorem dX11_apart_38 : decode cX11_apart 38 = .ok (.putfield 172, 3) := by decide +kernel
theorem dX11_apart_41 : decode cX11_apart 41 = .ok (.iconst 0, 1) := by decide +kernel
theorem dX11_apart_42 : decode cX11_apart 42 = .ok (.istore 7, 2) := by decide +kernel
theorem dX11_apart_44 : decode cX11_apart 44 = .ok (.iload 7, 2) := by decide +kernel
theorem dX11_apart_46 : decode cX11_apart 46 = .ok (.aload_n 0, 1) := by decide +kernel
theorem dX11_apart_47 : decode cX11_apart 47 = .ok (.getfield 172, 3) := by decide +kernel
theorem dX11_apart_50 : decode cX11_apart 50 = .ok (.if_icmp .ge 67, 3) := by decide +kernel
theorem dX11_apart_53 : decode cX11_apart 53 = .ok (.aload_n 0, 1) := by decide +kernel
theorem dX11_apart_54 : decode cX11_apart 54 = .ok (.getfield 13, 3) := by decide +kernel
theorem dX11_apart_57 : decode cX11_apart 57 = .ok (.iload_n 1, 1) := by decide +kernel
theorem dX11_apart_58 : decode cX11_apart 58 = .ok (.iload 7, 2) := by decide +kernel
theorem dX11_apart_60 : decode cX11_apart 60 = .ok (.iadd, 1) := by decide +kernel
theorem dX11_apart_61 : decode cX11_apart 61 = .ok (.iaload, 1) := by decide +kernel
theorem dX11_apart_62 : decode cX11_apart 62 = .ok (.istore 8, 2) := by decide +kernel
theorem dX11_apart_64 : decode cX11_apart 64 = .ok (.aload_n 0, 1) := by decide +kernel
theorem dX11_apart_65 : decode cX11_apart 65 = .ok (.getfield 42, 3) := by decide +kernel
theorem dX11_apart_68 : decode cX11_apart 68 = .ok (.iload 7, 2) := by decide +kernel
theorem dX11_apart_70 : decode cX11_apart 70 = .ok (.iload 8, 2) := by decide +kernel
theorem dX11_apart_72 : decode cX11_apart 72 = .ok (.bipush 64, 2) := by decide +kernel
theorem dX11_apart_74 : decode cX11_apart 74 = .ok (.if_icmp .ge 10, 3) := by decide +kernel
theorem dX11_apart_77 : decode cX11_apart 77 = .ok (.lconst 1, 1) := by decide +kernel
theorem dX11_apart_78 : decode cX11_apart 78 = .ok (.iload 8, 2) := by decide +kernel
theorem dX11_apart_80 : decode cX11_apart 80 = .ok (.lshl, 1) := by decide +kernel
theorem dX11_apart_81 : decode cX11_apart 81 = .ok (.goto 4, 3) := by decide +kernel
theorem dX11_apart_84 : decode cX11_apart 84 = .ok (.lconst 0, 1) := by decide +kernel
theorem dX11_apart_85 : decode cX11_apart 85 = .ok (.lastore, 1) := by decide +kernel
theorem dX11_apart_86 : decode cX11_apart 86 = .ok (.aload_n 0, 1) := by decide +kernel
theorem dX11_apart_87 : decode cX11_apart 87 = .ok (.getfield 45, 3) := by decide +kernel
theorem dX11_apart_90 : decode cX11_apart 90 = .ok (.iload 7, 2) := by decide +kernel
theorem dX11_apart_92 : decode cX11_apart 92 = .ok (.iload 8, 2) := by decide +kernel
theorem dX11_apart_94 : decode cX11_apart 94 = .ok (.bipush 64, 2) := by decide +kernel
theorem dX11_apart_96 : decode cX11_apart 96 = .ok (.if_icmp .ge 7, 3) := by decide +kernel
theorem dX11_apart_99 : decode cX11_apart 99 = .ok (.lconst 0, 1) := by decide +kernel
theorem dX11_apart_100 : decode cX11_apart 100 = .ok (.goto 10, 3) := by decide +kernel
theorem dX11_apart_103 : decode cX11_apart 103 = .ok (.lconst 1, 1) := by decide +kernel
theorem dX11_apart_104 : decode cX11_apart 104 = .ok (.iload 8, 2) := by decide +kernel
theorem dX11_apart_106 : decode cX11_apart 106 = .ok (.bipush 64, 2) := by decide +kernel
theorem dX11_apart_108 : decode cX11_apart 108 = .ok (.isub, 1) := by decide +kernel
theorem dX11_apart_109 : decode cX11_apart 109 = .ok (.lshl, 1) := by decide +kernel
theorem dX11_apart_110 : decode cX11_apart 110 = .ok (.lastore, 1) := by decide +kernel
theorem dX11_apart_111 : decode cX11_apart 111 = .ok (.iinc 7 1, 3) := by decide +kernel
theorem dX11_apart_114 : decode cX11_apart 114 = .ok (.goto (-70), 3) := by decide +kernel
theorem dX11_apart_117 : decode cX11_apart 117 = .ok (.aload_n 0, 1) := by decide +kernel
theorem dX11_apart_118 : decode cX11_apart 118 = .ok (.iload_n 3, 1) := by decide +kernel
theorem dX11_apart_119 : decode cX11_apart 119 = .ok (.iload 4, 2) := by decide +kernel
theorem dX11_apart_121 : decode cX11_apart 121 = .ok (.invokevirtual 202, 3) := by decide +kernel
theorem dX11_apart_124 : decode cX11_apart 124 = .ok (.aload_n 0, 1) := by decide +kernel
theorem dX11_apart_125 : decode cX11_apart 125 = .ok (.iload 5, 2) := by decide +kernel
theorem dX11_apart_127 : decode cX11_apart 127 = .ok (.putfield 185, 3) := by decide +kernel
theorem dX11_apart_130 : decode cX11_apart 130 = .ok (.aload_n 0, 1) := by decide +kernel
theorem dX11_apart_131 : decode cX11_apart 131 = .ok (.invokevirtual 227, 3) := by decide +kernel
theorem dX11_apart_134 : decode cX11_apart 134 = .ok (.istore 7, 2) := by decide +kernel
theorem dX11_apart_136 : decode cX11_apart 136 = .ok (.iload 7, 2) := by decide +kernel
theorem dX11_apart_138 : decode cX11_apart 138 = .ok (.iload 6, 2) := by decide +kernel
theorem dX11_apart_140 : decode cX11_apart 140 = .ok (.if_icmp .le 8, 3) := by decide +kernel
theorem dX11_apart_143 : decode cX11_apart 143 = .ok (.bipush (-4), 2) := by decide +kernel
theorem dX11_apart_145 : decode cX11_apart 145 = .ok (.goto 5, 3) := by decide +kernel
theorem dX11_apart_148 : decode cX11_apart 148 = .ok (.iload 7, 2) := by decide +kernel
theorem dX11_apart_150 : decode cX11_apart 150 = .ok (.ireturn, 1) := by decide +kernel
theorem dL_law_0 : decode cL_law 0 = .ok (.new 7, 3) := by decide +kernel
theorem dL_law_3 : decode cL_law 3 = .ok (.dup, 1) := by decide +kernel
theorem dL_law_4 : decode cL_law 4 = .ok (.invokespecial 9, 3) := by decide +kernel
theorem dL_law_7 : decode cL_law 7 = .ok (.astore_n 1, 1) := by decide +kernel
theorem dL_law_8 : decode cL_law 8 = .ok (.new 10, 3) := by decide +kernel
theorem dL_law_11 : decode cL_law 11 = .ok (.dup, 1) := by decide +kernel
theorem dL_law_12 : decode cL_law 12 = .ok (.invokespecial 12, 3) := by decide +kernel
theorem dL_law_15 : decode cL_law 15 = .ok (.astore_n 2, 1) := by decide +kernel
theorem dL_law_16 : decode cL_law 16 = .ok (.iconst 0, 1) := by decide +kernel
theorem dL_law_17 : decode cL_law 17 = .ok (.istore_n 3, 1) := by decide +kernel
theorem dL_law_18 : decode cL_law 18 = .ok (.iload_n 3, 1) := by decide +kernel
theorem dL_law_19 : decode cL_law 19 = .ok (.aload_n 0, 1) := by decide +kernel
theorem dL_law_20 : decode cL_law 20 = .ok (.arraylength, 1) := by decide +kernel
theorem dL_law_21 : decode cL_law 21 = .ok (.bipush 7, 2) := by decide +kernel
theorem dL_law_23 : decode cL_law 23 = .ok (.isub, 1) := by decide +kernel
theorem dL_law_24 : decode cL_law 24 = .ok (.if_icmp .gt 907, 3) := by decide +kernel
theorem dL_law_27 : decode cL_law 27 = .ok (.aload_n 0, 1) := by decide +kernel
theorem dL_law_28 : decode cL_law 28 = .ok (.iload_n 3, 1) := by decide +kernel
theorem dL_law_29 : decode cL_law 29 = .ok (.iaload, 1) := by decide +kernel
theorem dL_law_30 : decode cL_law 30 = .ok (.bipush 31, 2) := by decide +kernel
theorem dL_law_32 : decode cL_law 32 = .ok (.iand, 1) := by decide +kernel
theorem dL_law_33 : decode cL_law 33 = .ok (.tableswitch 892 0 18 #[91, 154, 177, 190, 233, 256, 289, 302, 325, 338, 397, 430, 463, 522, 581, 604, 663, 742, 801], 91) := by decide +kernel
theorem dL_law_124 : decode cL_law 124 = .ok (.aload_n 1, 1) := by decide +kernel
theorem dL_law_125 : decode cL_law 125 = .ok (.aload_n 0, 1) := by decide +kernel
theorem dL_law_126 : decode cL_law 126 = .ok (.iload_n 3, 1) := by decide +kernel
theorem dL_law_127 : decode cL_law 127 = .ok (.iconst 1, 1) := by decide +kernel
theorem dL_law_128 : decode cL_law 128 = .ok (.iadd, 1) := by decide +kernel
theorem dL_law_129 : decode cL_law 129 = .ok (.iaload, 1) := by decide +kernel
theorem dL_law_130 : decode cL_law 130 = .ok (.i2l, 1) := by decide +kernel
theorem dL_law_131 : decode cL_law 131 = .ok (.bipush 32, 2) := by decide +kernel
theorem dL_law_133 : decode cL_law 133 = .ok (.lshl, 1) := by decide +kernel
theorem dL_law_134 : decode cL_law 134 = .ok (.aload_n 0, 1) := by decide +kernel
theorem dL_law_135 : decode cL_law 135 = .ok (.iload_n 3, 1) := by decide +kernel
theorem dL_law_136 : decode cL_law 136 = .ok (.iconst 2, 1) := by decide +kernel
theorem dL_law_137 : decode cL_law 137 = .ok (.iadd, 1) := by decide +kernel
theorem dL_law_138 : decode cL_law 138 = .ok (.iaload, 1) := by decide +kernel
theorem dL_law_139 : decode cL_law 139 = .ok (.i2l, 1) := by decide +kernel
theorem dL_law_140 : decode cL_law 140 = .ok (.ldc2_w 13, 3) := by decide +kernel
theorem dL_law_143 : decode cL_law 143 = .ok (.land, 1) := by decide +kernel
theorem dL_law_144 : decode cL_law 144 = .ok (.lor, 1) := by decide +kernel
theorem dL_law_145 : decode cL_law 145 = .ok (.aload_n 0, 1) := by decide +kernel
theorem dL_law_146 : decode cL_law 146 = .ok (.iload_n 3, 1) := by decide +kernel
theorem dL_law_147 : decode cL_law 147 = .ok (.iconst 3, 1) := by decide +kernel
theorem dL_law_148 : decode cL_law 148 = .ok (.iadd, 1) := by decide +kernel
theorem dL_law_149 : decode cL_law 149 = .ok (.iaload, 1) := by decide +kernel
theorem dL_law_150 : decode cL_law 150 = .ok (.invokevirtual 15, 3) := by decide +kernel
theorem dL_law_153 : decode cL_law 153 = .ok (.aload_n 2, 1) := by decide +kernel
theorem dL_law_154 : decode cL_law 154 = .ok (.aload_n 0, 1) := by decide +kernel
theorem dL_law_155 : decode cL_law 155 = .ok (.iload_n 3, 1) := by decide +kernel
theorem dL_law_156 : decode cL_law 156 = .ok (.iconst 1, 1) := by decide +kernel
theorem dL_law_157 : decode cL_law 157 = .ok (.iadd, 1) := by decide +kernel
theorem dL_law_158 : decode cL_law 158 = .ok (.iaload, 1) := by decide +kernel
theorem dL_law_159 : decode cL_law 159 = .ok (.i2l, 1) := by decide +kernel
theorem dL_law_160 : decode cL_law 160 = .ok (.bipush 32, 2) := by decide +kernel
theorem dL_law_162 : decode cL_law 162 = .ok (.lshl, 1) := by decide +kernel
theorem dL_law_163 : decode cL_law 163 = .ok (.aload_n 0, 1) := by decide +kernel
theorem dL_law_164 : decode cL_law 164 = .ok (.iload_n 3, 1) := by decide +kernel
theorem dL_law_165 : decode cL_law 165 = .ok (.iconst 2, 1) := by decide +kernel
theorem dL_law_166 : decode cL_law 166 = .ok (.iadd, 1) := by decide +kernel
theorem dL_law_167 : decode cL_law 167 = .ok (.iaload, 1) := by decide +kernel
theorem dL_law_168 : decode cL_law 168 = .ok (.i2l, 1) := by decide +kernel
theorem dL_law_169 : decode cL_law 169 = .ok (.ldc2_w 13, 3) := by decide +kernel
theorem dL_law_172 : decode cL_law 172 = .ok (.land, 1) := by decide +kernel
theorem dL_law_173 : decode cL_law 173 = .ok (.lor, 1) := by decide +kernel
theorem dL_law_174 : decode cL_law 174 = .ok (.aload_n 0, 1) := by decide +kernel
theorem dL_law_175 : decode cL_law 175 = .ok (.iload_n 3, 1) := by decide +kernel
theorem dL_law_176 : decode cL_law 176 = .ok (.iconst 3, 1) := by decide +kernel
theorem dL_law_177 : decode cL_law 177 = .ok (.iadd, 1) := by decide +kernel
theorem dL_law_178 : decode cL_law 178 = .ok (.iaload, 1) := by decide +kernel
theorem dL_law_179 : decode cL_law 179 = .ok (.invokevirtual 19, 3) := by decide +kernel
theorem dL_law_182 : decode cL_law 182 = .ok (.if_icmp .eq 743, 3) := by decide +kernel
theorem dL_law_185 : decode cL_law 185 = .ok (.iconst 0, 1) := by decide +kernel
theorem dL_law_186 : decode cL_law 186 = .ok (.ireturn, 1) := by decide +kernel
theorem dL_law_187 : decode cL_law 187 = .ok (.aload_n 1, 1) := by decide +kernel
theorem dL_law_188 : decode cL_law 188 = .ok (.aload_n 0, 1) := by decide +kernel
theorem dL_law_189 : decode cL_law 189 = .ok (.iload_n 3, 1) := by decide +kernel
theorem dL_law_190 : decode cL_law 190 = .ok (.iconst 1, 1) := by decide +kernel
theorem dL_law_191 : decode cL_law 191 = .ok (.iadd, 1) := by decide +kernel
theorem dL_law_192 : decode cL_law 192 = .ok (.iaload, 1) := by decide +kernel
theorem dL_law_193 : decode cL_law 193 = .ok (.invokevirtual 20, 3) := by decide +kernel
theorem dL_law_196 : decode cL_law 196 = .ok (.aload_n 2, 1) := by decide +kernel
theorem dL_law_197 : decode cL_law 197 = .ok (.aload_n 0, 1) := by decide +kernel
theorem dL_law_198 : decode cL_law 198 = .ok (.iload_n 3, 1) := by decide +kernel
theorem dL_law_199 : decode cL_law 199 = .ok (.iconst 1, 1) := by decide +kernel
theorem dL_law_200 : decode cL_law 200 = .ok (.iadd, 1) := by decide +kernel
theorem dL_law_201 : decode cL_law 201 = .ok (.iaload, 1) := by decide +kernel
theorem dL_law_202 : decode cL_law 202 = .ok (.invokevirtual 24, 3) := by decide +kernel
theorem dL_law_205 : decode cL_law 205 = .ok (.if_icmp .eq 720, 3) := by decide +kernel
theorem dL_law_208 : decode cL_law 208 = .ok (.iconst 0, 1) := by decide +kernel
theorem dL_law_209 : decode cL_law 209 = .ok (.ireturn, 1) := by decide +kernel
theorem dL_law_210 : decode cL_law 210 = .ok (.aload_n 1, 1) := by decide +kernel
theorem dL_law_211 : decode cL_law 211 = .ok (.invokevirtual 25, 3) := by decide +kernel
theorem dL_law_214 : decode cL_law 214 = .ok (.aload_n 2, 1) := by decide +kernel
theorem dL_law_215 : decode cL_law 215 = .ok (.invokevirtual 29, 3) := by decide +kernel
theorem dL_law_218 : decode cL_law 218 = .ok (.if_icmp .eq 707, 3) := by decide +kernel
theorem dL_law_221 : decode cL_law 221 = .ok (.iconst 0, 1) := by decide +kernel
theorem dL_law_222 : decode cL_law 222 = .ok (.ireturn, 1) := by decide +kernel
theorem dL_law_223 : decode cL_law 223 = .ok (.aload_n 1, 1) := by decide +kernel
theorem dL_law_224 : decode cL_law 224 = .ok (.aload_n 0, 1) := by decide +kernel
theorem dL_law_225 : decode cL_law 225 = .ok (.iload_n 3, 1) := by decide +kernel
theorem dL_law_226 : decode cL_law 226 = .ok (.iconst 1, 1) := by decide +kernel
theorem dL_law_227 : decode cL_law 227 = .ok (.iadd, 1) := by decide +kernel
theorem dL_law_228 : decode cL_law 228 = .ok (.iaload, 1) := by decide +kernel
theorem dL_law_229 : decode cL_law 229 = .ok (.aload_n 0, 1) := by decide +kernel
theorem dL_law_230 : decode cL_law 230 = .ok (.iload_n 3, 1) := by decide +kernel
theorem dL_law_231 : decode cL_law 231 = .ok (.iconst 2, 1) := by decide +kernel
theorem dL_law_232 : decode cL_law 232 = .ok (.iadd, 1) := by decide +kernel
theorem dL_law_233 : decode cL_law 233 = .ok (.iaload, 1) := by decide +kernel
theorem dL_law_234 : decode cL_law 234 = .ok (.aload_n 0, 1) := by decide +kernel
theorem dL_law_235 : decode cL_law 235 = .ok (.iload_n 3, 1) := by decide +kernel
theorem dL_law_236 : decode cL_law 236 = .ok (.iconst 3, 1) := by decide +kernel
theorem dL_law_237 : decode cL_law 237 = .ok (.iadd, 1) := by decide +kernel
theorem dL_law_238 : decode cL_law 238 = .ok (.iaload, 1) := by decide +kernel
theorem dL_law_239 : decode cL_law 239 = .ok (.invokevirtual 30, 3) := by decide +kernel
theorem dL_law_242 : decode cL_law 242 = .ok (.aload_n 2, 1) := by decide +kernel
theorem dL_law_243 : decode cL_law 243 = .ok (.aload_n 0, 1) := by decide +kernel
theorem dL_law_244 : decode cL_law 244 = .ok (.iload_n 3, 1) := by decide +kernel
theorem dL_law_245 : decode cL_law 245 = .ok (.iconst 1, 1) := by decide +kernel
theorem dL_law_246 : decode cL_law 246 = .ok (.iadd, 1) := by decide +kernel
theorem dL_law_247 : decode cL_law 247 = .ok (.iaload, 1) := by decide +kernel
theorem dL_law_248 : decode cL_law 248 = .ok (.aload_n 0, 1) := by decide +kernel
theorem dL_law_249 : decode cL_law 249 = .ok (.iload_n 3, 1) := by decide +kernel
theorem dL_law_250 : decode cL_law 250 = .ok (.iconst 2, 1) := by decide +kernel
theorem dL_law_251 : decode cL_law 251 = .ok (.iadd, 1) := by decide +kernel
theorem dL_law_252 : decode cL_law 252 = .ok (.iaload, 1) := by decide +kernel
theorem dL_law_253 : decode cL_law 253 = .ok (.aload_n 0, 1) := by decide +kernel
theorem dL_law_254 : decode cL_law 254 = .ok (.iload_n 3, 1) := by decide +kernel
theorem dL_law_255 : decode cL_law 255 = .ok (.iconst 3, 1) := by decide +kernel
theorem dL_law_256 : decode cL_law 256 = .ok (.iadd, 1) := by decide +kernel
theorem dL_law_257 : decode cL_law 257 = .ok (.iaload, 1) := by decide +kernel
theorem dL_law_258 : decode cL_law 258 = .ok (.invokevirtual 34, 3) := by decide +kernel
theorem dL_law_261 : decode cL_law 261 = .ok (.if_icmp .eq 664, 3) := by decide +kernel
theorem dL_law_264 : decode cL_law 264 = .ok (.iconst 0, 1) := by decide +kernel
theorem dL_law_265 : decode cL_law 265 = .ok (.ireturn, 1) := by decide +kernel
theorem dL_law_266 : decode cL_law 266 = .ok (.aload_n 1, 1) := by decide +kernel
theorem dL_law_267 : decode cL_law 267 = .ok (.aload_n 0, 1) := by decide +kernel
theorem dL_law_268 : decode cL_law 268 = .ok (.iload_n 3, 1) := by decide +kernel
theorem dL_law_269 : decode cL_law 269 = .ok (.iconst 1, 1) := by decide +kernel
theorem dL_law_270 : decode cL_law 270 = .ok (.iadd, 1) := by decide +kernel
theorem dL_law_271 : decode cL_law 271 = .ok (.iaload, 1) := by decide +kernel
theorem dL_law_272 : decode cL_law 272 = .ok (.invokevirtual 35, 3) := by decide +kernel
theorem dL_law_275 : decode cL_law 275 = .ok (.aload_n 2, 1) := by decide +kernel
theorem dL_law_276 : decode cL_law 276 = .ok (.aload_n 0, 1) := by decide +kernel
theorem dL_law_277 : decode cL_law 277 = .ok (.iload_n 3, 1) := by decide +kernel
theorem dL_law_278 : decode cL_law 278 = .ok (.iconst 1, 1) := by decide +kernel
theorem dL_law_279 : decode cL_law 279 = .ok (.iadd, 1) := by decide +kernel
theorem dL_law_280 : decode cL_law 280 = .ok (.iaload, 1) := by decide +kernel
theorem dL_law_281 : decode cL_law 281 = .ok (.invokevirtual 38, 3) := by decide +kernel
theorem dL_law_284 : decode cL_law 284 = .ok (.if_icmp .eq 641, 3) := by decide +kernel
theorem dL_law_287 : decode cL_law 287 = .ok (.iconst 0, 1) := by decide +kernel
theorem dL_law_288 : decode cL_law 288 = .ok (.ireturn, 1) := by decide +kernel
theorem dL_law_289 : decode cL_law 289 = .ok (.aload_n 1, 1) := by decide +kernel
theorem dL_law_290 : decode cL_law 290 = .ok (.aload_n 0, 1) := by decide +kernel
theorem dL_law_291 : decode cL_law 291 = .ok (.iload_n 3, 1) := by decide +kernel
theorem dL_law_292 : decode cL_law 292 = .ok (.iconst 1, 1) := by decide +kernel
theorem dL_law_293 : decode cL_law 293 = .ok (.iadd, 1) := by decide +kernel
theorem dL_law_294 : decode cL_law 294 = .ok (.iaload, 1) := by decide +kernel
theorem dL_law_295 : decode cL_law 295 = .ok (.aload_n 0, 1) := by decide +kernel
theorem dL_law_296 : decode cL_law 296 = .ok (.iload_n 3, 1) := by decide +kernel
theorem dL_law_297 : decode cL_law 297 = .ok (.iconst 2, 1) := by decide +kernel
theorem dL_law_298 : decode cL_law 298 = .ok (.iadd, 1) := by decide +kernel
theorem dL_law_299 : decode cL_law 299 = .ok (.iaload, 1) := by decide +kernel
theorem dL_law_300 : decode cL_law 300 = .ok (.invokevirtual 39, 3) := by decide +kernel
theorem dL_law_303 : decode cL_law 303 = .ok (.aload_n 2, 1) := by decide +kernel
theorem dL_law_304 : decode cL_law 304 = .ok (.aload_n 0, 1) := by decide +kernel
theorem dL_law_305 : decode cL_law 305 = .ok (.iload_n 3, 1) := by decide +kernel
theorem dL_law_306 : decode cL_law 306 = .ok (.iconst 1, 1) := by decide +kernel
theorem dL_law_307 : decode cL_law 307 = .ok (.iadd, 1) := by decide +kernel
theorem dL_law_308 : decode cL_law 308 = .ok (.iaload, 1) := by decide +kernel
theorem dL_law_309 : decode cL_law 309 = .ok (.aload_n 0, 1) := by decide +kernel
theorem dL_law_310 : decode cL_law 310 = .ok (.iload_n 3, 1) := by decide +kernel
theorem dL_law_311 : decode cL_law 311 = .ok (.iconst 2, 1) := by decide +kernel
theorem dL_law_312 : decode cL_law 312 = .ok (.iadd, 1) := by decide +kernel
theorem dL_law_313 : decode cL_law 313 = .ok (.iaload, 1) := by decide +kernel
theorem dL_law_314 : decode cL_law 314 = .ok (.invokevirtual 43, 3) := by decide +kernel
theorem dL_law_317 : decode cL_law 317 = .ok (.if_icmp .eq 608, 3) := by decide +kernel
theorem dL_law_320 : decode cL_law 320 = .ok (.iconst 0, 1) := by decide +kernel
theorem dL_law_321 : decode cL_law 321 = .ok (.ireturn, 1) := by decide +kernel
theorem dL_law_322 : decode cL_law 322 = .ok (.aload_n 1, 1) := by decide +kernel
theorem dL_law_323 : decode cL_law 323 = .ok (.invokevirtual 44, 3) := by decide +kernel
theorem dL_law_326 : decode cL_law 326 = .ok (.aload_n 2, 1) := by decide +kernel
theorem dL_law_327 : decode cL_law 327 = .ok (.invokevirtual 47, 3) := by decide +kernel
theorem dL_law_330 : decode cL_law 330 = .ok (.if_icmp .eq 595, 3) := by decide +kernel
theorem dL_law_333 : decode cL_law 333 = .ok (.iconst 0, 1) := by decide +kernel
theorem dL_law_334 : decode cL_law 334 = .ok (.ireturn, 1) := by decide +kernel
theorem dL_law_335 : decode cL_law 335 = .ok (.aload_n 1, 1) := by decide +kernel
theorem dL_law_336 : decode cL_law 336 = .ok (.aload_n 0, 1) := by decide +kernel
theorem dL_law_337 : decode cL_law 337 = .ok (.iload_n 3, 1) := by decide +kernel
theorem dL_law_338 : decode cL_law 338 = .ok (.iconst 1, 1) := by decide +kernel
theorem dL_law_339 : decode cL_law 339 = .ok (.iadd, 1) := by decide +kernel
theorem dL_law_340 : decode cL_law 340 = .ok (.iaload, 1) := by decide +kernel
theorem dL_law_341 : decode cL_law 341 = .ok (.invokevirtual 48, 3) := by decide +kernel
theorem dL_law_344 : decode cL_law 344 = .ok (.aload_n 2, 1) := by decide +kernel
theorem dL_law_345 : decode cL_law 345 = .ok (.aload_n 0, 1) := by decide +kernel
theorem dL_law_346 : decode cL_law 346 = .ok (.iload_n 3, 1) := by decide +kernel
theorem dL_law_347 : decode cL_law 347 = .ok (.iconst 1, 1) := by decide +kernel
theorem dL_law_348 : decode cL_law 348 = .ok (.iadd, 1) := by decide +kernel
theorem dL_law_349 : decode cL_law 349 = .ok (.iaload, 1) := by decide +kernel
theorem dL_law_350 : decode cL_law 350 = .ok (.invokevirtual 51, 3) := by decide +kernel
theorem dL_law_353 : decode cL_law 353 = .ok (.if_icmp .eq 572, 3) := by decide +kernel
theorem dL_law_356 : decode cL_law 356 = .ok (.iconst 0, 1) := by decide +kernel
theorem dL_law_357 : decode cL_law 357 = .ok (.ireturn, 1) := by decide +kernel
theorem dL_law_358 : decode cL_law 358 = .ok (.aload_n 1, 1) := by decide +kernel
theorem dL_law_359 : decode cL_law 359 = .ok (.invokevirtual 52, 3) := by decide +kernel
theorem dL_law_362 : decode cL_law 362 = .ok (.aload_n 2, 1) := by decide +kernel
theorem dL_law_363 : decode cL_law 363 = .ok (.invokevirtual 55, 3) := by decide +kernel
theorem dL_law_366 : decode cL_law 366 = .ok (.if_icmp .eq 559, 3) := by decide +kernel
theorem dL_law_369 : decode cL_law 369 = .ok (.iconst 0, 1) := by decide +kernel
theorem dL_law_370 : decode cL_law 370 = .ok (.ireturn, 1) := by decide +kernel
theorem dL_law_371 : decode cL_law 371 = .ok (.aload_n 1, 1) := by decide +kernel
theorem dL_law_372 : decode cL_law 372 = .ok (.aload_n 0, 1) := by decide +kernel
theorem dL_law_373 : decode cL_law 373 = .ok (.iload_n 3, 1) := by decide +kernel
theorem dL_law_374 : decode cL_law 374 = .ok (.iconst 1, 1) := by decide +kernel
theorem dL_law_375 : decode cL_law 375 = .ok (.iadd, 1) := by decide +kernel
theorem dL_law_376 : decode cL_law 376 = .ok (.iaload, 1) := by decide +kernel
theorem dL_law_377 : decode cL_law 377 = .ok (.aload_n 0, 1) := by decide +kernel
theorem dL_law_378 : decode cL_law 378 = .ok (.iload_n 3, 1) := by decide +kernel
theorem dL_law_379 : decode cL_law 379 = .ok (.iconst 2, 1) := by decide +kernel
theorem dL_law_380 : decode cL_law 380 = .ok (.iadd, 1) := by decide +kernel
theorem dL_law_381 : decode cL_law 381 = .ok (.iaload, 1) := by decide +kernel
theorem dL_law_382 : decode cL_law 382 = .ok (.aload_n 0, 1) := by decide +kernel
theorem dL_law_383 : decode cL_law 383 = .ok (.iload_n 3, 1) := by decide +kernel
theorem dL_law_384 : decode cL_law 384 = .ok (.iconst 3, 1) := by decide +kernel
theorem dL_law_385 : decode cL_law 385 = .ok (.iadd, 1) := by decide +kernel
theorem dL_law_386 : decode cL_law 386 = .ok (.iaload, 1) := by decide +kernel
theorem dL_law_387 : decode cL_law 387 = .ok (.ifCond .eq 7, 3) := by decide +kernel
theorem dL_law_390 : decode cL_law 390 = .ok (.iconst 1, 1) := by decide +kernel
theorem dL_law_391 : decode cL_law 391 = .ok (.goto 4, 3) := by decide +kernel
theorem dL_law_394 : decode cL_law 394 = .ok (.iconst 0, 1) := by decide +kernel
theorem dL_law_395 : decode cL_law 395 = .ok (.invokevirtual 56, 3) := by decide +kernel
theorem dL_law_398 : decode cL_law 398 = .ok (.aload_n 2, 1) := by decide +kernel
theorem dL_law_399 : decode cL_law 399 = .ok (.aload_n 0, 1) := by decide +kernel
theorem dL_law_400 : decode cL_law 400 = .ok (.iload_n 3, 1) := by decide +kernel
theorem dL_law_401 : decode cL_law 401 = .ok (.iconst 1, 1) := by decide +kernel
theorem dL_law_402 : decode cL_law 402 = .ok (.iadd, 1) := by decide +kernel
theorem dL_law_403 : decode cL_law 403 = .ok (.iaload, 1) := by decide +kernel
theorem dL_law_404 : decode cL_law 404 = .ok (.aload_n 0, 1) := by decide +kernel
theorem dL_law_405 : decode cL_law 405 = .ok (.iload_n 3, 1) := by decide +kernel
theorem dL_law_406 : decode cL_law 406 = .ok (.iconst 2, 1) := by decide +kernel
theorem dL_law_407 : decode cL_law 407 = .ok (.iadd, 1) := by decide +kernel
theorem dL_law_408 : decode cL_law 408 = .ok (.iaload, 1) := by decide +kernel
theorem dL_law_409 : decode cL_law 409 = .ok (.aload_n 0, 1) := by decide +kernel
theorem dL_law_410 : decode cL_law 410 = .ok (.iload_n 3, 1) := by decide +kernel
theorem dL_law_411 : decode cL_law 411 = .ok (.iconst 3, 1) := by decide +kernel
theorem dL_law_412 : decode cL_law 412 = .ok (.iadd, 1) := by decide +kernel
theorem dL_law_413 : decode cL_law 413 = .ok (.iaload, 1) := by decide +kernel
theorem dL_law_414 : decode cL_law 414 = .ok (.ifCond .eq 7, 3) := by decide +kernel
theorem dL_law_417 : decode cL_law 417 = .ok (.iconst 1, 1) := by decide +kernel
theorem dL_law_418 : decode cL_law 418 = .ok (.goto 4, 3) := by decide +kernel
theorem dL_law_421 : decode cL_law 421 = .ok (.iconst 0, 1) := by decide +kernel
theorem dL_law_422 : decode cL_law 422 = .ok (.invokevirtual 60, 3) := by decide +kernel
theorem dL_law_425 : decode cL_law 425 = .ok (.if_icmp .eq 500, 3) := by decide +kernel
theorem dL_law_428 : decode cL_law 428 = .ok (.iconst 0, 1) := by decide +kernel
theorem dL_law_429 : decode cL_law 429 = .ok (.ireturn, 1) := by decide +kernel
theorem dL_law_430 : decode cL_law 430 = .ok (.aload_n 1, 1) := by decide +kernel
theorem dL_law_431 : decode cL_law 431 = .ok (.aload_n 0, 1) := by decide +kernel
theorem dL_law_432 : decode cL_law 432 = .ok (.iload_n 3, 1) := by decide +kernel
theorem dL_law_433 : decode cL_law 433 = .ok (.iconst 1, 1) := by decide +kernel
theorem dL_law_434 : decode cL_law 434 = .ok (.iadd, 1) := by decide +kernel
theorem dL_law_435 : decode cL_law 435 = .ok (.iaload, 1) := by decide +kernel
theorem dL_law_436 : decode cL_law 436 = .ok (.aload_n 0, 1) := by decide +kernel
theorem dL_law_437 : decode cL_law 437 = .ok (.iload_n 3, 1) := by decide +kernel
theorem dL_law_438 : decode cL_law 438 = .ok (.iconst 2, 1) := by decide +kernel
theorem dL_law_439 : decode cL_law 439 = .ok (.iadd, 1) := by decide +kernel
theorem dL_law_440 : decode cL_law 440 = .ok (.iaload, 1) := by decide +kernel
theorem dL_law_441 : decode cL_law 441 = .ok (.invokevirtual 61, 3) := by decide +kernel
theorem dL_law_444 : decode cL_law 444 = .ok (.aload_n 2, 1) := by decide +kernel
theorem dL_law_445 : decode cL_law 445 = .ok (.aload_n 0, 1) := by decide +kernel
theorem dL_law_446 : decode cL_law 446 = .ok (.iload_n 3, 1) := by decide +kernel
theorem dL_law_447 : decode cL_law 447 = .ok (.iconst 1, 1) := by decide +kernel
theorem dL_law_448 : decode cL_law 448 = .ok (.iadd, 1) := by decide +kernel
theorem dL_law_449 : decode cL_law 449 = .ok (.iaload, 1) := by decide +kernel
theorem dL_law_450 : decode cL_law 450 = .ok (.aload_n 0, 1) := by decide +kernel
theorem dL_law_451 : decode cL_law 451 = .ok (.iload_n 3, 1) := by decide +kernel
theorem dL_law_452 : decode cL_law 452 = .ok (.iconst 2, 1) := by decide +kernel
theorem dL_law_453 : decode cL_law 453 = .ok (.iadd, 1) := by decide +kernel
theorem dL_law_454 : decode cL_law 454 = .ok (.iaload, 1) := by decide +kernel
theorem dL_law_455 : decode cL_law 455 = .ok (.invokevirtual 64, 3) := by decide +kernel
theorem dL_law_458 : decode cL_law 458 = .ok (.if_icmp .eq 467, 3) := by decide +kernel
theorem dL_law_461 : decode cL_law 461 = .ok (.iconst 0, 1) := by decide +kernel
theorem dL_law_462 : decode cL_law 462 = .ok (.ireturn, 1) := by decide +kernel
theorem dL_law_463 : decode cL_law 463 = .ok (.aload_n 1, 1) := by decide +kernel
theorem dL_law_464 : decode cL_law 464 = .ok (.aload_n 0, 1) := by decide +kernel
theorem dL_law_465 : decode cL_law 465 = .ok (.iload_n 3, 1) := by decide +kernel
theorem dL_law_466 : decode cL_law 466 = .ok (.iconst 1, 1) := by decide +kernel
theorem dL_law_467 : decode cL_law 467 = .ok (.iadd, 1) := by decide +kernel
theorem dL_law_468 : decode cL_law 468 = .ok (.iaload, 1) := by decide +kernel
theorem dL_law_469 : decode cL_law 469 = .ok (.aload_n 0, 1) := by decide +kernel
theorem dL_law_470 : decode cL_law 470 = .ok (.iload_n 3, 1) := by decide +kernel
theorem dL_law_471 : decode cL_law 471 = .ok (.iconst 2, 1) := by decide +kernel
theorem dL_law_472 : decode cL_law 472 = .ok (.iadd, 1) := by decide +kernel
theorem dL_law_473 : decode cL_law 473 = .ok (.iaload, 1) := by decide +kernel
theorem dL_law_474 : decode cL_law 474 = .ok (.invokevirtual 65, 3) := by decide +kernel
theorem dL_law_477 : decode cL_law 477 = .ok (.aload_n 2, 1) := by decide +kernel
theorem dL_law_478 : decode cL_law 478 = .ok (.aload_n 0, 1) := by decide +kernel
theorem dL_law_479 : decode cL_law 479 = .ok (.iload_n 3, 1) := by decide +kernel
theorem dL_law_480 : decode cL_law 480 = .ok (.iconst 1, 1) := by decide +kernel
theorem dL_law_481 : decode cL_law 481 = .ok (.iadd, 1) := by decide +kernel
theorem dL_law_482 : decode cL_law 482 = .ok (.iaload, 1) := by decide +kernel
theorem dL_law_483 : decode cL_law 483 = .ok (.aload_n 0, 1) := by decide +kernel
theorem dL_law_484 : decode cL_law 484 = .ok (.iload_n 3, 1) := by decide +kernel
theorem dL_law_485 : decode cL_law 485 = .ok (.iconst 2, 1) := by decide +kernel
theorem dL_law_486 : decode cL_law 486 = .ok (.iadd, 1) := by decide +kernel
theorem dL_law_487 : decode cL_law 487 = .ok (.iaload, 1) := by decide +kernel
theorem dL_law_488 : decode cL_law 488 = .ok (.invokevirtual 68, 3) := by decide +kernel
theorem dL_law_491 : decode cL_law 491 = .ok (.if_icmp .eq 434, 3) := by decide +kernel
theorem dL_law_494 : decode cL_law 494 = .ok (.iconst 0, 1) := by decide +kernel
theorem dL_law_495 : decode cL_law 495 = .ok (.ireturn, 1) := by decide +kernel
theorem dL_law_496 : decode cL_law 496 = .ok (.aload_n 1, 1) := by decide +kernel
theorem dL_law_497 : decode cL_law 497 = .ok (.aload_n 0, 1) := by decide +kernel
theorem dL_law_498 : decode cL_law 498 = .ok (.iload_n 3, 1) := by decide +kernel
theorem dL_law_499 : decode cL_law 499 = .ok (.iconst 1, 1) := by decide +kernel
theorem dL_law_500 : decode cL_law 500 = .ok (.iadd, 1) := by decide +kernel
theorem dL_law_501 : decode cL_law 501 = .ok (.iaload, 1) := by decide +kernel
theorem dL_law_502 : decode cL_law 502 = .ok (.aload_n 0, 1) := by decide +kernel
theorem dL_law_503 : decode cL_law 503 = .ok (.iload_n 3, 1) := by decide +kernel
theorem dL_law_504 : decode cL_law 504 = .ok (.iconst 2, 1) := by decide +kernel
theorem dL_law_505 : decode cL_law 505 = .ok (.iadd, 1) := by decide +kernel
theorem dL_law_506 : decode cL_law 506 = .ok (.iaload, 1) := by decide +kernel
theorem dL_law_507 : decode cL_law 507 = .ok (.ifCond .eq 7, 3) := by decide +kernel
theorem dL_law_510 : decode cL_law 510 = .ok (.iconst 1, 1) := by decide +kernel
theorem dL_law_511 : decode cL_law 511 = .ok (.goto 4, 3) := by decide +kernel
theorem dL_law_514 : decode cL_law 514 = .ok (.iconst 0, 1) := by decide +kernel
theorem dL_law_515 : decode cL_law 515 = .ok (.aload_n 0, 1) := by decide +kernel
theorem dL_law_516 : decode cL_law 516 = .ok (.iload_n 3, 1) := by decide +kernel
theorem dL_law_517 : decode cL_law 517 = .ok (.iconst 3, 1) := by decide +kernel
theorem dL_law_518 : decode cL_law 518 = .ok (.iadd, 1) := by decide +kernel
theorem dL_law_519 : decode cL_law 519 = .ok (.iaload, 1) := by decide +kernel
theorem dL_law_520 : decode cL_law 520 = .ok (.invokevirtual 69, 3) := by decide +kernel
theorem dL_law_523 : decode cL_law 523 = .ok (.aload_n 2, 1) := by decide +kernel
theorem dL_law_524 : decode cL_law 524 = .ok (.aload_n 0, 1) := by decide +kernel
theorem dL_law_525 : decode cL_law 525 = .ok (.iload_n 3, 1) := by decide +kernel
theorem dL_law_526 : decode cL_law 526 = .ok (.iconst 1, 1) := by decide +kernel
theorem dL_law_527 : decode cL_law 527 = .ok (.iadd, 1) := by decide +kernel
theorem dL_law_528 : decode cL_law 528 = .ok (.iaload, 1) := by decide +kernel
theorem dL_law_529 : decode cL_law 529 = .ok (.aload_n 0, 1) := by decide +kernel
theorem dL_law_530 : decode cL_law 530 = .ok (.iload_n 3, 1) := by decide +kernel
theorem dL_law_531 : decode cL_law 531 = .ok (.iconst 2, 1) := by decide +kernel
theorem dL_law_532 : decode cL_law 532 = .ok (.iadd, 1) := by decide +kernel
theorem dL_law_533 : decode cL_law 533 = .ok (.iaload, 1) := by decide +kernel
theorem dL_law_534 : decode cL_law 534 = .ok (.ifCond .eq 7, 3) := by decide +kernel
theorem dL_law_537 : decode cL_law 537 = .ok (.iconst 1, 1) := by decide +kernel
theorem dL_law_538 : decode cL_law 538 = .ok (.goto 4, 3) := by decide +kernel
theorem dL_law_541 : decode cL_law 541 = .ok (.iconst 0, 1) := by decide +kernel
theorem dL_law_542 : decode cL_law 542 = .ok (.aload_n 0, 1) := by decide +kernel
theorem dL_law_543 : decode cL_law 543 = .ok (.iload_n 3, 1) := by decide +kernel
theorem dL_law_544 : decode cL_law 544 = .ok (.iconst 3, 1) := by decide +kernel
theorem dL_law_545 : decode cL_law 545 = .ok (.iadd, 1) := by decide +kernel
theorem dL_law_546 : decode cL_law 546 = .ok (.iaload, 1) := by decide +kernel
theorem dL_law_547 : decode cL_law 547 = .ok (.invokevirtual 73, 3) := by decide +kernel
theorem dL_law_550 : decode cL_law 550 = .ok (.if_icmp .eq 375, 3) := by decide +kernel
theorem dL_law_553 : decode cL_law 553 = .ok (.iconst 0, 1) := by decide +kernel
theorem dL_law_554 : decode cL_law 554 = .ok (.ireturn, 1) := by decide +kernel
theorem dL_law_555 : decode cL_law 555 = .ok (.aload_n 1, 1) := by decide +kernel
theorem dL_law_556 : decode cL_law 556 = .ok (.aload_n 0, 1) := by decide +kernel
theorem dL_law_557 : decode cL_law 557 = .ok (.iload_n 3, 1) := by decide +kernel
theorem dL_law_558 : decode cL_law 558 = .ok (.iconst 1, 1) := by decide +kernel
theorem dL_law_559 : decode cL_law 559 = .ok (.iadd, 1) := by decide +kernel
theorem dL_law_560 : decode cL_law 560 = .ok (.iaload, 1) := by decide +kernel
theorem dL_law_561 : decode cL_law 561 = .ok (.aload_n 0, 1) := by decide +kernel
theorem dL_law_562 : decode cL_law 562 = .ok (.iload_n 3, 1) := by decide +kernel
theorem dL_law_563 : decode cL_law 563 = .ok (.iconst 2, 1) := by decide +kernel
theorem dL_law_564 : decode cL_law 564 = .ok (.iadd, 1) := by decide +kernel
theorem dL_law_565 : decode cL_law 565 = .ok (.iaload, 1) := by decide +kernel
theorem dL_law_566 : decode cL_law 566 = .ok (.aload_n 0, 1) := by decide +kernel
theorem dL_law_567 : decode cL_law 567 = .ok (.iload_n 3, 1) := by decide +kernel
theorem dL_law_568 : decode cL_law 568 = .ok (.iconst 3, 1) := by decide +kernel
theorem dL_law_569 : decode cL_law 569 = .ok (.iadd, 1) := by decide +kernel
theorem dL_law_570 : decode cL_law 570 = .ok (.iaload, 1) := by decide +kernel
theorem dL_law_571 : decode cL_law 571 = .ok (.ifCond .eq 7, 3) := by decide +kernel
theorem dL_law_574 : decode cL_law 574 = .ok (.iconst 1, 1) := by decide +kernel
theorem dL_law_575 : decode cL_law 575 = .ok (.goto 4, 3) := by decide +kernel
theorem dL_law_578 : decode cL_law 578 = .ok (.iconst 0, 1) := by decide +kernel
theorem dL_law_579 : decode cL_law 579 = .ok (.invokevirtual 74, 3) := by decide +kernel
theorem dL_law_582 : decode cL_law 582 = .ok (.aload_n 2, 1) := by decide +kernel
theorem dL_law_583 : decode cL_law 583 = .ok (.aload_n 0, 1) := by decide +kernel
theorem dL_law_584 : decode cL_law 584 = .ok (.iload_n 3, 1) := by decide +kernel
theorem dL_law_585 : decode cL_law 585 = .ok (.iconst 1, 1) := by decide +kernel
theorem dL_law_586 : decode cL_law 586 = .ok (.iadd, 1) := by decide +kernel
theorem dL_law_587 : decode cL_law 587 = .ok (.iaload, 1) := by decide +kernel
theorem dL_law_588 : decode cL_law 588 = .ok (.aload_n 0, 1) := by decide +kernel
theorem dL_law_589 : decode cL_law 589 = .ok (.iload_n 3, 1) := by decide +kernel
theorem dL_law_590 : decode cL_law 590 = .ok (.iconst 2, 1) := by decide +kernel
theorem dL_law_591 : decode cL_law 591 = .ok (.iadd, 1) := by decide +kernel
theorem dL_law_592 : decode cL_law 592 = .ok (.iaload, 1) := by decide +kernel
theorem dL_law_593 : decode cL_law 593 = .ok (.aload_n 0, 1) := by decide +kernel
theorem dL_law_594 : decode cL_law 594 = .ok (.iload_n 3, 1) := by decide +kernel
theorem dL_law_595 : decode cL_law 595 = .ok (.iconst 3, 1) := by decide +kernel
theorem dL_law_596 : decode cL_law 596 = .ok (.iadd, 1) := by decide +kernel
theorem dL_law_597 : decode cL_law 597 = .ok (.iaload, 1) := by decide +kernel
theorem dL_law_598 : decode cL_law 598 = .ok (.ifCond .eq 7, 3) := by decide +kernel
theorem dL_law_601 : decode cL_law 601 = .ok (.iconst 1, 1) := by decide +kernel
theorem dL_law_602 : decode cL_law 602 = .ok (.goto 4, 3) := by decide +kernel
theorem dL_law_605 : decode cL_law 605 = .ok (.iconst 0, 1) := by decide +kernel
theorem dL_law_606 : decode cL_law 606 = .ok (.invokevirtual 77, 3) := by decide +kernel
theorem dL_law_609 : decode cL_law 609 = .ok (.if_icmp .eq 316, 3) := by decide +kernel
theorem dL_law_612 : decode cL_law 612 = .ok (.iconst 0, 1) := by decide +kernel
theorem dL_law_613 : decode cL_law 613 = .ok (.ireturn, 1) := by decide +kernel
theorem dL_law_614 : decode cL_law 614 = .ok (.aload_n 1, 1) := by decide +kernel
theorem dL_law_615 : decode cL_law 615 = .ok (.aload_n 0, 1) := by decide +kernel
theorem dL_law_616 : decode cL_law 616 = .ok (.iload_n 3, 1) := by decide +kernel
theorem dL_law_617 : decode cL_law 617 = .ok (.iconst 1, 1) := by decide +kernel
theorem dL_law_618 : decode cL_law 618 = .ok (.iadd, 1) := by decide +kernel
theorem dL_law_619 : decode cL_law 619 = .ok (.iaload, 1) := by decide +kernel
theorem dL_law_620 : decode cL_law 620 = .ok (.invokevirtual 78, 3) := by decide +kernel
theorem dL_law_623 : decode cL_law 623 = .ok (.aload_n 2, 1) := by decide +kernel
theorem dL_law_624 : decode cL_law 624 = .ok (.aload_n 0, 1) := by decide +kernel
theorem dL_law_625 : decode cL_law 625 = .ok (.iload_n 3, 1) := by decide +kernel
theorem dL_law_626 : decode cL_law 626 = .ok (.iconst 1, 1) := by decide +kernel
theorem dL_law_627 : decode cL_law 627 = .ok (.iadd, 1) := by decide +kernel
theorem dL_law_628 : decode cL_law 628 = .ok (.iaload, 1) := by decide +kernel
theorem dL_law_629 : decode cL_law 629 = .ok (.invokevirtual 81, 3) := by decide +kernel
theorem dL_law_632 : decode cL_law 632 = .ok (.if_icmp .eq 293, 3) := by decide +kernel
theorem dL_law_635 : decode cL_law 635 = .ok (.iconst 0, 1) := by decide +kernel
theorem dL_law_636 : decode cL_law 636 = .ok (.ireturn, 1) := by decide +kernel
theorem dL_law_637 : decode cL_law 637 = .ok (.aload_n 1, 1) := by decide +kernel
theorem dL_law_638 : decode cL_law 638 = .ok (.aload_n 0, 1) := by decide +kernel
theorem dL_law_639 : decode cL_law 639 = .ok (.iload_n 3, 1) := by decide +kernel
theorem dL_law_640 : decode cL_law 640 = .ok (.iconst 1, 1) := by decide +kernel
theorem dL_law_641 : decode cL_law 641 = .ok (.iadd, 1) := by decide +kernel
theorem dL_law_642 : decode cL_law 642 = .ok (.iaload, 1) := by decide +kernel
theorem dL_law_643 : decode cL_law 643 = .ok (.aload_n 0, 1) := by decide +kernel
theorem dL_law_644 : decode cL_law 644 = .ok (.iload_n 3, 1) := by decide +kernel
theorem dL_law_645 : decode cL_law 645 = .ok (.iconst 2, 1) := by decide +kernel
theorem dL_law_646 : decode cL_law 646 = .ok (.iadd, 1) := by decide +kernel
theorem dL_law_647 : decode cL_law 647 = .ok (.iaload, 1) := by decide +kernel
theorem dL_law_648 : decode cL_law 648 = .ok (.aload_n 0, 1) := by decide +kernel
theorem dL_law_649 : decode cL_law 649 = .ok (.iload_n 3, 1) := by decide +kernel
theorem dL_law_650 : decode cL_law 650 = .ok (.iconst 3, 1) := by decide +kernel
theorem dL_law_651 : decode cL_law 651 = .ok (.iadd, 1) := by decide +kernel
theorem dL_law_652 : decode cL_law 652 = .ok (.iaload, 1) := by decide +kernel
theorem dL_law_653 : decode cL_law 653 = .ok (.ifCond .eq 7, 3) := by decide +kernel
theorem dL_law_656 : decode cL_law 656 = .ok (.iconst 1, 1) := by decide +kernel
theorem dL_law_657 : decode cL_law 657 = .ok (.goto 4, 3) := by decide +kernel
theorem dL_law_660 : decode cL_law 660 = .ok (.iconst 0, 1) := by decide +kernel
theorem dL_law_661 : decode cL_law 661 = .ok (.invokevirtual 82, 3) := by decide +kernel
theorem dL_law_664 : decode cL_law 664 = .ok (.aload_n 2, 1) := by decide +kernel
theorem dL_law_665 : decode cL_law 665 = .ok (.aload_n 0, 1) := by decide +kernel
theorem dL_law_666 : decode cL_law 666 = .ok (.iload_n 3, 1) := by decide +kernel
theorem dL_law_667 : decode cL_law 667 = .ok (.iconst 1, 1) := by decide +kernel
theorem dL_law_668 : decode cL_law 668 = .ok (.iadd, 1) := by decide +kernel
theorem dL_law_669 : decode cL_law 669 = .ok (.iaload, 1) := by decide +kernel
theorem dL_law_670 : decode cL_law 670 = .ok (.aload_n 0, 1) := by decide +kernel
theorem dL_law_671 : decode cL_law 671 = .ok (.iload_n 3, 1) := by decide +kernel
theorem dL_law_672 : decode cL_law 672 = .ok (.iconst 2, 1) := by decide +kernel
theorem dL_law_673 : decode cL_law 673 = .ok (.iadd, 1) := by decide +kernel
theorem dL_law_674 : decode cL_law 674 = .ok (.iaload, 1) := by decide +kernel
theorem dL_law_675 : decode cL_law 675 = .ok (.aload_n 0, 1) := by decide +kernel
theorem dL_law_676 : decode cL_law 676 = .ok (.iload_n 3, 1) := by decide +kernel
theorem dL_law_677 : decode cL_law 677 = .ok (.iconst 3, 1) := by decide +kernel
theorem dL_law_678 : decode cL_law 678 = .ok (.iadd, 1) := by decide +kernel
theorem dL_law_679 : decode cL_law 679 = .ok (.iaload, 1) := by decide +kernel
theorem dL_law_680 : decode cL_law 680 = .ok (.ifCond .eq 7, 3) := by decide +kernel
theorem dL_law_683 : decode cL_law 683 = .ok (.iconst 1, 1) := by decide +kernel
theorem dL_law_684 : decode cL_law 684 = .ok (.goto 4, 3) := by decide +kernel
theorem dL_law_687 : decode cL_law 687 = .ok (.iconst 0, 1) := by decide +kernel
theorem dL_law_688 : decode cL_law 688 = .ok (.invokevirtual 85, 3) := by decide +kernel
theorem dL_law_691 : decode cL_law 691 = .ok (.if_icmp .eq 234, 3) := by decide +kernel
theorem dL_law_694 : decode cL_law 694 = .ok (.iconst 0, 1) := by decide +kernel
theorem dL_law_695 : decode cL_law 695 = .ok (.ireturn, 1) := by decide +kernel
theorem dL_law_696 : decode cL_law 696 = .ok (.aload_n 1, 1) := by decide +kernel
theorem dL_law_697 : decode cL_law 697 = .ok (.aload_n 0, 1) := by decide +kernel
theorem dL_law_698 : decode cL_law 698 = .ok (.iload_n 3, 1) := by decide +kernel
theorem dL_law_699 : decode cL_law 699 = .ok (.iconst 1, 1) := by decide +kernel
theorem dL_law_700 : decode cL_law 700 = .ok (.iadd, 1) := by decide +kernel
theorem dL_law_701 : decode cL_law 701 = .ok (.iaload, 1) := by decide +kernel
theorem dL_law_702 : decode cL_law 702 = .ok (.aload_n 0, 1) := by decide +kernel
theorem dL_law_703 : decode cL_law 703 = .ok (.iload_n 3, 1) := by decide +kernel
theorem dL_law_704 : decode cL_law 704 = .ok (.iconst 2, 1) := by decide +kernel
theorem dL_law_705 : decode cL_law 705 = .ok (.iadd, 1) := by decide +kernel
theorem dL_law_706 : decode cL_law 706 = .ok (.iaload, 1) := by decide +kernel
theorem dL_law_707 : decode cL_law 707 = .ok (.aload_n 0, 1) := by decide +kernel
theorem dL_law_708 : decode cL_law 708 = .ok (.iload_n 3, 1) := by decide +kernel
theorem dL_law_709 : decode cL_law 709 = .ok (.iconst 3, 1) := by decide +kernel
theorem dL_law_710 : decode cL_law 710 = .ok (.iadd, 1) := by decide +kernel
theorem dL_law_711 : decode cL_law 711 = .ok (.iaload, 1) := by decide +kernel
theorem dL_law_712 : decode cL_law 712 = .ok (.aload_n 0, 1) := by decide +kernel
theorem dL_law_713 : decode cL_law 713 = .ok (.iload_n 3, 1) := by decide +kernel
theorem dL_law_714 : decode cL_law 714 = .ok (.iconst 4, 1) := by decide +kernel
theorem dL_law_715 : decode cL_law 715 = .ok (.iadd, 1) := by decide +kernel
theorem dL_law_716 : decode cL_law 716 = .ok (.iaload, 1) := by decide +kernel
theorem dL_law_717 : decode cL_law 717 = .ok (.ifCond .eq 7, 3) := by decide +kernel
theorem dL_law_720 : decode cL_law 720 = .ok (.iconst 1, 1) := by decide +kernel
theorem dL_law_721 : decode cL_law 721 = .ok (.goto 4, 3) := by decide +kernel
theorem dL_law_724 : decode cL_law 724 = .ok (.iconst 0, 1) := by decide +kernel
theorem dL_law_725 : decode cL_law 725 = .ok (.aload_n 0, 1) := by decide +kernel
theorem dL_law_726 : decode cL_law 726 = .ok (.iload_n 3, 1) := by decide +kernel
theorem dL_law_727 : decode cL_law 727 = .ok (.iconst 5, 1) := by decide +kernel
theorem dL_law_728 : decode cL_law 728 = .ok (.iadd, 1) := by decide +kernel
theorem dL_law_729 : decode cL_law 729 = .ok (.iaload, 1) := by decide +kernel
theorem dL_law_730 : decode cL_law 730 = .ok (.invokevirtual 86, 3) := by decide +kernel
theorem dL_law_733 : decode cL_law 733 = .ok (.aload_n 2, 1) := by decide +kernel
theorem dL_law_734 : decode cL_law 734 = .ok (.aload_n 0, 1) := by decide +kernel
theorem dL_law_735 : decode cL_law 735 = .ok (.iload_n 3, 1) := by decide +kernel
theorem dL_law_736 : decode cL_law 736 = .ok (.iconst 1, 1) := by decide +kernel
theorem dL_law_737 : decode cL_law 737 = .ok (.iadd, 1) := by decide +kernel
theorem dL_law_738 : decode cL_law 738 = .ok (.iaload, 1) := by decide +kernel
theorem dL_law_739 : decode cL_law 739 = .ok (.aload_n 0, 1) := by decide +kernel
theorem dL_law_740 : decode cL_law 740 = .ok (.iload_n 3, 1) := by decide +kernel
theorem dL_law_741 : decode cL_law 741 = .ok (.iconst 2, 1) := by decide +kernel
theorem dL_law_742 : decode cL_law 742 = .ok (.iadd, 1) := by decide +kernel
theorem dL_law_743 : decode cL_law 743 = .ok (.iaload, 1) := by decide +kernel
theorem dL_law_744 : decode cL_law 744 = .ok (.aload_n 0, 1) := by decide +kernel
theorem dL_law_745 : decode cL_law 745 = .ok (.iload_n 3, 1) := by decide +kernel
theorem dL_law_746 : decode cL_law 746 = .ok (.iconst 3, 1) := by decide +kernel
theorem dL_law_747 : decode cL_law 747 = .ok (.iadd, 1) := by decide +kernel
theorem dL_law_748 : decode cL_law 748 = .ok (.iaload, 1) := by decide +kernel
theorem dL_law_749 : decode cL_law 749 = .ok (.aload_n 0, 1) := by decide +kernel
theorem dL_law_750 : decode cL_law 750 = .ok (.iload_n 3, 1) := by decide +kernel
theorem dL_law_751 : decode cL_law 751 = .ok (.iconst 4, 1) := by decide +kernel
theorem dL_law_752 : decode cL_law 752 = .ok (.iadd, 1) := by decide +kernel
theorem dL_law_753 : decode cL_law 753 = .ok (.iaload, 1) := by decide +kernel
theorem dL_law_754 : decode cL_law 754 = .ok (.ifCond .eq 7, 3) := by decide +kernel
theorem dL_law_757 : decode cL_law 757 = .ok (.iconst 1, 1) := by decide +kernel
theorem dL_law_758 : decode cL_law 758 = .ok (.goto 4, 3) := by decide +kernel
theorem dL_law_761 : decode cL_law 761 = .ok (.iconst 0, 1) := by decide +kernel
theorem dL_law_762 : decode cL_law 762 = .ok (.aload_n 0, 1) := by decide +kernel
theorem dL_law_763 : decode cL_law 763 = .ok (.iload_n 3, 1) := by decide +kernel
theorem dL_law_764 : decode cL_law 764 = .ok (.iconst 5, 1) := by decide +kernel
theorem dL_law_765 : decode cL_law 765 = .ok (.iadd, 1) := by decide +kernel
theorem dL_law_766 : decode cL_law 766 = .ok (.iaload, 1) := by decide +kernel
theorem dL_law_767 : decode cL_law 767 = .ok (.invokevirtual 90, 3) := by decide +kernel
theorem dL_law_770 : decode cL_law 770 = .ok (.if_icmp .eq 155, 3) := by decide +kernel
theorem dL_law_773 : decode cL_law 773 = .ok (.iconst 0, 1) := by decide +kernel
theorem dL_law_774 : decode cL_law 774 = .ok (.ireturn, 1) := by decide +kernel
theorem dL_law_775 : decode cL_law 775 = .ok (.aload_n 1, 1) := by decide +kernel
theorem dL_law_776 : decode cL_law 776 = .ok (.aload_n 0, 1) := by decide +kernel
theorem dL_law_777 : decode cL_law 777 = .ok (.iload_n 3, 1) := by decide +kernel
theorem dL_law_778 : decode cL_law 778 = .ok (.iconst 1, 1) := by decide +kernel
theorem dL_law_779 : decode cL_law 779 = .ok (.iadd, 1) := by decide +kernel
theorem dL_law_780 : decode cL_law 780 = .ok (.iaload, 1) := by decide +kernel
theorem dL_law_781 : decode cL_law 781 = .ok (.aload_n 0, 1) := by decide +kernel
theorem dL_law_782 : decode cL_law 782 = .ok (.iload_n 3, 1) := by decide +kernel
theorem dL_law_783 : decode cL_law 783 = .ok (.iconst 2, 1) := by decide +kernel
theorem dL_law_784 : decode cL_law 784 = .ok (.iadd, 1) := by decide +kernel
theorem dL_law_785 : decode cL_law 785 = .ok (.iaload, 1) := by decide +kernel
theorem dL_law_786 : decode cL_law 786 = .ok (.aload_n 0, 1) := by decide +kernel
theorem dL_law_787 : decode cL_law 787 = .ok (.iload_n 3, 1) := by decide +kernel
theorem dL_law_788 : decode cL_law 788 = .ok (.iconst 3, 1) := by decide +kernel
theorem dL_law_789 : decode cL_law 789 = .ok (.iadd, 1) := by decide +kernel
theorem dL_law_790 : decode cL_law 790 = .ok (.iaload, 1) := by decide +kernel
theorem dL_law_791 : decode cL_law 791 = .ok (.ifCond .eq 7, 3) := by decide +kernel
theorem dL_law_794 : decode cL_law 794 = .ok (.iconst 1, 1) := by decide +kernel
theorem dL_law_795 : decode cL_law 795 = .ok (.goto 4, 3) := by decide +kernel
theorem dL_law_798 : decode cL_law 798 = .ok (.iconst 0, 1) := by decide +kernel
theorem dL_law_799 : decode cL_law 799 = .ok (.invokevirtual 91, 3) := by decide +kernel
theorem dL_law_802 : decode cL_law 802 = .ok (.aload_n 2, 1) := by decide +kernel
theorem dL_law_803 : decode cL_law 803 = .ok (.aload_n 0, 1) := by decide +kernel
theorem dL_law_804 : decode cL_law 804 = .ok (.iload_n 3, 1) := by decide +kernel
theorem dL_law_805 : decode cL_law 805 = .ok (.iconst 1, 1) := by decide +kernel
theorem dL_law_806 : decode cL_law 806 = .ok (.iadd, 1) := by decide +kernel
theorem dL_law_807 : decode cL_law 807 = .ok (.iaload, 1) := by decide +kernel
theorem dL_law_808 : decode cL_law 808 = .ok (.aload_n 0, 1) := by decide +kernel
theorem dL_law_809 : decode cL_law 809 = .ok (.iload_n 3, 1) := by decide +kernel
theorem dL_law_810 : decode cL_law 810 = .ok (.iconst 2, 1) := by decide +kernel
theorem dL_law_811 : decode cL_law 811 = .ok (.iadd, 1) := by decide +kernel
theorem dL_law_812 : decode cL_law 812 = .ok (.iaload, 1) := by decide +kernel
theorem dL_law_813 : decode cL_law 813 = .ok (.aload_n 0, 1) := by decide +kernel
theorem dL_law_814 : decode cL_law 814 = .ok (.iload_n 3, 1) := by decide +kernel
theorem dL_law_815 : decode cL_law 815 = .ok (.iconst 3, 1) := by decide +kernel
theorem dL_law_816 : decode cL_law 816 = .ok (.iadd, 1) := by decide +kernel
theorem dL_law_817 : decode cL_law 817 = .ok (.iaload, 1) := by decide +kernel
theorem dL_law_818 : decode cL_law 818 = .ok (.ifCond .eq 7, 3) := by decide +kernel
theorem dL_law_821 : decode cL_law 821 = .ok (.iconst 1, 1) := by decide +kernel
theorem dL_law_822 : decode cL_law 822 = .ok (.goto 4, 3) := by decide +kernel
theorem dL_law_825 : decode cL_law 825 = .ok (.iconst 0, 1) := by decide +kernel
theorem dL_law_826 : decode cL_law 826 = .ok (.invokevirtual 94, 3) := by decide +kernel
theorem dL_law_829 : decode cL_law 829 = .ok (.if_icmp .eq 96, 3) := by decide +kernel
theorem dL_law_832 : decode cL_law 832 = .ok (.iconst 0, 1) := by decide +kernel
theorem dL_law_833 : decode cL_law 833 = .ok (.ireturn, 1) := by decide +kernel
theorem dL_law_834 : decode cL_law 834 = .ok (.aload_n 1, 1) := by decide +kernel
theorem dL_law_835 : decode cL_law 835 = .ok (.aload_n 0, 1) := by decide +kernel
theorem dL_law_836 : decode cL_law 836 = .ok (.iload_n 3, 1) := by decide +kernel
theorem dL_law_837 : decode cL_law 837 = .ok (.iconst 1, 1) := by decide +kernel
theorem dL_law_838 : decode cL_law 838 = .ok (.iadd, 1) := by decide +kernel
theorem dL_law_839 : decode cL_law 839 = .ok (.iaload, 1) := by decide +kernel
theorem dL_law_840 : decode cL_law 840 = .ok (.aload_n 0, 1) := by decide +kernel
theorem dL_law_841 : decode cL_law 841 = .ok (.iload_n 3, 1) := by decide +kernel
theorem dL_law_842 : decode cL_law 842 = .ok (.iconst 2, 1) := by decide +kernel
theorem dL_law_843 : decode cL_law 843 = .ok (.iadd, 1) := by decide +kernel
theorem dL_law_844 : decode cL_law 844 = .ok (.iaload, 1) := by decide +kernel
theorem dL_law_845 : decode cL_law 845 = .ok (.aload_n 0, 1) := by decide +kernel
theorem dL_law_846 : decode cL_law 846 = .ok (.iload_n 3, 1) := by decide +kernel
theorem dL_law_847 : decode cL_law 847 = .ok (.iconst 3, 1) := by decide +kernel
theorem dL_law_848 : decode cL_law 848 = .ok (.iadd, 1) := by decide +kernel
theorem dL_law_849 : decode cL_law 849 = .ok (.iaload, 1) := by decide +kernel
theorem dL_law_850 : decode cL_law 850 = .ok (.aload_n 0, 1) := by decide +kernel
theorem dL_law_851 : decode cL_law 851 = .ok (.iload_n 3, 1) := by decide +kernel
theorem dL_law_852 : decode cL_law 852 = .ok (.iconst 4, 1) := by decide +kernel
theorem dL_law_853 : decode cL_law 853 = .ok (.iadd, 1) := by decide +kernel
theorem dL_law_854 : decode cL_law 854 = .ok (.iaload, 1) := by decide +kernel
theorem dL_law_855 : decode cL_law 855 = .ok (.aload_n 0, 1) := by decide +kernel
theorem dL_law_856 : decode cL_law 856 = .ok (.iload_n 3, 1) := by decide +kernel
theorem dL_law_857 : decode cL_law 857 = .ok (.iconst 5, 1) := by decide +kernel
theorem dL_law_858 : decode cL_law 858 = .ok (.iadd, 1) := by decide +kernel
theorem dL_law_859 : decode cL_law 859 = .ok (.iaload, 1) := by decide +kernel
theorem dL_law_860 : decode cL_law 860 = .ok (.ifCond .eq 7, 3) := by decide +kernel
theorem dL_law_863 : decode cL_law 863 = .ok (.iconst 1, 1) := by decide +kernel
theorem dL_law_864 : decode cL_law 864 = .ok (.goto 4, 3) := by decide +kernel
theorem dL_law_867 : decode cL_law 867 = .ok (.iconst 0, 1) := by decide +kernel
theorem dL_law_868 : decode cL_law 868 = .ok (.aload_n 0, 1) := by decide +kernel
theorem dL_law_869 : decode cL_law 869 = .ok (.iload_n 3, 1) := by decide +kernel
theorem dL_law_870 : decode cL_law 870 = .ok (.bipush 6, 2) := by decide +kernel
theorem dL_law_872 : decode cL_law 872 = .ok (.iadd, 1) := by decide +kernel
theorem dL_law_873 : decode cL_law 873 = .ok (.iaload, 1) := by decide +kernel
theorem dL_law_874 : decode cL_law 874 = .ok (.invokevirtual 95, 3) := by decide +kernel
theorem dL_law_877 : decode cL_law 877 = .ok (.aload_n 2, 1) := by decide +kernel
theorem dL_law_878 : decode cL_law 878 = .ok (.aload_n 0, 1) := by decide +kernel
theorem dL_law_879 : decode cL_law 879 = .ok (.iload_n 3, 1) := by decide +kernel
theorem dL_law_880 : decode cL_law 880 = .ok (.iconst 1, 1) := by decide +kernel
theorem dL_law_881 : decode cL_law 881 = .ok (.iadd, 1) := by decide +kernel
theorem dL_law_882 : decode cL_law 882 = .ok (.iaload, 1) := by decide +kernel
theorem dL_law_883 : decode cL_law 883 = .ok (.aload_n 0, 1) := by decide +kernel
theorem dL_law_884 : decode cL_law 884 = .ok (.iload_n 3, 1) := by decide +kernel
theorem dL_law_885 : decode cL_law 885 = .ok (.iconst 2, 1) := by decide +kernel
theorem dL_law_886 : decode cL_law 886 = .ok (.iadd, 1) := by decide +kernel
theorem dL_law_887 : decode cL_law 887 = .ok (.iaload, 1) := by decide +kernel
theorem dL_law_888 : decode cL_law 888 = .ok (.aload_n 0, 1) := by decide +kernel
theorem dL_law_889 : decode cL_law 889 = .ok (.iload_n 3, 1) := by decide +kernel
theorem dL_law_890 : decode cL_law 890 = .ok (.iconst 3, 1) := by decide +kernel
theorem dL_law_891 : decode cL_law 891 = .ok (.iadd, 1) := by decide +kernel
theorem dL_law_892 : decode cL_law 892 = .ok (.iaload, 1) := by decide +kernel
theorem dL_law_893 : decode cL_law 893 = .ok (.aload_n 0, 1) := by decide +kernel
theorem dL_law_894 : decode cL_law 894 = .ok (.iload_n 3, 1) := by decide +kernel
theorem dL_law_895 : decode cL_law 895 = .ok (.iconst 4, 1) := by decide +kernel
theorem dL_law_896 : decode cL_law 896 = .ok (.iadd, 1) := by decide +kernel
theorem dL_law_897 : decode cL_law 897 = .ok (.iaload, 1) := by decide +kernel
theorem dL_law_898 : decode cL_law 898 = .ok (.aload_n 0, 1) := by decide +kernel
theorem dL_law_899 : decode cL_law 899 = .ok (.iload_n 3, 1) := by decide +kernel
theorem dL_law_900 : decode cL_law 900 = .ok (.iconst 5, 1) := by decide +kernel
theorem dL_law_901 : decode cL_law 901 = .ok (.iadd, 1) := by decide +kernel
theorem dL_law_902 : decode cL_law 902 = .ok (.iaload, 1) := by decide +kernel
theorem dL_law_903 : decode cL_law 903 = .ok (.ifCond .eq 7, 3) := by decide +kernel
theorem dL_law_906 : decode cL_law 906 = .ok (.iconst 1, 1) := by decide +kernel
theorem dL_law_907 : decode cL_law 907 = .ok (.goto 4, 3) := by decide +kernel
theorem dL_law_910 : decode cL_law 910 = .ok (.iconst 0, 1) := by decide +kernel
theorem dL_law_911 : decode cL_law 911 = .ok (.aload_n 0, 1) := by decide +kernel
theorem dL_law_912 : decode cL_law 912 = .ok (.iload_n 3, 1) := by decide +kernel
theorem dL_law_913 : decode cL_law 913 = .ok (.bipush 6, 2) := by decide +kernel
theorem dL_law_915 : decode cL_law 915 = .ok (.iadd, 1) := by decide +kernel
theorem dL_law_916 : decode cL_law 916 = .ok (.iaload, 1) := by decide +kernel
theorem dL_law_917 : decode cL_law 917 = .ok (.invokevirtual 99, 3) := by decide +kernel
theorem dL_law_920 : decode cL_law 920 = .ok (.if_icmp .eq 5, 3) := by decide +kernel
theorem dL_law_923 : decode cL_law 923 = .ok (.iconst 0, 1) := by decide +kernel
theorem dL_law_924 : decode cL_law 924 = .ok (.ireturn, 1) := by decide +kernel
theorem dL_law_925 : decode cL_law 925 = .ok (.iinc 3 7, 3) := by decide +kernel
theorem dL_law_928 : decode cL_law 928 = .ok (.goto (-910), 3) := by decide +kernel
theorem dL_law_931 : decode cL_law 931 = .ok (.iconst 1, 1) := by decide +kernel
theorem dL_law_932 : decode cL_law 932 = .ok (.ireturn, 1) := by decide +kernel
