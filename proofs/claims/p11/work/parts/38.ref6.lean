theorem d_Mo_single_0 : decode c_Mo_single 0 = .ok (.aload_n 0, 1) := by decide +kernel
theorem d_Mo_single_1 : decode c_Mo_single 1 = .ok (.getfield 87, 3) := by decide +kernel
theorem d_Mo_single_4 : decode c_Mo_single 4 = .ok (.istore_n 1, 1) := by decide +kernel
theorem d_Mo_single_5 : decode c_Mo_single 5 = .ok (.aload_n 0, 1) := by decide +kernel
theorem d_Mo_single_6 : decode c_Mo_single 6 = .ok (.invokevirtual 96, 3) := by decide +kernel
theorem d_Mo_single_9 : decode c_Mo_single 9 = .ok (.istore_n 2, 1) := by decide +kernel
theorem d_Mo_single_10 : decode c_Mo_single 10 = .ok (.iload_n 2, 1) := by decide +kernel
theorem d_Mo_single_11 : decode c_Mo_single 11 = .ok (.invokestatic 103, 3) := by decide +kernel
theorem d_Mo_single_14 : decode c_Mo_single 14 = .ok (.ifCond .eq 42, 3) := by decide +kernel
theorem d_Mo_single_17 : decode c_Mo_single 17 = .ok (.aload_n 0, 1) := by decide +kernel
theorem d_Mo_single_18 : decode c_Mo_single 18 = .ok (.invokevirtual 148, 3) := by decide +kernel
theorem d_Mo_single_21 : decode c_Mo_single 21 = .ok (.istore_n 3, 1) := by decide +kernel
theorem d_Mo_single_22 : decode c_Mo_single 22 = .ok (.aload_n 0, 1) := by decide +kernel
theorem d_Mo_single_23 : decode c_Mo_single 23 = .ok (.bipush 6, 2) := by decide +kernel
theorem d_Mo_single_25 : decode c_Mo_single 25 = .ok (.iload_n 1, 1) := by decide +kernel
theorem d_Mo_single_26 : decode c_Mo_single 26 = .ok (.invokevirtual 132, 3) := by decide +kernel
theorem d_Mo_single_29 : decode c_Mo_single 29 = .ok (.istore 4, 2) := by decide +kernel
theorem d_Mo_single_31 : decode c_Mo_single 31 = .ok (.aload_n 0, 1) := by decide +kernel
theorem d_Mo_single_32 : decode c_Mo_single 32 = .ok (.getfield 90, 3) := by decide +kernel
theorem d_Mo_single_35 : decode c_Mo_single 35 = .ok (.ifCond .le 4, 3) := by decide +kernel
theorem d_Mo_single_38 : decode c_Mo_single 38 = .ok (.return_, 1) := by decide +kernel
theorem d_Mo_single_39 : decode c_Mo_single 39 = .ok (.aload_n 0, 1) := by decide +kernel
theorem d_Mo_single_40 : decode c_Mo_single 40 = .ok (.getfield 27, 3) := by decide +kernel
theorem d_Mo_single_43 : decode c_Mo_single 43 = .ok (.iload 4, 2) := by decide +kernel
theorem d_Mo_single_45 : decode c_Mo_single 45 = .ok (.iload_n 3, 1) := by decide +kernel
theorem d_Mo_single_46 : decode c_Mo_single 46 = .ok (.iastore, 1) := by decide +kernel
theorem d_Mo_single_47 : decode c_Mo_single 47 = .ok (.aload_n 0, 1) := by decide +kernel
theorem d_Mo_single_48 : decode c_Mo_single 48 = .ok (.iload 4, 2) := by decide +kernel
theorem d_Mo_single_50 : decode c_Mo_single 50 = .ok (.invokevirtual 151, 3) := by decide +kernel
theorem d_Mo_single_53 : decode c_Mo_single 53 = .ok (.goto 264, 3) := by decide +kernel
theorem d_Mo_single_56 : decode c_Mo_single 56 = .ok (.iload_n 2, 1) := by decide +kernel
theorem d_Mo_single_57 : decode c_Mo_single 57 = .ok (.bipush 40, 2) := by decide +kernel
theorem d_Mo_single_59 : decode c_Mo_single 59 = .ok (.if_icmp .eq 9, 3) := by decide +kernel
theorem d_Mo_single_62 : decode c_Mo_single 62 = .ok (.iload_n 2, 1) := by decide +kernel
theorem d_Mo_single_63 : decode c_Mo_single 63 = .ok (.bipush 91, 2) := by decide +kernel
theorem d_Mo_single_65 : decode c_Mo_single 65 = .ok (.if_icmp .ne 73, 3) := by decide +kernel
theorem d_Mo_single_68 : decode c_Mo_single 68 = .ok (.aload_n 0, 1) := by decide +kernel
theorem d_Mo_single_69 : decode c_Mo_single 69 = .ok (.getfield 123, 3) := by decide +kernel
theorem d_Mo_single_72 : decode c_Mo_single 72 = .ok (.bipush 6, 2) := by decide +kernel
theorem d_Mo_single_74 : decode c_Mo_single 74 = .ok (.if_icmp .le 10, 3) := by decide +kernel
theorem d_Mo_single_77 : decode c_Mo_single 77 = .ok (.aload_n 0, 1) := by decide +kernel
theorem d_Mo_single_78 : decode c_Mo_single 78 = .ok (.iconst 2, 1) := by decide +kernel
theorem d_Mo_single_79 : decode c_Mo_single 79 = .ok (.iload_n 1, 1) := by decide +kernel
theorem d_Mo_single_80 : decode c_Mo_single 80 = .ok (.invokevirtual 113, 3) := by decide +kernel
theorem d_Mo_single_83 : decode c_Mo_single 83 = .ok (.return_, 1) := by decide +kernel
theorem d_Mo_single_84 : decode c_Mo_single 84 = .ok (.iload_n 2, 1) := by decide +kernel
theorem d_Mo_single_85 : decode c_Mo_single 85 = .ok (.bipush 91, 2) := by decide +kernel
theorem d_Mo_single_87 : decode c_Mo_single 87 = .ok (.if_icmp .ne 12, 3) := by decide +kernel
theorem d_Mo_single_90 : decode c_Mo_single 90 = .ok (.aload_n 0, 1) := by decide +kernel
theorem d_Mo_single_91 : decode c_Mo_single 91 = .ok (.iconst 3, 1) := by decide +kernel
theorem d_Mo_single_92 : decode c_Mo_single 92 = .ok (.iload_n 1, 1) := by decide +kernel
theorem d_Mo_single_93 : decode c_Mo_single 93 = .ok (.invokevirtual 132, 3) := by decide +kernel
theorem d_Mo_single_96 : decode c_Mo_single 96 = .ok (.goto 4, 3) := by decide +kernel
theorem d_Mo_single_99 : decode c_Mo_single 99 = .ok (.iconst (-1), 1) := by decide +kernel
theorem d_Mo_single_100 : decode c_Mo_single 100 = .ok (.istore_n 3, 1) := by decide +kernel
theorem d_Mo_single_101 : decode c_Mo_single 101 = .ok (.aload_n 0, 1) := by decide +kernel
theorem d_Mo_single_102 : decode c_Mo_single 102 = .ok (.getfield 90, 3) := by decide +kernel
theorem d_Mo_single_105 : decode c_Mo_single 105 = .ok (.ifCond .le 4, 3) := by decide +kernel
theorem d_Mo_single_108 : decode c_Mo_single 108 = .ok (.return_, 1) := by decide +kernel
theorem d_Mo_single_109 : decode c_Mo_single 109 = .ok (.aload_n 0, 1) := by decide +kernel
theorem d_Mo_single_110 : decode c_Mo_single 110 = .ok (.dup, 1) := by decide +kernel
theorem d_Mo_single_111 : decode c_Mo_single 111 = .ok (.getfield 87, 3) := by decide +kernel
theorem d_Mo_single_114 : decode c_Mo_single 114 = .ok (.iconst 1, 1) := by decide +kernel
theorem d_Mo_single_115 : decode c_Mo_single 115 = .ok (.iadd, 1) := by decide +kernel
theorem d_Mo_single_116 : decode c_Mo_single 116 = .ok (.putfield 87, 3) := by decide +kernel
theorem d_Mo_single_119 : decode c_Mo_single 119 = .ok (.aload_n 0, 1) := by decide +kernel
theorem d_Mo_single_120 : decode c_Mo_single 120 = .ok (.iload_n 2, 1) := by decide +kernel
theorem d_Mo_single_121 : decode c_Mo_single 121 = .ok (.bipush 40, 2) := by decide +kernel
theorem d_Mo_single_123 : decode c_Mo_single 123 = .ok (.if_icmp .ne 7, 3) := by decide +kernel
theorem d_Mo_single_126 : decode c_Mo_single 126 = .ok (.iconst 1, 1) := by decide +kernel
theorem d_Mo_single_127 : decode c_Mo_single 127 = .ok (.goto 4, 3) := by decide +kernel
theorem d_Mo_single_130 : decode c_Mo_single 130 = .ok (.iconst 2, 1) := by decide +kernel
theorem d_Mo_single_131 : decode c_Mo_single 131 = .ok (.iload_n 3, 1) := by decide +kernel
theorem d_Mo_single_132 : decode c_Mo_single 132 = .ok (.invokevirtual 155, 3) := by decide +kernel
theorem d_Mo_single_135 : decode c_Mo_single 135 = .ok (.goto 182, 3) := by decide +kernel
theorem d_Mo_single_138 : decode c_Mo_single 138 = .ok (.iload_n 2, 1) := by decide +kernel
theorem d_Mo_single_139 : decode c_Mo_single 139 = .ok (.bipush 34, 2) := by decide +kernel
theorem d_Mo_single_141 : decode c_Mo_single 141 = .ok (.if_icmp .ne 25, 3) := by decide +kernel
theorem d_Mo_single_144 : decode c_Mo_single 144 = .ok (.aload_n 0, 1) := by decide +kernel
theorem d_Mo_single_145 : decode c_Mo_single 145 = .ok (.iconst 4, 1) := by decide +kernel
theorem d_Mo_single_146 : decode c_Mo_single 146 = .ok (.iload_n 1, 1) := by decide +kernel
theorem d_Mo_single_147 : decode c_Mo_single 147 = .ok (.invokevirtual 132, 3) := by decide +kernel
theorem d_Mo_single_150 : decode c_Mo_single 150 = .ok (.istore_n 3, 1) := by decide +kernel
theorem d_Mo_single_151 : decode c_Mo_single 151 = .ok (.aload_n 0, 1) := by decide +kernel
theorem d_Mo_single_152 : decode c_Mo_single 152 = .ok (.getfield 90, 3) := by decide +kernel
theorem d_Mo_single_155 : decode c_Mo_single 155 = .ok (.ifCond .ne 8, 3) := by decide +kernel
theorem d_Mo_single_158 : decode c_Mo_single 158 = .ok (.aload_n 0, 1) := by decide +kernel
theorem d_Mo_single_159 : decode c_Mo_single 159 = .ok (.iload_n 3, 1) := by decide +kernel
theorem d_Mo_single_160 : decode c_Mo_single 160 = .ok (.invokevirtual 158, 3) := by decide +kernel
theorem d_Mo_single_163 : decode c_Mo_single 163 = .ok (.goto 154, 3) := by decide +kernel
theorem d_Mo_single_166 : decode c_Mo_single 166 = .ok (.aload_n 0, 1) := by decide +kernel
theorem d_Mo_single_167 : decode c_Mo_single 167 = .ok (.iconst 4, 1) := by decide +kernel
theorem d_Mo_single_168 : decode c_Mo_single 168 = .ok (.iload_n 1, 1) := by decide +kernel
theorem d_Mo_single_169 : decode c_Mo_single 169 = .ok (.invokevirtual 132, 3) := by decide +kernel
theorem d_Mo_single_172 : decode c_Mo_single 172 = .ok (.istore_n 3, 1) := by decide +kernel
theorem d_Mo_single_173 : decode c_Mo_single 173 = .ok (.aload_n 0, 1) := by decide +kernel
theorem d_Mo_single_174 : decode c_Mo_single 174 = .ok (.dup, 1) := by decide +kernel
theorem d_Mo_single_175 : decode c_Mo_single 175 = .ok (.getfield 87, 3) := by decide +kernel
theorem d_Mo_single_178 : decode c_Mo_single 178 = .ok (.iconst 1, 1) := by decide +kernel
theorem d_Mo_single_179 : decode c_Mo_single 179 = .ok (.iadd, 1) := by decide +kernel
theorem d_Mo_single_180 : decode c_Mo_single 180 = .ok (.putfield 87, 3) := by decide +kernel
theorem d_Mo_single_183 : decode c_Mo_single 183 = .ok (.aload_n 0, 1) := by decide +kernel
theorem d_Mo_single_184 : decode c_Mo_single 184 = .ok (.invokevirtual 96, 3) := by decide +kernel
theorem d_Mo_single_187 : decode c_Mo_single 187 = .ok (.invokestatic 117, 3) := by decide +kernel
theorem d_Mo_single_190 : decode c_Mo_single 190 = .ok (.istore 4, 2) := by decide +kernel
theorem d_Mo_single_192 : decode c_Mo_single 192 = .ok (.aload_n 0, 1) := by decide +kernel
theorem d_Mo_single_193 : decode c_Mo_single 193 = .ok (.getfield 90, 3) := by decide +kernel
theorem d_Mo_single_196 : decode c_Mo_single 196 = .ok (.ifCond .ne 33, 3) := by decide +kernel
theorem d_Mo_single_199 : decode c_Mo_single 199 = .ok (.iload 4, 2) := by decide +kernel
theorem d_Mo_single_201 : decode c_Mo_single 201 = .ok (.bipush 100, 2) := by decide +kernel
theorem d_Mo_single_203 : decode c_Mo_single 203 = .ok (.if_icmp .eq 26, 3) := by decide +kernel
theorem d_Mo_single_206 : decode c_Mo_single 206 = .ok (.iload 4, 2) := by decide +kernel
theorem d_Mo_single_208 : decode c_Mo_single 208 = .ok (.bipush 120, 2) := by decide +kernel
theorem d_Mo_single_210 : decode c_Mo_single 210 = .ok (.if_icmp .eq 19, 3) := by decide +kernel
theorem d_Mo_single_213 : decode c_Mo_single 213 = .ok (.iload 4, 2) := by decide +kernel
theorem d_Mo_single_215 : decode c_Mo_single 215 = .ok (.bipush 115, 2) := by decide +kernel
theorem d_Mo_single_217 : decode c_Mo_single 217 = .ok (.if_icmp .eq 12, 3) := by decide +kernel
theorem d_Mo_single_220 : decode c_Mo_single 220 = .ok (.aload_n 0, 1) := by decide +kernel
theorem d_Mo_single_221 : decode c_Mo_single 221 = .ok (.iconst 1, 1) := by decide +kernel
theorem d_Mo_single_222 : decode c_Mo_single 222 = .ok (.aload_n 0, 1) := by decide +kernel
theorem d_Mo_single_223 : decode c_Mo_single 223 = .ok (.getfield 87, 3) := by decide +kernel
theorem d_Mo_single_226 : decode c_Mo_single 226 = .ok (.invokevirtual 113, 3) := by decide +kernel
theorem d_Mo_single_229 : decode c_Mo_single 229 = .ok (.aload_n 0, 1) := by decide +kernel
theorem d_Mo_single_230 : decode c_Mo_single 230 = .ok (.getfield 90, 3) := by decide +kernel
theorem d_Mo_single_233 : decode c_Mo_single 233 = .ok (.ifCond .le 4, 3) := by decide +kernel
theorem d_Mo_single_236 : decode c_Mo_single 236 = .ok (.return_, 1) := by decide +kernel
theorem d_Mo_single_237 : decode c_Mo_single 237 = .ok (.aload_n 0, 1) := by decide +kernel
theorem d_Mo_single_238 : decode c_Mo_single 238 = .ok (.dup, 1) := by decide +kernel
theorem d_Mo_single_239 : decode c_Mo_single 239 = .ok (.getfield 87, 3) := by decide +kernel
theorem d_Mo_single_242 : decode c_Mo_single 242 = .ok (.iconst 1, 1) := by decide +kernel
theorem d_Mo_single_243 : decode c_Mo_single 243 = .ok (.iadd, 1) := by decide +kernel
theorem d_Mo_single_244 : decode c_Mo_single 244 = .ok (.putfield 87, 3) := by decide +kernel
theorem d_Mo_single_247 : decode c_Mo_single 247 = .ok (.aload_n 0, 1) := by decide +kernel
theorem d_Mo_single_248 : decode c_Mo_single 248 = .ok (.getfield 33, 3) := by decide +kernel
theorem d_Mo_single_251 : decode c_Mo_single 251 = .ok (.iload_n 3, 1) := by decide +kernel
theorem d_Mo_single_252 : decode c_Mo_single 252 = .ok (.iconst 1, 1) := by decide +kernel
theorem d_Mo_single_253 : decode c_Mo_single 253 = .ok (.bastore, 1) := by decide +kernel
theorem d_Mo_single_254 : decode c_Mo_single 254 = .ok (.iload 4, 2) := by decide +kernel
theorem d_Mo_single_256 : decode c_Mo_single 256 = .ok (.bipush 115, 2) := by decide +kernel
theorem d_Mo_single_258 : decode c_Mo_single 258 = .ok (.if_icmp .ne 24, 3) := by decide +kernel
theorem d_Mo_single_261 : decode c_Mo_single 261 = .ok (.aload_n 0, 1) := by decide +kernel
theorem d_Mo_single_262 : decode c_Mo_single 262 = .ok (.invokevirtual 96, 3) := by decide +kernel
theorem d_Mo_single_265 : decode c_Mo_single 265 = .ok (.bipush 34, 2) := by decide +kernel
theorem d_Mo_single_267 : decode c_Mo_single 267 = .ok (.if_icmp .eq 15, 3) := by decide +kernel
theorem d_Mo_single_270 : decode c_Mo_single 270 = .ok (.aload_n 0, 1) := by decide +kernel
theorem d_Mo_single_271 : decode c_Mo_single 271 = .ok (.iconst 1, 1) := by decide +kernel
theorem d_Mo_single_272 : decode c_Mo_single 272 = .ok (.aload_n 0, 1) := by decide +kernel
theorem d_Mo_single_273 : decode c_Mo_single 273 = .ok (.getfield 87, 3) := by decide +kernel
theorem d_Mo_single_276 : decode c_Mo_single 276 = .ok (.invokevirtual 113, 3) := by decide +kernel
theorem d_Mo_single_279 : decode c_Mo_single 279 = .ok (.goto 38, 3) := by decide +kernel
theorem d_Mo_single_282 : decode c_Mo_single 282 = .ok (.iload 4, 2) := by decide +kernel
theorem d_Mo_single_284 : decode c_Mo_single 284 = .ok (.bipush 115, 2) := by decide +kernel
theorem d_Mo_single_286 : decode c_Mo_single 286 = .ok (.if_icmp .ne 11, 3) := by decide +kernel
theorem d_Mo_single_289 : decode c_Mo_single 289 = .ok (.aload_n 0, 1) := by decide +kernel
theorem d_Mo_single_290 : decode c_Mo_single 290 = .ok (.iload_n 3, 1) := by decide +kernel
theorem d_Mo_single_291 : decode c_Mo_single 291 = .ok (.invokevirtual 158, 3) := by decide +kernel
theorem d_Mo_single_294 : decode c_Mo_single 294 = .ok (.goto 23, 3) := by decide +kernel
theorem d_Mo_single_297 : decode c_Mo_single 297 = .ok (.aload_n 0, 1) := by decide +kernel
theorem d_Mo_single_298 : decode c_Mo_single 298 = .ok (.iload_n 3, 1) := by decide +kernel
theorem d_Mo_single_299 : decode c_Mo_single 299 = .ok (.iload_n 1, 1) := by decide +kernel
theorem d_Mo_single_300 : decode c_Mo_single 300 = .ok (.iload 4, 2) := by decide +kernel
theorem d_Mo_single_302 : decode c_Mo_single 302 = .ok (.bipush 100, 2) := by decide +kernel
theorem d_Mo_single_304 : decode c_Mo_single 304 = .ok (.if_icmp .ne 8, 3) := by decide +kernel
theorem d_Mo_single_307 : decode c_Mo_single 307 = .ok (.bipush 10, 2) := by decide +kernel
theorem d_Mo_single_309 : decode c_Mo_single 309 = .ok (.goto 5, 3) := by decide +kernel
theorem d_Mo_single_312 : decode c_Mo_single 312 = .ok (.bipush 16, 2) := by decide +kernel
theorem d_Mo_single_314 : decode c_Mo_single 314 = .ok (.invokevirtual 161, 3) := by decide +kernel
theorem d_Mo_single_317 : decode c_Mo_single 317 = .ok (.return_, 1) := by decide +kernel
theorem d_Mo_repetition_0 : decode c_Mo_repetition 0 = .ok (.aload_n 0, 1) := by decide +kernel
theorem d_Mo_repetition_1 : decode c_Mo_repetition 1 = .ok (.getfield 87, 3) := by decide +kernel
theorem d_Mo_repetition_4 : decode c_Mo_repetition 4 = .ok (.istore_n 1, 1) := by decide +kernel
theorem d_Mo_repetition_5 : decode c_Mo_repetition 5 = .ok (.aload_n 0, 1) := by decide +kernel
theorem d_Mo_repetition_6 : decode c_Mo_repetition 6 = .ok (.getfield 123, 3) := by decide +kernel
theorem d_Mo_repetition_9 : decode c_Mo_repetition 9 = .ok (.iconst 1, 1) := by decide +kernel
theorem d_Mo_repetition_10 : decode c_Mo_repetition 10 = .ok (.isub, 1) := by decide +kernel
theorem d_Mo_repetition_11 : decode c_Mo_repetition 11 = .ok (.istore_n 2, 1) := by decide +kernel
theorem d_Mo_repetition_12 : decode c_Mo_repetition 12 = .ok (.aload_n 0, 1) := by decide +kernel
theorem d_Mo_repetition_13 : decode c_Mo_repetition 13 = .ok (.invokevirtual 96, 3) := by decide +kernel
theorem d_Mo_repetition_16 : decode c_Mo_repetition 16 = .ok (.invokestatic 107, 3) := by decide +kernel
theorem d_Mo_repetition_19 : decode c_Mo_repetition 19 = .ok (.ifCond .ne 12, 3) := by decide +kernel
theorem d_Mo_repetition_22 : decode c_Mo_repetition 22 = .ok (.aload_n 0, 1) := by decide +kernel
theorem d_Mo_repetition_23 : decode c_Mo_repetition 23 = .ok (.invokevirtual 96, 3) := by decide +kernel
theorem d_Mo_repetition_26 : decode c_Mo_repetition 26 = .ok (.bipush 42, 2) := by decide +kernel
theorem d_Mo_repetition_28 : decode c_Mo_repetition 28 = .ok (.if_icmp .ne 235, 3) := by decide +kernel
theorem d_Mo_repetition_31 : decode c_Mo_repetition 31 = .ok (.aload_n 0, 1) := by decide +kernel
theorem d_Mo_repetition_32 : decode c_Mo_repetition 32 = .ok (.iconst 2, 1) := by decide +kernel
theorem d_Mo_repetition_33 : decode c_Mo_repetition 33 = .ok (.iload_n 1, 1) := by decide +kernel
theorem d_Mo_repetition_34 : decode c_Mo_repetition 34 = .ok (.invokevirtual 132, 3) := by decide +kernel
theorem d_Mo_repetition_37 : decode c_Mo_repetition 37 = .ok (.istore_n 3, 1) := by decide +kernel
theorem d_Mo_repetition_38 : decode c_Mo_repetition 38 = .ok (.aload_n 0, 1) := by decide +kernel
theorem d_Mo_repetition_39 : decode c_Mo_repetition 39 = .ok (.getfield 90, 3) := by decide +kernel
theorem d_Mo_repetition_42 : decode c_Mo_repetition 42 = .ok (.ifCond .le 4, 3) := by decide +kernel
theorem d_Mo_repetition_45 : decode c_Mo_repetition 45 = .ok (.return_, 1) := by decide +kernel
theorem d_Mo_repetition_46 : decode c_Mo_repetition 46 = .ok (.aload_n 0, 1) := by decide +kernel
theorem d_Mo_repetition_47 : decode c_Mo_repetition 47 = .ok (.aload_n 0, 1) := by decide +kernel
theorem d_Mo_repetition_48 : decode c_Mo_repetition 48 = .ok (.getfield 55, 3) := by decide +kernel
theorem d_Mo_repetition_51 : decode c_Mo_repetition 51 = .ok (.iload_n 2, 1) := by decide +kernel
theorem d_Mo_repetition_52 : decode c_Mo_repetition 52 = .ok (.iaload, 1) := by decide +kernel
theorem d_Mo_repetition_53 : decode c_Mo_repetition 53 = .ok (.iload_n 3, 1) := by decide +kernel
theorem d_Mo_repetition_54 : decode c_Mo_repetition 54 = .ok (.invokevirtual 126, 3) := by decide +kernel
theorem d_Mo_repetition_57 : decode c_Mo_repetition 57 = .ok (.aload_n 0, 1) := by decide +kernel
theorem d_Mo_repetition_58 : decode c_Mo_repetition 58 = .ok (.getfield 58, 3) := by decide +kernel
theorem d_Mo_repetition_61 : decode c_Mo_repetition 61 = .ok (.iload_n 2, 1) := by decide +kernel
theorem d_Mo_repetition_62 : decode c_Mo_repetition 62 = .ok (.iload_n 3, 1) := by decide +kernel
theorem d_Mo_repetition_63 : decode c_Mo_repetition 63 = .ok (.iastore, 1) := by decide +kernel
theorem d_Mo_repetition_64 : decode c_Mo_repetition 64 = .ok (.aload_n 0, 1) := by decide +kernel
theorem d_Mo_repetition_65 : decode c_Mo_repetition 65 = .ok (.invokevirtual 96, 3) := by decide +kernel
theorem d_Mo_repetition_68 : decode c_Mo_repetition 68 = .ok (.invokestatic 107, 3) := by decide +kernel
theorem d_Mo_repetition_71 : decode c_Mo_repetition 71 = .ok (.istore 4, 2) := by decide +kernel
theorem d_Mo_repetition_73 : decode c_Mo_repetition 73 = .ok (.aload_n 0, 1) := by decide +kernel
theorem d_Mo_repetition_74 : decode c_Mo_repetition 74 = .ok (.getfield 27, 3) := by decide +kernel
theorem d_Mo_repetition_77 : decode c_Mo_repetition 77 = .ok (.iload_n 3, 1) := by decide +kernel
theorem d_Mo_repetition_78 : decode c_Mo_repetition 78 = .ok (.iload 4, 2) := by decide +kernel
theorem d_Mo_repetition_80 : decode c_Mo_repetition 80 = .ok (.ifCond .eq 13, 3) := by decide +kernel
theorem d_Mo_repetition_83 : decode c_Mo_repetition 83 = .ok (.aload_n 0, 1) := by decide +kernel
theorem d_Mo_repetition_84 : decode c_Mo_repetition 84 = .ok (.invokevirtual 96, 3) := by decide +kernel
theorem d_Mo_repetition_87 : decode c_Mo_repetition 87 = .ok (.bipush 48, 2) := by decide +kernel
theorem d_Mo_repetition_89 : decode c_Mo_repetition 89 = .ok (.isub, 1) := by decide +kernel
theorem d_Mo_repetition_90 : decode c_Mo_repetition 90 = .ok (.goto 4, 3) := by decide +kernel
theorem d_Mo_repetition_93 : decode c_Mo_repetition 93 = .ok (.iconst 0, 1) := by decide +kernel
theorem d_Mo_repetition_94 : decode c_Mo_repetition 94 = .ok (.iastore, 1) := by decide +kernel
theorem d_Mo_repetition_95 : decode c_Mo_repetition 95 = .ok (.aload_n 0, 1) := by decide +kernel
theorem d_Mo_repetition_96 : decode c_Mo_repetition 96 = .ok (.dup, 1) := by decide +kernel
theorem d_Mo_repetition_97 : decode c_Mo_repetition 97 = .ok (.getfield 87, 3) := by decide +kernel
theorem d_Mo_repetition_100 : decode c_Mo_repetition 100 = .ok (.iload 4, 2) := by decide +kernel
theorem d_Mo_repetition_102 : decode c_Mo_repetition 102 = .ok (.ifCond .eq 7, 3) := by decide +kernel
theorem d_Mo_repetition_105 : decode c_Mo_repetition 105 = .ok (.iconst 1, 1) := by decide +kernel
theorem d_Mo_repetition_106 : decode c_Mo_repetition 106 = .ok (.goto 4, 3) := by decide +kernel
theorem d_Mo_repetition_109 : decode c_Mo_repetition 109 = .ok (.iconst 0, 1) := by decide +kernel
theorem d_Mo_repetition_110 : decode c_Mo_repetition 110 = .ok (.iadd, 1) := by decide +kernel
theorem d_Mo_repetition_111 : decode c_Mo_repetition 111 = .ok (.putfield 87, 3) := by decide +kernel
theorem d_Mo_repetition_114 : decode c_Mo_repetition 114 = .ok (.aload_n 0, 1) := by decide +kernel
theorem d_Mo_repetition_115 : decode c_Mo_repetition 115 = .ok (.getfield 30, 3) := by decide +kernel
theorem d_Mo_repetition_118 : decode c_Mo_repetition 118 = .ok (.iload_n 3, 1) := by decide +kernel
theorem d_Mo_repetition_119 : decode c_Mo_repetition 119 = .ok (.aload_n 0, 1) := by decide +kernel
theorem d_Mo_repetition_120 : decode c_Mo_repetition 120 = .ok (.getfield 27, 3) := by decide +kernel
theorem d_Mo_repetition_123 : decode c_Mo_repetition 123 = .ok (.iload_n 3, 1) := by decide +kernel
theorem d_Mo_repetition_124 : decode c_Mo_repetition 124 = .ok (.iaload, 1) := by decide +kernel
theorem d_Mo_repetition_125 : decode c_Mo_repetition 125 = .ok (.iastore, 1) := by decide +kernel
theorem d_Mo_repetition_126 : decode c_Mo_repetition 126 = .ok (.aload_n 0, 1) := by decide +kernel
theorem d_Mo_repetition_127 : decode c_Mo_repetition 127 = .ok (.invokevirtual 96, 3) := by decide +kernel
theorem d_Mo_repetition_130 : decode c_Mo_repetition 130 = .ok (.bipush 42, 2) := by decide +kernel
theorem d_Mo_repetition_132 : decode c_Mo_repetition 132 = .ok (.if_icmp .ne 63, 3) := by decide +kernel
theorem d_Mo_repetition_135 : decode c_Mo_repetition 135 = .ok (.aload_n 0, 1) := by decide +kernel
theorem d_Mo_repetition_136 : decode c_Mo_repetition 136 = .ok (.dup, 1) := by decide +kernel
theorem d_Mo_repetition_137 : decode c_Mo_repetition 137 = .ok (.getfield 87, 3) := by decide +kernel
theorem d_Mo_repetition_140 : decode c_Mo_repetition 140 = .ok (.iconst 1, 1) := by decide +kernel
theorem d_Mo_repetition_141 : decode c_Mo_repetition 141 = .ok (.iadd, 1) := by decide +kernel
theorem d_Mo_repetition_142 : decode c_Mo_repetition 142 = .ok (.putfield 87, 3) := by decide +kernel
theorem d_Mo_repetition_145 : decode c_Mo_repetition 145 = .ok (.aload_n 0, 1) := by decide +kernel
theorem d_Mo_repetition_146 : decode c_Mo_repetition 146 = .ok (.getfield 30, 3) := by decide +kernel
theorem d_Mo_repetition_149 : decode c_Mo_repetition 149 = .ok (.iload_n 3, 1) := by decide +kernel
theorem d_Mo_repetition_150 : decode c_Mo_repetition 150 = .ok (.aload_n 0, 1) := by decide +kernel
theorem d_Mo_repetition_151 : decode c_Mo_repetition 151 = .ok (.invokevirtual 96, 3) := by decide +kernel
theorem d_Mo_repetition_154 : decode c_Mo_repetition 154 = .ok (.invokestatic 107, 3) := by decide +kernel
theorem d_Mo_repetition_157 : decode c_Mo_repetition 157 = .ok (.ifCond .eq 13, 3) := by decide +kernel
theorem d_Mo_repetition_160 : decode c_Mo_repetition 160 = .ok (.aload_n 0, 1) := by decide +kernel
theorem d_Mo_repetition_161 : decode c_Mo_repetition 161 = .ok (.invokevirtual 96, 3) := by decide +kernel
theorem d_Mo_repetition_164 : decode c_Mo_repetition 164 = .ok (.bipush 48, 2) := by decide +kernel
theorem d_Mo_repetition_166 : decode c_Mo_repetition 166 = .ok (.isub, 1) := by decide +kernel
theorem d_Mo_repetition_167 : decode c_Mo_repetition 167 = .ok (.goto 4, 3) := by decide +kernel
theorem d_Mo_repetition_170 : decode c_Mo_repetition 170 = .ok (.iconst (-1), 1) := by decide +kernel
theorem d_Mo_repetition_171 : decode c_Mo_repetition 171 = .ok (.iastore, 1) := by decide +kernel
theorem d_Mo_repetition_172 : decode c_Mo_repetition 172 = .ok (.aload_n 0, 1) := by decide +kernel
theorem d_Mo_repetition_173 : decode c_Mo_repetition 173 = .ok (.dup, 1) := by decide +kernel
theorem d_Mo_repetition_174 : decode c_Mo_repetition 174 = .ok (.getfield 87, 3) := by decide +kernel
theorem d_Mo_repetition_177 : decode c_Mo_repetition 177 = .ok (.aload_n 0, 1) := by decide +kernel
theorem d_Mo_repetition_178 : decode c_Mo_repetition 178 = .ok (.getfield 30, 3) := by decide +kernel
theorem d_Mo_repetition_181 : decode c_Mo_repetition 181 = .ok (.iload_n 3, 1) := by decide +kernel
theorem d_Mo_repetition_182 : decode c_Mo_repetition 182 = .ok (.iaload, 1) := by decide +kernel
theorem d_Mo_repetition_183 : decode c_Mo_repetition 183 = .ok (.ifCond .lt 7, 3) := by decide +kernel
theorem d_Mo_repetition_186 : decode c_Mo_repetition 186 = .ok (.iconst 1, 1) := by decide +kernel
theorem d_Mo_repetition_187 : decode c_Mo_repetition 187 = .ok (.goto 4, 3) := by decide +kernel
theorem d_Mo_repetition_190 : decode c_Mo_repetition 190 = .ok (.iconst 0, 1) := by decide +kernel
theorem d_Mo_repetition_191 : decode c_Mo_repetition 191 = .ok (.iadd, 1) := by decide +kernel
theorem d_Mo_repetition_192 : decode c_Mo_repetition 192 = .ok (.putfield 87, 3) := by decide +kernel
theorem d_Mo_repetition_195 : decode c_Mo_repetition 195 = .ok (.aload_n 0, 1) := by decide +kernel
theorem d_Mo_repetition_196 : decode c_Mo_repetition 196 = .ok (.getfield 30, 3) := by decide +kernel
theorem d_Mo_repetition_199 : decode c_Mo_repetition 199 = .ok (.iload_n 3, 1) := by decide +kernel
theorem d_Mo_repetition_200 : decode c_Mo_repetition 200 = .ok (.iaload, 1) := by decide +kernel
theorem d_Mo_repetition_201 : decode c_Mo_repetition 201 = .ok (.ifCond .lt 24, 3) := by decide +kernel
theorem d_Mo_repetition_204 : decode c_Mo_repetition 204 = .ok (.aload_n 0, 1) := by decide +kernel
theorem d_Mo_repetition_205 : decode c_Mo_repetition 205 = .ok (.getfield 27, 3) := by decide +kernel
theorem d_Mo_repetition_208 : decode c_Mo_repetition 208 = .ok (.iload_n 3, 1) := by decide +kernel
theorem d_Mo_repetition_209 : decode c_Mo_repetition 209 = .ok (.iaload, 1) := by decide +kernel
theorem d_Mo_repetition_210 : decode c_Mo_repetition 210 = .ok (.aload_n 0, 1) := by decide +kernel
theorem d_Mo_repetition_211 : decode c_Mo_repetition 211 = .ok (.getfield 30, 3) := by decide +kernel
theorem d_Mo_repetition_214 : decode c_Mo_repetition 214 = .ok (.iload_n 3, 1) := by decide +kernel
theorem d_Mo_repetition_215 : decode c_Mo_repetition 215 = .ok (.iaload, 1) := by decide +kernel
theorem d_Mo_repetition_216 : decode c_Mo_repetition 216 = .ok (.if_icmp .le 9, 3) := by decide +kernel
theorem d_Mo_repetition_219 : decode c_Mo_repetition 219 = .ok (.aload_n 0, 1) := by decide +kernel
theorem d_Mo_repetition_220 : decode c_Mo_repetition 220 = .ok (.iconst 1, 1) := by decide +kernel
theorem d_Mo_repetition_221 : decode c_Mo_repetition 221 = .ok (.iload_n 1, 1) := by decide +kernel
theorem d_Mo_repetition_222 : decode c_Mo_repetition 222 = .ok (.invokevirtual 113, 3) := by decide +kernel
theorem d_Mo_repetition_225 : decode c_Mo_repetition 225 = .ok (.aload_n 0, 1) := by decide +kernel
theorem d_Mo_repetition_226 : decode c_Mo_repetition 226 = .ok (.invokevirtual 96, 3) := by decide +kernel
theorem d_Mo_repetition_229 : decode c_Mo_repetition 229 = .ok (.invokestatic 129, 3) := by decide +kernel
theorem d_Mo_repetition_232 : decode c_Mo_repetition 232 = .ok (.ifCond .eq 22, 3) := by decide +kernel
theorem d_Mo_repetition_235 : decode c_Mo_repetition 235 = .ok (.aload_n 0, 1) := by decide +kernel
theorem d_Mo_repetition_236 : decode c_Mo_repetition 236 = .ok (.invokevirtual 96, 3) := by decide +kernel
theorem d_Mo_repetition_239 : decode c_Mo_repetition 239 = .ok (.invokestatic 107, 3) := by decide +kernel
theorem d_Mo_repetition_242 : decode c_Mo_repetition 242 = .ok (.ifCond .ne 12, 3) := by decide +kernel
theorem d_Mo_repetition_245 : decode c_Mo_repetition 245 = .ok (.aload_n 0, 1) := by decide +kernel
theorem d_Mo_repetition_246 : decode c_Mo_repetition 246 = .ok (.invokevirtual 96, 3) := by decide +kernel
theorem d_Mo_repetition_249 : decode c_Mo_repetition 249 = .ok (.bipush 42, 2) := by decide +kernel
theorem d_Mo_repetition_251 : decode c_Mo_repetition 251 = .ok (.if_icmp .ne 12, 3) := by decide +kernel
theorem d_Mo_repetition_254 : decode c_Mo_repetition 254 = .ok (.aload_n 0, 1) := by decide +kernel
theorem d_Mo_repetition_255 : decode c_Mo_repetition 255 = .ok (.iconst 1, 1) := by decide +kernel
theorem d_Mo_repetition_256 : decode c_Mo_repetition 256 = .ok (.aload_n 0, 1) := by decide +kernel
theorem d_Mo_repetition_257 : decode c_Mo_repetition 257 = .ok (.getfield 87, 3) := by decide +kernel
theorem d_Mo_repetition_260 : decode c_Mo_repetition 260 = .ok (.invokevirtual 113, 3) := by decide +kernel
theorem d_Mo_repetition_263 : decode c_Mo_repetition 263 = .ok (.aload_n 0, 1) := by decide +kernel
theorem d_Mo_repetition_264 : decode c_Mo_repetition 264 = .ok (.getfield 90, 3) := by decide +kernel
theorem d_Mo_repetition_267 : decode c_Mo_repetition 267 = .ok (.ifCond .ne 7, 3) := by decide +kernel
theorem d_Mo_repetition_270 : decode c_Mo_repetition 270 = .ok (.aload_n 0, 1) := by decide +kernel
theorem d_Mo_repetition_271 : decode c_Mo_repetition 271 = .ok (.invokevirtual 145, 3) := by decide +kernel
theorem d_Mo_repetition_274 : decode c_Mo_repetition 274 = .ok (.return_, 1) := by decide +kernel
theorem d_Mo_sequence_0 : decode c_Mo_sequence 0 = .ok (.aload_n 0, 1) := by decide +kernel
theorem d_Mo_sequence_1 : decode c_Mo_sequence 1 = .ok (.invokevirtual 96, 3) := by decide +kernel
theorem d_Mo_sequence_4 : decode c_Mo_sequence 4 = .ok (.invokestatic 129, 3) := by decide +kernel
theorem d_Mo_sequence_7 : decode c_Mo_sequence 7 = .ok (.ifCond .ne 13, 3) := by decide +kernel
theorem d_Mo_sequence_10 : decode c_Mo_sequence 10 = .ok (.aload_n 0, 1) := by decide +kernel
theorem d_Mo_sequence_11 : decode c_Mo_sequence 11 = .ok (.iconst 1, 1) := by decide +kernel
theorem d_Mo_sequence_12 : decode c_Mo_sequence 12 = .ok (.aload_n 0, 1) := by decide +kernel
theorem d_Mo_sequence_13 : decode c_Mo_sequence 13 = .ok (.getfield 87, 3) := by decide +kernel
theorem d_Mo_sequence_16 : decode c_Mo_sequence 16 = .ok (.invokevirtual 113, 3) := by decide +kernel
theorem d_Mo_sequence_19 : decode c_Mo_sequence 19 = .ok (.return_, 1) := by decide +kernel
theorem d_Mo_sequence_20 : decode c_Mo_sequence 20 = .ok (.aload_n 0, 1) := by decide +kernel
theorem d_Mo_sequence_21 : decode c_Mo_sequence 21 = .ok (.getfield 123, 3) := by decide +kernel
theorem d_Mo_sequence_24 : decode c_Mo_sequence 24 = .ok (.iconst 1, 1) := by decide +kernel
theorem d_Mo_sequence_25 : decode c_Mo_sequence 25 = .ok (.isub, 1) := by decide +kernel
theorem d_Mo_sequence_26 : decode c_Mo_sequence 26 = .ok (.istore_n 1, 1) := by decide +kernel
theorem d_Mo_sequence_27 : decode c_Mo_sequence 27 = .ok (.aload_n 0, 1) := by decide +kernel
theorem d_Mo_sequence_28 : decode c_Mo_sequence 28 = .ok (.getfield 55, 3) := by decide +kernel
theorem d_Mo_sequence_31 : decode c_Mo_sequence 31 = .ok (.iload_n 1, 1) := by decide +kernel
theorem d_Mo_sequence_32 : decode c_Mo_sequence 32 = .ok (.aload_n 0, 1) := by decide +kernel
theorem d_Mo_sequence_33 : decode c_Mo_sequence 33 = .ok (.iconst 1, 1) := by decide +kernel
theorem d_Mo_sequence_34 : decode c_Mo_sequence 34 = .ok (.aload_n 0, 1) := by decide +kernel
theorem d_Mo_sequence_35 : decode c_Mo_sequence 35 = .ok (.getfield 87, 3) := by decide +kernel
theorem d_Mo_sequence_38 : decode c_Mo_sequence 38 = .ok (.invokevirtual 132, 3) := by decide +kernel
theorem d_Mo_sequence_41 : decode c_Mo_sequence 41 = .ok (.iastore, 1) := by decide +kernel
theorem d_Mo_sequence_42 : decode c_Mo_sequence 42 = .ok (.aload_n 0, 1) := by decide +kernel
theorem d_Mo_sequence_43 : decode c_Mo_sequence 43 = .ok (.getfield 90, 3) := by decide +kernel
theorem d_Mo_sequence_46 : decode c_Mo_sequence 46 = .ok (.ifCond .ne 19, 3) := by decide +kernel
theorem d_Mo_sequence_49 : decode c_Mo_sequence 49 = .ok (.aload_n 0, 1) := by decide +kernel
theorem d_Mo_sequence_50 : decode c_Mo_sequence 50 = .ok (.aload_n 0, 1) := by decide +kernel
theorem d_Mo_sequence_51 : decode c_Mo_sequence 51 = .ok (.getfield 52, 3) := by decide +kernel
theorem d_Mo_sequence_54 : decode c_Mo_sequence 54 = .ok (.iload_n 1, 1) := by decide +kernel
theorem d_Mo_sequence_55 : decode c_Mo_sequence 55 = .ok (.iaload, 1) := by decide +kernel
theorem d_Mo_sequence_56 : decode c_Mo_sequence 56 = .ok (.aload_n 0, 1) := by decide +kernel
theorem d_Mo_sequence_57 : decode c_Mo_sequence 57 = .ok (.getfield 55, 3) := by decide +kernel
theorem d_Mo_sequence_60 : decode c_Mo_sequence 60 = .ok (.iload_n 1, 1) := by decide +kernel
theorem d_Mo_sequence_61 : decode c_Mo_sequence 61 = .ok (.iaload, 1) := by decide +kernel
theorem d_Mo_sequence_62 : decode c_Mo_sequence 62 = .ok (.invokevirtual 126, 3) := by decide +kernel
theorem d_Mo_sequence_65 : decode c_Mo_sequence 65 = .ok (.aload_n 0, 1) := by decide +kernel
theorem d_Mo_sequence_66 : decode c_Mo_sequence 66 = .ok (.getfield 90, 3) := by decide +kernel
theorem d_Mo_sequence_69 : decode c_Mo_sequence 69 = .ok (.ifCond .ne 7, 3) := by decide +kernel
theorem d_Mo_sequence_72 : decode c_Mo_sequence 72 = .ok (.aload_n 0, 1) := by decide +kernel
theorem d_Mo_sequence_73 : decode c_Mo_sequence 73 = .ok (.invokevirtual 136, 3) := by decide +kernel
theorem d_Mo_sequence_76 : decode c_Mo_sequence 76 = .ok (.return_, 1) := by decide +kernel
theorem dg_one {x : Int32} (h : ¬ (if x < 48 ∨ 57 < x then (0 : Int32) else 1) = 0) : (if x < 48 ∨ 57 < x then (0 : Int32) else 1) = 1 := by
  by_cases q : x < 48 ∨ 57 < x
  · rw [if_pos q] at h; exact absurd rfl h
  · rw [if_neg q]
theorem FrG.rep {E f : Nat} {q : Prop} {c s t : Nat → Nat} {A : Nat → Nat → Int32} (h : FrG E f q c s t A f) : A 239 f = -1 ∨ ∃ r, A 239 f = nI r ∧ s f < r ∧ r < E := h.2.2.2.2.2.1.imp id (fun ⟨r, a, b, d, _⟩ => ⟨r, a, b, d⟩)
theorem LK.CL {E : Nat} {A : Nat → Nat → Int32} (h : LK E A) : CL E A := fun k hk => ⟨(h k hk).1.cl, (h k hk).2.cl⟩
set_option maxHeartbeats 4000000 in
set_option maxRecDepth 100000 in
theorem m_Mo_single (l : Launch) {D : va_G} {cy : Nat → ClassId} {sz n : Nat} {ad : Nat → Nat} {mem : Nat → va_E} {J : Nat → Int32} {A : Nat → Nat → Int32} {nm : Nat → Int64} {m0 : Nat → va_E} {L G a u R f : Nat} {T : Nat → Int32} {fc fs ft : Nat → Nat} {Ec : Nat} (hn : 242 ≤ n) (hM : MW cy ad J A nm m0 mem) (hNm : Num L G a u R Ec f J) (hBd : L ≤ 240 ∧ a ≤ L ∧ u ≤ a ∧ R ≤ 12 ∧ f ≤ 6) (hEb : Ec ≤ 100) (hT : A 225 = T) (hp : J 28 = 0) (hI : Inv R Ec u f True fc fs ft A (fun _ => False)) : MV l D cy sz n ad y_Mo_single c_Mo_single 5 ({ frames := 5, cells := 0, slots := 0, locals := 150 } : Room) mem [.ref (ad 224)] (fun mem' => ∃ J' A' nm', MW cy ad J' A' nm' m0 mem' ∧ Res L G T a J' A') := by
  refine Met.ofW (cc := c_Mo_single) (maxL := 5) (ret := none) (by decide) rfl ?_
  intro p e s m args below meth c s₁ B hml hv
  obtain ⟨rfl, E, hP, hD⟩ := hv
  have hx := B.exec
  have hb := B.bytes
  have hr := B.returns
  have hlocks := B.notSynchronized
  have Bx : MB p s m [.ref (ad 224)].toArray c c_Mo_single "AbnfChartModel" D cy := ⟨hx, hb, tb_all (atoms_spec B.pre) E.2.1, findClass_of_methodNamed B.named, E.1⟩
  have hS : va_S (Az sz) s.heap s.heap [] := va_S.rf
  have hl := lv_entry ([.ref (ad 224)]) (n := 5) (Nat.le_of_ble_eq_true rfl)
  rw [lg_entry_eq]
  generalize (lg_sl ([.ref (ad 224)]) ++ List.replicate (5 - (lg_sl ([.ref (ad 224)])).length) Slot.unset).toArray = ls at hl ⊢
  have hl : lv_has ls 5 [(0, .ref (ad 224))] := hl
  obtain ⟨hL, haL, huA, hRb, hfb⟩ := hBd
  obtain ⟨g1, g2, g3, g4, g5, g6, g7, g8⟩ := hNm
  have hfg := hI.2.2.2.2 f (Nat.le_refl _)
  have hrr0 := hfg.rep
  have hfs := hfg.2.2.2.1 (Or.inr trivial)
  refine lv_aload_n Bx.1 Bx.2.1 d_Mo_single_0 rfl (lv_at hl 0 rfl) ?_
  refine f_get Bx hP (by omega) hM.1 rfl inMo 16 (by decide) kw_672 rfl rfl d_Mo_single_1 ?_
  rw [g3]
  refine lv_istore_n (lv' := [(1, .int (nI a)), (0, .ref (ad 224))]) Bx.1 Bx.2.1 d_Mo_single_4 rfl hl (by decide) rfl (fun ls hl => ?_)
  refine lv_aload_n Bx.1 Bx.2.1 d_Mo_single_5 rfl (lv_at hl 1 rfl) ?_
  refine f_callVi (na := 0) (As := []) (rest := []) Bx hml E hP hD hS (by omega) hM.1 rfl (m_Mo_here l hn hM g1 hL g3 (by omega)) kw_778 kw_780 sel_Mo_here kw_8 kw_781 (by decide +kernel) ⟨rfl, rfl⟩ ⟨Nat.le_of_ble_eq_true rfl, Nat.le_of_ble_eq_true rfl⟩ rfl hl.1 (Nat.le_of_ble_eq_true rfl) d_Mo_single_6 ⟨Nat.le_of_ble_eq_true rfl, Nat.le_of_ble_eq_true rfl⟩ (fun r9 mem10 H locs hq hP hS => ?_)
  have hD : va_D (Az sz) (fw n ad mem10) := fw_D hD
  obtain ⟨hre, hq⟩ := hq
  rw [hq] at hP hD
  subst hre
  rw [show hereF L (A 225) (a) = hereF L T (a) by rw [hT]]
  refine lv_istore_n (lv' := [(2, .int (hereF L T (a))), (1, .int (nI a)), (0, .ref (ad 224))]) Bx.1 Bx.2.1 d_Mo_single_9 rfl hl (by decide) rfl (fun ls hl => ?_)
  refine lv_iload_n Bx.1 Bx.2.1 d_Mo_single_10 rfl (lv_at hl 0 rfl) ?_
  refine f_callSi (na := 1) (As := [.int (hereF L T (a))]) (rest := []) Bx hml E.2.1 (m_Mo_letter l (hereF L T (a))) kw_782 kw_783 kw_8 kw_784 (by decide +kernel) ⟨rfl, rfl⟩ ⟨Nat.le_of_ble_eq_true rfl, Nat.le_of_ble_eq_true rfl⟩ rfl hl.1 (Nat.le_of_ble_eq_true rfl) d_Mo_single_11 ⟨Nat.le_of_ble_eq_true rfl, Nat.le_of_ble_eq_true rfl⟩ (fun r12 hs11 => ?_)
  subst hs11
  refine lv_if_eq Bx.1 Bx.2.1 d_Mo_single_14 rfl (fun hb13 => ?_) (fun hb13 => ?_)
  · refine lv_iload_n Bx.1 Bx.2.1 d_Mo_single_56 rfl (lv_at hl 0 rfl) ?_
    refine lv_bipush (v := 40) Bx.1 Bx.2.1 d_Mo_single_57 (by decide) ?_
    refine lv_icmp_eq Bx.1 Bx.2.1 d_Mo_single_59 rfl (fun hb14 => ?_) (fun hb14 => ?_)
    · have hlt15 := hereF_lt (by rw [hb14]; decide)
      rw [hb14] at hl
      refine lv_aload_n Bx.1 Bx.2.1 d_Mo_single_68 rfl (lv_at hl 2 rfl) ?_
      refine f_get Bx hP (by omega) hM.1 rfl inMo 18 (by decide) kw_674 rfl rfl d_Mo_single_69 ?_
      rw [g8]
      refine lv_bipush (v := 6) Bx.1 Bx.2.1 d_Mo_single_72 (by decide) ?_
      refine lv_icmp_le Bx.1 Bx.2.1 d_Mo_single_74 rfl (fun hb16 => ?_) (fun hb16 => ?_)
      · have hN17 : f + 1 ≤ 6 := (nI_leI (by omega) (by omega)).mp (show nI (f + 1) ≤ nI (6) from hb16)
        refine lv_iload_n Bx.1 Bx.2.1 d_Mo_single_84 rfl (lv_at hl 0 rfl) ?_
        refine lv_bipush (v := 91) Bx.1 Bx.2.1 d_Mo_single_85 (by decide) ?_
        refine lv_icmp_ne Bx.1 Bx.2.1 d_Mo_single_87 rfl (fun hb18 => ?_) (fun hb18 => ?_)
        · refine lv_iconst (v := -1) Bx.1 Bx.2.1 d_Mo_single_99 (by decide) ?_
          refine lv_istore_n (lv' := [(3, .int ((-1))), (2, .int (40)), (1, .int (nI a)), (0, .ref (ad 224))]) Bx.1 Bx.2.1 d_Mo_single_100 rfl hl (by decide) rfl (fun ls hl => ?_)
          refine lv_aload_n Bx.1 Bx.2.1 d_Mo_single_101 rfl (lv_at hl 3 rfl) ?_
          refine f_get Bx hP (by omega) hM.1 rfl inMo 17 (by decide) kw_673 rfl rfl d_Mo_single_102 ?_
          rw [g4]
          refine lv_if_le Bx.1 Bx.2.1 d_Mo_single_105 rfl (fun hb19 => ?_) (fun hb19 => ?_)
          · refine lv_aload_n Bx.1 Bx.2.1 d_Mo_single_109 rfl (lv_at hl 3 rfl) ?_
            refine lv_dup Bx.1 Bx.2.1 d_Mo_single_110 rfl ?_
            refine f_get Bx hP (by omega) hM.1 rfl inMo 16 (by decide) kw_672 rfl rfl d_Mo_single_111 ?_
            rw [g3]
            refine lv_iconst (v := 1) Bx.1 Bx.2.1 d_Mo_single_114 (by decide) ?_
            refine lv_iadd Bx.1 Bx.2.1 d_Mo_single_115 ?_
            rw [show nI a + 1 = nI (a + 1) from nI_add (a) (1)]
            refine f_put Bx hP hD hS (by omega) hM.1 rfl inMo tyMo okMo nmMo 16 (by decide) kw_672 rfl rfl rfl rfl (Nat.le_of_ble_eq_true rfl) d_Mo_single_116 (fun H locs hP hS => ?_)
            obtain ⟨J20, eJ20⟩ : ∃ z, z = va_up J 16 (nI (a + 1)) := ⟨_, rfl⟩
            obtain ⟨mem21, e_mem21⟩ : ∃ z, z = va_up mem 224 (moC ad J20) := ⟨_, rfl⟩
            have hP : va_P D vcl (fw n ad mem21) H := by rw [e_mem21, eJ20]; exact hP
            have hD : va_D (Az sz) (fw n ad mem21) := fw_D hD
            have hW22 : MW cy ad J20 A nm m0 mem21 := by rw [e_mem21]; exact hM.upJ (by rw [eJ20]; exact va_up_ne _ _ (by decide))
            have kk23 : J20 1 = nI L := by rw [eJ20]; exact g1
            have kk24 : J20 24 = nI G := by rw [eJ20]; exact g2
            have kk25 : J20 17 = 0 := by rw [eJ20]; exact g4
            have kk26 : J20 14 = nI u := by rw [eJ20]; exact g5
            have kk27 : J20 4 = nI R := by rw [eJ20]; exact g6
            have kk28 : J20 7 = nI Ec := by rw [eJ20]; exact g7
            have kk29 : J20 18 = nI (f + 1) := by rw [eJ20]; exact g8
            have kk30 : J20 28 = 0 := by rw [eJ20]; exact hp
            have kk31 : J20 16 = nI (a + 1) := by rw [eJ20, va_up_self]
            refine lv_aload_n Bx.1 Bx.2.1 d_Mo_single_119 rfl (lv_at hl 3 rfl) ?_
            refine lv_iload_n Bx.1 Bx.2.1 d_Mo_single_120 rfl (lv_at hl 1 rfl) ?_
            refine lv_bipush (v := 40) Bx.1 Bx.2.1 d_Mo_single_121 (by decide) ?_
            refine lv_icmp_ne Bx.1 Bx.2.1 d_Mo_single_123 rfl (fun hb32 => ?_) (fun hb32 => ?_)
            · exact absurd hb32 (by decide)
            · refine lv_iconst (v := 1) Bx.1 Bx.2.1 d_Mo_single_126 (by decide) ?_
              refine lv_goto Bx.1 Bx.2.1 d_Mo_single_127 rfl ?_
              refine lv_iload_n Bx.1 Bx.2.1 d_Mo_single_131 rfl (lv_at hl 0 rfl) ?_
              refine f_callVv (na := 2) (As := [.int (1), .int ((-1))]) (rest := []) Bx hml E hP hD hS (by omega) hW22.1 rfl (m_Mo_enterB l hn hW22 ⟨kk23, kk24, kk31, kk25, kk26, kk27, kk28, kk29⟩ ⟨hL, by omega, by omega, by omega, by omega⟩ (by omega) (by omega) hT kk30 hI (Or.inl ⟨rfl, rfl, fun _ z => z⟩) (by omega) hrr0 hI.1.CL) kw_807 kw_809 sel_Mo_enter kw_8 kw_810 (by decide +kernel) ⟨rfl, rfl⟩ ⟨Nat.le_of_ble_eq_true rfl, Nat.le_of_ble_eq_true rfl⟩ rfl hl.1 (Nat.le_of_ble_eq_true rfl) d_Mo_single_132 ⟨Nat.le_of_ble_eq_true rfl, Nat.le_of_ble_eq_true rfl⟩ (fun mem34 H locs hq hP hS => ?_)
              have hD : va_D (Az sz) (fw n ad mem34) := fw_D hD
              obtain ⟨J35, A36, nn37, hW38, hres39⟩ := hq
              refine lv_goto Bx.1 Bx.2.1 d_Mo_single_135 rfl ?_
              exact W.vret hx hb hr (fun t ht hW => ⟨⟨mem34, rfl, ⟨J35, A36, nn37, hW38, hres39.res (by omega)⟩, by show va_P _ _ _ t.heap; rw [ht]; exact hP⟩, hS.F ht⟩) hS.2.2 d_Mo_single_317
          · exact absurd hb19 (by decide)
        · exact absurd hb18 (by decide)
      · have hN40 : ¬ f + 1 ≤ 6 := fun q9 => hb16 (show nI (f + 1) ≤ nI (6) from (nI_leI (by omega) (by omega)).mpr q9)
        refine lv_aload_n Bx.1 Bx.2.1 d_Mo_single_77 rfl (lv_at hl 2 rfl) ?_
        refine lv_iconst (v := 2) Bx.1 Bx.2.1 d_Mo_single_78 (by decide) ?_
        refine lv_iload_n Bx.1 Bx.2.1 d_Mo_single_79 rfl (lv_at hl 1 rfl) ?_
        refine f_callVv (na := 2) (As := [.int (2), .int (nI a)]) (rest := []) Bx hml E hP hD hS (by omega) hM.1 rfl (m_Mo_wrong l hn hM (Or.inl g4) (by first | exact Or.inl rfl | exact Or.inr rfl)) kw_799 kw_801 sel_Mo_wrong kw_8 kw_802 (by decide +kernel) ⟨rfl, rfl⟩ ⟨Nat.le_of_ble_eq_true rfl, Nat.le_of_ble_eq_true rfl⟩ rfl hl.1 (Nat.le_of_ble_eq_true rfl) d_Mo_single_80 ⟨Nat.le_of_ble_eq_true rfl, Nat.le_of_ble_eq_true rfl⟩ (fun mem42 H locs hq hP hS => ?_)
        have hD : va_D (Az sz) (fw n ad mem42) := fw_D hD
        obtain ⟨J43, hW44, hwr45⟩ := hq
        have kk46 : J43 1 = nI L := (show J43 1 = J 1 from hwr45.2 1 (by decide) (by decide)).trans g1
        have kk47 : J43 24 = nI G := (show J43 24 = J 24 from hwr45.2 24 (by decide) (by decide)).trans g2
        have kk48 : J43 16 = nI a := (show J43 16 = J 16 from hwr45.2 16 (by decide) (by decide)).trans g3
        have kk49 : J43 14 = nI u := (show J43 14 = J 14 from hwr45.2 14 (by decide) (by decide)).trans g5
        have kk50 : J43 4 = nI R := (show J43 4 = J 4 from hwr45.2 4 (by decide) (by decide)).trans g6
        have kk51 : J43 7 = nI Ec := (show J43 7 = J 7 from hwr45.2 7 (by decide) (by decide)).trans g7
        have kk52 : J43 18 = nI (f + 1) := (show J43 18 = J 18 from hwr45.2 18 (by decide) (by decide)).trans g8
        have kk53 : J43 28 = 0 := (show J43 28 = J 28 from hwr45.2 28 (by decide) (by decide)).trans hp
        exact W.vret hx hb hr (fun t ht hW => ⟨⟨mem42, rfl, ⟨J43, A, nm, hW44, Or.inl ⟨kk46, kk47, hT, hwr45.1, _, by omega, kk48⟩⟩, by show va_P _ _ _ t.heap; rw [ht]; exact hP⟩, hS.F ht⟩) hS.2.2 d_Mo_single_83
    · refine lv_iload_n Bx.1 Bx.2.1 d_Mo_single_62 rfl (lv_at hl 0 rfl) ?_
      refine lv_bipush (v := 91) Bx.1 Bx.2.1 d_Mo_single_63 (by decide) ?_
      refine lv_icmp_ne Bx.1 Bx.2.1 d_Mo_single_65 rfl (fun hb54 => ?_) (fun hb54 => ?_)
      · refine lv_iload_n Bx.1 Bx.2.1 d_Mo_single_138 rfl (lv_at hl 0 rfl) ?_
        refine lv_bipush (v := 34) Bx.1 Bx.2.1 d_Mo_single_139 (by decide) ?_
        refine lv_icmp_ne Bx.1 Bx.2.1 d_Mo_single_141 rfl (fun hb55 => ?_) (fun hb55 => ?_)
        · refine lv_aload_n Bx.1 Bx.2.1 d_Mo_single_166 rfl (lv_at hl 2 rfl) ?_
          refine lv_iconst (v := 4) Bx.1 Bx.2.1 d_Mo_single_167 (by decide) ?_
          refine lv_iload_n Bx.1 Bx.2.1 d_Mo_single_168 rfl (lv_at hl 1 rfl) ?_
          refine f_callVi (na := 2) (As := [.int (4), .int (nI a)]) (rest := []) Bx hml E hP hD hS (by omega) hM.1 rfl (m_Mo_element l hn hM (Or.inl g4) g7 (by omega)) kw_814 kw_816 sel_Mo_element kw_8 kw_817 (by decide +kernel) ⟨rfl, rfl⟩ ⟨Nat.le_of_ble_eq_true rfl, Nat.le_of_ble_eq_true rfl⟩ rfl hl.1 (Nat.le_of_ble_eq_true rfl) d_Mo_single_169 ⟨Nat.le_of_ble_eq_true rfl, Nat.le_of_ble_eq_true rfl⟩ (fun r56 mem57 H locs hq hP hS => ?_)
          have hD : va_D (Az sz) (fw n ad mem57) := fw_D hD
          rcases hq with ⟨hre65, J58, hW59, hwr60⟩ | ⟨hEl61, hre66, hW64⟩
          · subst hre65
            have kk67 : J58 1 = nI L := (show J58 1 = J 1 from hwr60.2 1 (by decide) (by decide)).trans g1
            have kk68 : J58 24 = nI G := (show J58 24 = J 24 from hwr60.2 24 (by decide) (by decide)).trans g2
            have kk69 : J58 16 = nI a := (show J58 16 = J 16 from hwr60.2 16 (by decide) (by decide)).trans g3
            have kk70 : J58 14 = nI u := (show J58 14 = J 14 from hwr60.2 14 (by decide) (by decide)).trans g5
            have kk71 : J58 4 = nI R := (show J58 4 = J 4 from hwr60.2 4 (by decide) (by decide)).trans g6
            have kk72 : J58 7 = nI Ec := (show J58 7 = J 7 from hwr60.2 7 (by decide) (by decide)).trans g7
            have kk73 : J58 18 = nI (f + 1) := (show J58 18 = J 18 from hwr60.2 18 (by decide) (by decide)).trans g8
            have kk74 : J58 28 = 0 := (show J58 28 = J 28 from hwr60.2 28 (by decide) (by decide)).trans hp
            refine lv_istore_n (lv' := [(3, .int (0)), (2, .int (hereF L T (a))), (1, .int (nI a)), (0, .ref (ad 224))]) Bx.1 Bx.2.1 d_Mo_single_172 rfl hl (by decide) rfl (fun ls hl => ?_)
            refine lv_aload_n Bx.1 Bx.2.1 d_Mo_single_173 rfl (lv_at hl 3 rfl) ?_
            refine lv_dup Bx.1 Bx.2.1 d_Mo_single_174 rfl ?_
            refine f_get Bx hP (by omega) hW59.1 rfl inMo 16 (by decide) kw_672 rfl rfl d_Mo_single_175 ?_
            rw [kk69]
            refine lv_iconst (v := 1) Bx.1 Bx.2.1 d_Mo_single_178 (by decide) ?_
            refine lv_iadd Bx.1 Bx.2.1 d_Mo_single_179 ?_
            rw [show nI a + 1 = nI (a + 1) from nI_add (a) (1)]
            refine f_put Bx hP hD hS (by omega) hW59.1 rfl inMo tyMo okMo nmMo 16 (by decide) kw_672 rfl rfl rfl rfl (Nat.le_of_ble_eq_true rfl) d_Mo_single_180 (fun H locs hP hS => ?_)
            obtain ⟨J75, eJ75⟩ : ∃ z, z = va_up J58 16 (nI (a + 1)) := ⟨_, rfl⟩
            obtain ⟨mem76, e_mem76⟩ : ∃ z, z = va_up mem57 224 (moC ad J75) := ⟨_, rfl⟩
            have hP : va_P D vcl (fw n ad mem76) H := by rw [e_mem76, eJ75]; exact hP
            have hD : va_D (Az sz) (fw n ad mem76) := fw_D hD
            have hW77 : MW cy ad J75 A nm m0 mem76 := by rw [e_mem76]; exact hW59.upJ (by rw [eJ75]; exact va_up_ne _ _ (by decide))
            have kk78 : J75 1 = nI L := by rw [eJ75]; exact kk67
            have kk79 : J75 24 = nI G := by rw [eJ75]; exact kk68
            have kk80 : J75 14 = nI u := by rw [eJ75]; exact kk70
            have kk81 : J75 4 = nI R := by rw [eJ75]; exact kk71
            have kk82 : J75 7 = nI Ec := by rw [eJ75]; exact kk72
            have kk83 : J75 18 = nI (f + 1) := by rw [eJ75]; exact kk73
            have kk84 : J75 28 = 0 := by rw [eJ75]; exact kk74
            have kk85 : J75 16 = nI (a + 1) := by rw [eJ75, va_up_self]
            have bd86 : b12 (J75 17) := by rw [eJ75]; exact hwr60.1
            refine lv_aload_n Bx.1 Bx.2.1 d_Mo_single_183 rfl (lv_at hl 3 rfl) ?_
            refine f_callVi (na := 0) (As := []) (rest := []) Bx hml E hP hD hS (by omega) hW77.1 rfl (m_Mo_here l hn hW77 kk78 hL kk85 (by omega)) kw_778 kw_780 sel_Mo_here kw_8 kw_781 (by decide +kernel) ⟨rfl, rfl⟩ ⟨Nat.le_of_ble_eq_true rfl, Nat.le_of_ble_eq_true rfl⟩ rfl hl.1 (Nat.le_of_ble_eq_true rfl) d_Mo_single_184 ⟨Nat.le_of_ble_eq_true rfl, Nat.le_of_ble_eq_true rfl⟩ (fun r87 mem88 H locs hq hP hS => ?_)
            have hD : va_D (Az sz) (fw n ad mem88) := fw_D hD
            obtain ⟨hre, hq⟩ := hq
            rw [hq] at hP hD
            subst hre
            rw [show hereF L (A 225) (a + 1) = hereF L T (a + 1) by rw [hT]]
            refine f_callSi (na := 1) (As := [.int (hereF L T (a + 1))]) (rest := []) Bx hml E.2.1 (m_Mo_small l (hereF L T (a + 1))) kw_796 kw_797 kw_8 kw_798 (by decide +kernel) ⟨rfl, rfl⟩ ⟨Nat.le_of_ble_eq_true rfl, Nat.le_of_ble_eq_true rfl⟩ rfl hl.1 (Nat.le_of_ble_eq_true rfl) d_Mo_single_187 ⟨Nat.le_of_ble_eq_true rfl, Nat.le_of_ble_eq_true rfl⟩ (fun r90 hs89 => ?_)
            subst hs89
            refine lv_istore (lv' := [(4, .int (smF (hereF L T (a + 1)))), (3, .int (0)), (2, .int (hereF L T (a))), (1, .int (nI a)), (0, .ref (ad 224))]) Bx.1 Bx.2.1 d_Mo_single_190 hl (by decide) rfl (fun ls hl => ?_)
            refine lv_aload_n Bx.1 Bx.2.1 d_Mo_single_192 rfl (lv_at hl 4 rfl) ?_
            refine f_get Bx hP (by omega) hW77.1 rfl inMo 17 (by decide) kw_673 rfl rfl d_Mo_single_193 ?_
            refine lv_if_ne Bx.1 Bx.2.1 d_Mo_single_196 rfl (fun hb91 => ?_) (fun hb91 => ?_)
            · refine lv_aload_n Bx.1 Bx.2.1 d_Mo_single_229 rfl (lv_at hl 4 rfl) ?_
              refine f_get Bx hP (by omega) hW77.1 rfl inMo 17 (by decide) kw_673 rfl rfl d_Mo_single_230 ?_
              refine lv_if_le Bx.1 Bx.2.1 d_Mo_single_233 rfl (fun hb92 => ?_) (fun hb92 => ?_)
              · exact absurd hb92 bd86.nle
              · exact W.vret hx hb hr (fun t ht hW => ⟨⟨mem76, rfl, ⟨J75, A, nm, hW77, Or.inl ⟨kk78, kk79, hT, bd86, _, by omega, kk85⟩⟩, by show va_P _ _ _ t.heap; rw [ht]; exact hP⟩, hS.F ht⟩) hS.2.2 d_Mo_single_236
            · exact absurd hb91 bd86.ne
          · subst hre66
            obtain ⟨J62, eJ62⟩ : ∃ z, z = va_up J 7 (nI (Ec + 1)) := ⟨_, rfl⟩
            obtain ⟨A63, eA63⟩ : ∃ z, z = elA A (Ec) 4 := ⟨_, rfl⟩
            rw [← eJ62, ← eA63] at hW64
            have kk93 : J62 1 = nI L := (show J62 1 = J 1 from by rw [eJ62]; rfl).trans g1
            have kk94 : J62 24 = nI G := (show J62 24 = J 24 from by rw [eJ62]; rfl).trans g2
            have kk95 : J62 16 = nI a := (show J62 16 = J 16 from by rw [eJ62]; rfl).trans g3
            have kk96 : J62 17 = 0 := (show J62 17 = J 17 from by rw [eJ62]; rfl).trans g4
            have kk97 : J62 14 = nI u := (show J62 14 = J 14 from by rw [eJ62]; rfl).trans g5
            have kk98 : J62 4 = nI R := (show J62 4 = J 4 from by rw [eJ62]; rfl).trans g6
            have kk99 : J62 18 = nI (f + 1) := (show J62 18 = J 18 from by rw [eJ62]; rfl).trans g8
            have kk100 : J62 28 = 0 := (show J62 28 = J 28 from by rw [eJ62]; rfl).trans hp
            have kk101 : J62 7 = nI (Ec + 1) := by rw [eJ62, va_up_self]
            have tT102 : A63 225 = T := by rw [eA63]; exact hT
            refine lv_istore_n (lv' := [(3, .int (nI Ec)), (2, .int (hereF L T (a))), (1, .int (nI a)), (0, .ref (ad 224))]) Bx.1 Bx.2.1 d_Mo_single_172 rfl hl (by decide) rfl (fun ls hl => ?_)
            refine lv_aload_n Bx.1 Bx.2.1 d_Mo_single_173 rfl (lv_at hl 3 rfl) ?_
            refine lv_dup Bx.1 Bx.2.1 d_Mo_single_174 rfl ?_
            refine f_get Bx hP (by omega) hW64.1 rfl inMo 16 (by decide) kw_672 rfl rfl d_Mo_single_175 ?_
            rw [kk95]
            refine lv_iconst (v := 1) Bx.1 Bx.2.1 d_Mo_single_178 (by decide) ?_
            refine lv_iadd Bx.1 Bx.2.1 d_Mo_single_179 ?_
            rw [show nI a + 1 = nI (a + 1) from nI_add (a) (1)]
            refine f_put Bx hP hD hS (by omega) hW64.1 rfl inMo tyMo okMo nmMo 16 (by decide) kw_672 rfl rfl rfl rfl (Nat.le_of_ble_eq_true rfl) d_Mo_single_180 (fun H locs hP hS => ?_)
            obtain ⟨J103, eJ103⟩ : ∃ z, z = va_up J62 16 (nI (a + 1)) := ⟨_, rfl⟩
            obtain ⟨mem104, e_mem104⟩ : ∃ z, z = va_up mem57 224 (moC ad J103) := ⟨_, rfl⟩
            have hP : va_P D vcl (fw n ad mem104) H := by rw [e_mem104, eJ103]; exact hP
            have hD : va_D (Az sz) (fw n ad mem104) := fw_D hD
            have hW105 : MW cy ad J103 A63 nm m0 mem104 := by rw [e_mem104]; exact hW64.upJ (by rw [eJ103]; exact va_up_ne _ _ (by decide))
            have kk106 : J103 1 = nI L := by rw [eJ103]; exact kk93
            have kk107 : J103 24 = nI G := by rw [eJ103]; exact kk94
            have kk108 : J103 17 = 0 := by rw [eJ103]; exact kk96
            have kk109 : J103 14 = nI u := by rw [eJ103]; exact kk97
            have kk110 : J103 4 = nI R := by rw [eJ103]; exact kk98
            have kk111 : J103 18 = nI (f + 1) := by rw [eJ103]; exact kk99
            have kk112 : J103 28 = 0 := by rw [eJ103]; exact kk100
            have kk113 : J103 7 = nI (Ec + 1) := by rw [eJ103]; exact kk101
            have kk114 : J103 16 = nI (a + 1) := by rw [eJ103, va_up_self]
            refine lv_aload_n Bx.1 Bx.2.1 d_Mo_single_183 rfl (lv_at hl 3 rfl) ?_
            refine f_callVi (na := 0) (As := []) (rest := []) Bx hml E hP hD hS (by omega) hW105.1 rfl (m_Mo_here l hn hW105 kk106 hL kk114 (by omega)) kw_778 kw_780 sel_Mo_here kw_8 kw_781 (by decide +kernel) ⟨rfl, rfl⟩ ⟨Nat.le_of_ble_eq_true rfl, Nat.le_of_ble_eq_true rfl⟩ rfl hl.1 (Nat.le_of_ble_eq_true rfl) d_Mo_single_184 ⟨Nat.le_of_ble_eq_true rfl, Nat.le_of_ble_eq_true rfl⟩ (fun r115 mem116 H locs hq hP hS => ?_)
            have hD : va_D (Az sz) (fw n ad mem116) := fw_D hD
            obtain ⟨hre, hq⟩ := hq
            rw [hq] at hP hD
            subst hre
            rw [show hereF L (A63 225) (a + 1) = hereF L T (a + 1) by rw [tT102]]
            refine f_callSi (na := 1) (As := [.int (hereF L T (a + 1))]) (rest := []) Bx hml E.2.1 (m_Mo_small l (hereF L T (a + 1))) kw_796 kw_797 kw_8 kw_798 (by decide +kernel) ⟨rfl, rfl⟩ ⟨Nat.le_of_ble_eq_true rfl, Nat.le_of_ble_eq_true rfl⟩ rfl hl.1 (Nat.le_of_ble_eq_true rfl) d_Mo_single_187 ⟨Nat.le_of_ble_eq_true rfl, Nat.le_of_ble_eq_true rfl⟩ (fun r118 hs117 => ?_)
            subst hs117
            refine lv_istore (lv' := [(4, .int (smF (hereF L T (a + 1)))), (3, .int (nI Ec)), (2, .int (hereF L T (a))), (1, .int (nI a)), (0, .ref (ad 224))]) Bx.1 Bx.2.1 d_Mo_single_190 hl (by decide) rfl (fun ls hl => ?_)
            refine lv_aload_n Bx.1 Bx.2.1 d_Mo_single_192 rfl (lv_at hl 4 rfl) ?_
            refine f_get Bx hP (by omega) hW105.1 rfl inMo 17 (by decide) kw_673 rfl rfl d_Mo_single_193 ?_
            rw [kk108]
            refine lv_if_ne Bx.1 Bx.2.1 d_Mo_single_196 rfl (fun hb119 => ?_) (fun hb119 => ?_)
            · exact absurd hb119 (by decide)
            · refine lv_iload Bx.1 Bx.2.1 d_Mo_single_199 (lv_at hl 0 rfl) ?_
              refine lv_bipush (v := 100) Bx.1 Bx.2.1 d_Mo_single_201 (by decide) ?_
              refine lv_icmp_eq Bx.1 Bx.2.1 d_Mo_single_203 rfl (fun hb120 => ?_) (fun hb120 => ?_)
              · have hlt121 := hereF_lt (smF_ne (Or.inl hb120))
                rw [hb120] at hl
                refine lv_aload_n Bx.1 Bx.2.1 d_Mo_single_229 rfl (lv_at hl 4 rfl) ?_
                refine f_get Bx hP (by omega) hW105.1 rfl inMo 17 (by decide) kw_673 rfl rfl d_Mo_single_230 ?_
                rw [kk108]
                refine lv_if_le Bx.1 Bx.2.1 d_Mo_single_233 rfl (fun hb122 => ?_) (fun hb122 => ?_)
                · refine lv_aload_n Bx.1 Bx.2.1 d_Mo_single_237 rfl (lv_at hl 4 rfl) ?_
                  refine lv_dup Bx.1 Bx.2.1 d_Mo_single_238 rfl ?_
                  refine f_get Bx hP (by omega) hW105.1 rfl inMo 16 (by decide) kw_672 rfl rfl d_Mo_single_239 ?_
                  rw [kk114]
                  refine lv_iconst (v := 1) Bx.1 Bx.2.1 d_Mo_single_242 (by decide) ?_
                  refine lv_iadd Bx.1 Bx.2.1 d_Mo_single_243 ?_
                  rw [show nI (a + 1) + 1 = nI (a + 1 + 1) from nI_add (a + 1) (1)]
                  refine f_put Bx hP hD hS (by omega) hW105.1 rfl inMo tyMo okMo nmMo 16 (by decide) kw_672 rfl rfl rfl rfl (Nat.le_of_ble_eq_true rfl) d_Mo_single_244 (fun H locs hP hS => ?_)
                  obtain ⟨J123, eJ123⟩ : ∃ z, z = va_up J103 16 (nI (a + 1 + 1)) := ⟨_, rfl⟩
                  obtain ⟨mem124, e_mem124⟩ : ∃ z, z = va_up mem104 224 (moC ad J123) := ⟨_, rfl⟩
                  have hP : va_P D vcl (fw n ad mem124) H := by rw [e_mem124, eJ123]; exact hP
                  have hD : va_D (Az sz) (fw n ad mem124) := fw_D hD
                  have hW125 : MW cy ad J123 A63 nm m0 mem124 := by rw [e_mem124]; exact hW105.upJ (by rw [eJ123]; exact va_up_ne _ _ (by decide))
                  have kk126 : J123 1 = nI L := by rw [eJ123]; exact kk106
                  have kk127 : J123 24 = nI G := by rw [eJ123]; exact kk107
                  have kk128 : J123 17 = 0 := by rw [eJ123]; exact kk108
                  have kk129 : J123 14 = nI u := by rw [eJ123]; exact kk109
                  have kk130 : J123 4 = nI R := by rw [eJ123]; exact kk110
                  have kk131 : J123 18 = nI (f + 1) := by rw [eJ123]; exact kk111
                  have kk132 : J123 28 = 0 := by rw [eJ123]; exact kk112
                  have kk133 : J123 7 = nI (Ec + 1) := by rw [eJ123]; exact kk113
                  have kk134 : J123 16 = nI (a + 1 + 1) := by rw [eJ123, va_up_self]
                  refine lv_aload_n Bx.1 Bx.2.1 d_Mo_single_247 rfl (lv_at hl 4 rfl) ?_
                  refine f_get Bx hP (by omega) hW125.1 rfl inMo 11 (by decide) kw_667 rfl rfl d_Mo_single_248 ?_
                  refine lv_iload_n Bx.1 Bx.2.1 d_Mo_single_251 rfl (lv_at hl 1 rfl) ?_
                  refine lv_iconst (v := 1) Bx.1 Bx.2.1 d_Mo_single_252 (by decide) ?_
                  refine f_zast (x := 1) (i := nI (Ec)) Bx hP hD hS (by omega) (show mem124 231 = .inl (cy 3, 100, .inl (A63 231)) from hW125.2.2.1 231 (by decide) (by decide) (by decide)) (vp_in_nI (n := Ec) (by omega) (by decide)) d_Mo_single_253 (fun H locs hP hS => ?_)
                  rw [nI_clamp (n := Ec) (by omega)] at hP
                  obtain ⟨A135, eA135⟩ : ∃ z, z = va_up A63 231 (upd (A63 231) (Ec) (vp_nar .boolean (1))) := ⟨_, rfl⟩
                  obtain ⟨mem136, e_mem136⟩ : ∃ z, z = va_up mem124 231 (.inl (cy 3, 100, .inl (upd (A63 231) (Ec) (vp_nar .boolean (1))))) := ⟨_, rfl⟩
                  have hP : va_P D vcl (fw n ad mem136) H := by rw [e_mem136]; exact hP
                  have hD : va_D (Az sz) (fw n ad mem136) := fw_D hD
                  have hW137 : MW cy ad J123 A135 nm m0 mem136 := by rw [e_mem136, eA135]; exact hW125.upA (j := 231) (by decide) (by decide) (by decide) (Or.inl (by decide))
                  have tT138 : A135 225 = T := by rw [eA135]; exact tT102
                  refine lv_iload Bx.1 Bx.2.1 d_Mo_single_254 (lv_at hl 0 rfl) ?_
                  refine lv_bipush (v := 115) Bx.1 Bx.2.1 d_Mo_single_256 (by decide) ?_
                  refine lv_icmp_ne Bx.1 Bx.2.1 d_Mo_single_258 rfl (fun hb139 => ?_) (fun hb139 => ?_)
                  · refine lv_iload Bx.1 Bx.2.1 d_Mo_single_282 (lv_at hl 0 rfl) ?_
                    refine lv_bipush (v := 115) Bx.1 Bx.2.1 d_Mo_single_284 (by decide) ?_
                    refine lv_icmp_ne Bx.1 Bx.2.1 d_Mo_single_286 rfl (fun hb140 => ?_) (fun hb140 => ?_)
                    · refine lv_aload_n Bx.1 Bx.2.1 d_Mo_single_297 rfl (lv_at hl 4 rfl) ?_
                      refine lv_iload_n Bx.1 Bx.2.1 d_Mo_single_298 rfl (lv_at hl 1 rfl) ?_
                      refine lv_iload_n Bx.1 Bx.2.1 d_Mo_single_299 rfl (lv_at hl 3 rfl) ?_
                      refine lv_iload Bx.1 Bx.2.1 d_Mo_single_300 (lv_at hl 0 rfl) ?_
                      refine lv_bipush (v := 100) Bx.1 Bx.2.1 d_Mo_single_302 (by decide) ?_
                      refine lv_icmp_ne Bx.1 Bx.2.1 d_Mo_single_304 rfl (fun hb141 => ?_) (fun hb141 => ?_)
                      · exact absurd hb141 (by decide)
                      · refine lv_bipush (v := 10) Bx.1 Bx.2.1 d_Mo_single_307 (by decide) ?_
                        refine lv_goto Bx.1 Bx.2.1 d_Mo_single_309 rfl ?_
                        have hkd144 : A135 228 (Ec) = 4 := by simp [eA63, eA135, elA, va_up, upd]
                        obtain ⟨hnx142, hcl143⟩ := hI.ext (A' := A135) ⟨fun j h1 h2 h3 k hk => by
                            have hj : j = 228 ∨ j = 229 ∨ j = 230 ∨ j = 232 ∨ j = 233 := by omega
                            rcases hj with rfl | rfl | rfl | rfl | rfl <;> simp [eA63, eA135, elA, va_up, upd, Nat.ne_of_lt hk], by simp [eA63, eA135, elA, va_up], fun j h1 h2 => by
                            have hj : j = 235 ∨ j = 236 ∨ j = 237 ∨ j = 238 ∨ j = 239 := by omega
                            rcases hj with rfl | rfl | rfl | rfl | rfl <;> simp [eA63, eA135, elA, va_up], by simp [eA63, eA135, elA, va_up, upd], by simp [eA63, eA135, elA, va_up, upd]⟩ (Nat.le_refl u) (fun z => absurd (hkd144.symm.trans z) (by decide)) (fun _ => ⟨0, 0, by rw [show A135 229 (Ec) = 0 by simp [eA63, eA135, elA, va_up, upd]]; rfl, by rw [show A135 230 (Ec) = 0 by simp [eA63, eA135, elA, va_up, upd]]; rfl, by omega⟩) (fun k z => z.elim)
                        have hnx145 := hnx142.wk (X' := fun _ => False) (fun k z => z.elim id (fun y => absurd (y.2) (by rw [hkd144]; decide)))
                        have hrr146 : A135 239 f = -1 ∨ ∃ r, A135 239 f = nI r ∧ fs f < r ∧ r < Ec := by rw [show A135 239 = A 239 by simp [eA63, eA135, elA, va_up]]; exact hrr0
                        refine f_callVv (na := 3) (As := [.int (nI Ec), .int (nI a), .int (10)]) (rest := []) Bx hml E hP hD hS (by omega) hW137.1 rfl (m_Mo_numbers l hn hW137 (e9 := Ec) ⟨kk126, kk127, kk134, kk128, kk129, kk130, kk133, kk131⟩ ⟨hL, by omega, by omega, by omega, by omega⟩ (by omega) tT138 kk132 hnx145 hkd144 hcl143 (by omega) hrr146) kw_842 kw_844 sel_Mo_numbers kw_8 kw_845 (by decide +kernel) ⟨rfl, rfl⟩ ⟨Nat.le_of_ble_eq_true rfl, Nat.le_of_ble_eq_true rfl⟩ rfl hl.1 (Nat.le_of_ble_eq_true rfl) d_Mo_single_314 ⟨Nat.le_of_ble_eq_true rfl, Nat.le_of_ble_eq_true rfl⟩ (fun mem148 H locs hq hP hS => ?_)
                        have hD : va_D (Az sz) (fw n ad mem148) := fw_D hD
                        obtain ⟨J149, A150, nn151, hW152, hres153⟩ := hq
                        exact W.vret hx hb hr (fun t ht hW => ⟨⟨mem148, rfl, ⟨J149, A150, nn151, hW152, hres153.mono (by omega)⟩, by show va_P _ _ _ t.heap; rw [ht]; exact hP⟩, hS.F ht⟩) hS.2.2 d_Mo_single_317
                    · exact absurd hb140 (by decide)
                  · exact absurd hb139 (by decide)
                · exact absurd hb122 (by decide)
              · refine lv_iload Bx.1 Bx.2.1 d_Mo_single_206 (lv_at hl 0 rfl) ?_
                refine lv_bipush (v := 120) Bx.1 Bx.2.1 d_Mo_single_208 (by decide) ?_
                refine lv_icmp_eq Bx.1 Bx.2.1 d_Mo_single_210 rfl (fun hb154 => ?_) (fun hb154 => ?_)
                · have hlt155 := hereF_lt (smF_ne (Or.inr (Or.inl hb154)))
                  rw [hb154] at hl
                  refine lv_aload_n Bx.1 Bx.2.1 d_Mo_single_229 rfl (lv_at hl 4 rfl) ?_
                  refine f_get Bx hP (by omega) hW105.1 rfl inMo 17 (by decide) kw_673 rfl rfl d_Mo_single_230 ?_
                  rw [kk108]
                  refine lv_if_le Bx.1 Bx.2.1 d_Mo_single_233 rfl (fun hb156 => ?_) (fun hb156 => ?_)
                  · refine lv_aload_n Bx.1 Bx.2.1 d_Mo_single_237 rfl (lv_at hl 4 rfl) ?_
                    refine lv_dup Bx.1 Bx.2.1 d_Mo_single_238 rfl ?_
                    refine f_get Bx hP (by omega) hW105.1 rfl inMo 16 (by decide) kw_672 rfl rfl d_Mo_single_239 ?_
                    rw [kk114]
                    refine lv_iconst (v := 1) Bx.1 Bx.2.1 d_Mo_single_242 (by decide) ?_
                    refine lv_iadd Bx.1 Bx.2.1 d_Mo_single_243 ?_
                    rw [show nI (a + 1) + 1 = nI (a + 1 + 1) from nI_add (a + 1) (1)]
                    refine f_put Bx hP hD hS (by omega) hW105.1 rfl inMo tyMo okMo nmMo 16 (by decide) kw_672 rfl rfl rfl rfl (Nat.le_of_ble_eq_true rfl) d_Mo_single_244 (fun H locs hP hS => ?_)
                    obtain ⟨J157, eJ157⟩ : ∃ z, z = va_up J103 16 (nI (a + 1 + 1)) := ⟨_, rfl⟩
                    obtain ⟨mem158, e_mem158⟩ : ∃ z, z = va_up mem104 224 (moC ad J157) := ⟨_, rfl⟩
                    have hP : va_P D vcl (fw n ad mem158) H := by rw [e_mem158, eJ157]; exact hP
                    have hD : va_D (Az sz) (fw n ad mem158) := fw_D hD
                    have hW159 : MW cy ad J157 A63 nm m0 mem158 := by rw [e_mem158]; exact hW105.upJ (by rw [eJ157]; exact va_up_ne _ _ (by decide))
                    have kk160 : J157 1 = nI L := by rw [eJ157]; exact kk106
                    have kk161 : J157 24 = nI G := by rw [eJ157]; exact kk107
                    have kk162 : J157 17 = 0 := by rw [eJ157]; exact kk108
                    have kk163 : J157 14 = nI u := by rw [eJ157]; exact kk109
                    have kk164 : J157 4 = nI R := by rw [eJ157]; exact kk110
                    have kk165 : J157 18 = nI (f + 1) := by rw [eJ157]; exact kk111
                    have kk166 : J157 28 = 0 := by rw [eJ157]; exact kk112
                    have kk167 : J157 7 = nI (Ec + 1) := by rw [eJ157]; exact kk113
                    have kk168 : J157 16 = nI (a + 1 + 1) := by rw [eJ157, va_up_self]
                    refine lv_aload_n Bx.1 Bx.2.1 d_Mo_single_247 rfl (lv_at hl 4 rfl) ?_
                    refine f_get Bx hP (by omega) hW159.1 rfl inMo 11 (by decide) kw_667 rfl rfl d_Mo_single_248 ?_
                    refine lv_iload_n Bx.1 Bx.2.1 d_Mo_single_251 rfl (lv_at hl 1 rfl) ?_
                    refine lv_iconst (v := 1) Bx.1 Bx.2.1 d_Mo_single_252 (by decide) ?_
                    refine f_zast (x := 1) (i := nI (Ec)) Bx hP hD hS (by omega) (show mem158 231 = .inl (cy 3, 100, .inl (A63 231)) from hW159.2.2.1 231 (by decide) (by decide) (by decide)) (vp_in_nI (n := Ec) (by omega) (by decide)) d_Mo_single_253 (fun H locs hP hS => ?_)
                    rw [nI_clamp (n := Ec) (by omega)] at hP
                    obtain ⟨A169, eA169⟩ : ∃ z, z = va_up A63 231 (upd (A63 231) (Ec) (vp_nar .boolean (1))) := ⟨_, rfl⟩
                    obtain ⟨mem170, e_mem170⟩ : ∃ z, z = va_up mem158 231 (.inl (cy 3, 100, .inl (upd (A63 231) (Ec) (vp_nar .boolean (1))))) := ⟨_, rfl⟩
                    have hP : va_P D vcl (fw n ad mem170) H := by rw [e_mem170]; exact hP
                    have hD : va_D (Az sz) (fw n ad mem170) := fw_D hD
                    have hW171 : MW cy ad J157 A169 nm m0 mem170 := by rw [e_mem170, eA169]; exact hW159.upA (j := 231) (by decide) (by decide) (by decide) (Or.inl (by decide))
                    have tT172 : A169 225 = T := by rw [eA169]; exact tT102
                    refine lv_iload Bx.1 Bx.2.1 d_Mo_single_254 (lv_at hl 0 rfl) ?_
                    refine lv_bipush (v := 115) Bx.1 Bx.2.1 d_Mo_single_256 (by decide) ?_
                    refine lv_icmp_ne Bx.1 Bx.2.1 d_Mo_single_258 rfl (fun hb173 => ?_) (fun hb173 => ?_)
                    · refine lv_iload Bx.1 Bx.2.1 d_Mo_single_282 (lv_at hl 0 rfl) ?_
                      refine lv_bipush (v := 115) Bx.1 Bx.2.1 d_Mo_single_284 (by decide) ?_
                      refine lv_icmp_ne Bx.1 Bx.2.1 d_Mo_single_286 rfl (fun hb174 => ?_) (fun hb174 => ?_)
                      · refine lv_aload_n Bx.1 Bx.2.1 d_Mo_single_297 rfl (lv_at hl 4 rfl) ?_
                        refine lv_iload_n Bx.1 Bx.2.1 d_Mo_single_298 rfl (lv_at hl 1 rfl) ?_
                        refine lv_iload_n Bx.1 Bx.2.1 d_Mo_single_299 rfl (lv_at hl 3 rfl) ?_
                        refine lv_iload Bx.1 Bx.2.1 d_Mo_single_300 (lv_at hl 0 rfl) ?_
                        refine lv_bipush (v := 100) Bx.1 Bx.2.1 d_Mo_single_302 (by decide) ?_
                        refine lv_icmp_ne Bx.1 Bx.2.1 d_Mo_single_304 rfl (fun hb175 => ?_) (fun hb175 => ?_)
                        · refine lv_bipush (v := 16) Bx.1 Bx.2.1 d_Mo_single_312 (by decide) ?_
                          have hkd178 : A169 228 (Ec) = 4 := by simp [eA63, eA169, elA, va_up, upd]
                          obtain ⟨hnx176, hcl177⟩ := hI.ext (A' := A169) ⟨fun j h1 h2 h3 k hk => by
                              have hj : j = 228 ∨ j = 229 ∨ j = 230 ∨ j = 232 ∨ j = 233 := by omega
                              rcases hj with rfl | rfl | rfl | rfl | rfl <;> simp [eA63, eA169, elA, va_up, upd, Nat.ne_of_lt hk], by simp [eA63, eA169, elA, va_up], fun j h1 h2 => by
                              have hj : j = 235 ∨ j = 236 ∨ j = 237 ∨ j = 238 ∨ j = 239 := by omega
                              rcases hj with rfl | rfl | rfl | rfl | rfl <;> simp [eA63, eA169, elA, va_up], by simp [eA63, eA169, elA, va_up, upd], by simp [eA63, eA169, elA, va_up, upd]⟩ (Nat.le_refl u) (fun z => absurd (hkd178.symm.trans z) (by decide)) (fun _ => ⟨0, 0, by rw [show A169 229 (Ec) = 0 by simp [eA63, eA169, elA, va_up, upd]]; rfl, by rw [show A169 230 (Ec) = 0 by simp [eA63, eA169, elA, va_up, upd]]; rfl, by omega⟩) (fun k z => z.elim)
                          have hnx179 := hnx176.wk (X' := fun _ => False) (fun k z => z.elim id (fun y => absurd (y.2) (by rw [hkd178]; decide)))
                          have hrr180 : A169 239 f = -1 ∨ ∃ r, A169 239 f = nI r ∧ fs f < r ∧ r < Ec := by rw [show A169 239 = A 239 by simp [eA63, eA169, elA, va_up]]; exact hrr0
                          refine f_callVv (na := 3) (As := [.int (nI Ec), .int (nI a), .int (16)]) (rest := []) Bx hml E hP hD hS (by omega) hW171.1 rfl (m_Mo_numbers l hn hW171 (e9 := Ec) ⟨kk160, kk161, kk168, kk162, kk163, kk164, kk167, kk165⟩ ⟨hL, by omega, by omega, by omega, by omega⟩ (by omega) tT172 kk166 hnx179 hkd178 hcl177 (by omega) hrr180) kw_842 kw_844 sel_Mo_numbers kw_8 kw_845 (by decide +kernel) ⟨rfl, rfl⟩ ⟨Nat.le_of_ble_eq_true rfl, Nat.le_of_ble_eq_true rfl⟩ rfl hl.1 (Nat.le_of_ble_eq_true rfl) d_Mo_single_314 ⟨Nat.le_of_ble_eq_true rfl, Nat.le_of_ble_eq_true rfl⟩ (fun mem182 H locs hq hP hS => ?_)
                          have hD : va_D (Az sz) (fw n ad mem182) := fw_D hD
                          obtain ⟨J183, A184, nn185, hW186, hres187⟩ := hq
                          exact W.vret hx hb hr (fun t ht hW => ⟨⟨mem182, rfl, ⟨J183, A184, nn185, hW186, hres187.mono (by omega)⟩, by show va_P _ _ _ t.heap; rw [ht]; exact hP⟩, hS.F ht⟩) hS.2.2 d_Mo_single_317
                        · exact absurd hb175 (by decide)
                      · exact absurd hb174 (by decide)
                    · exact absurd hb173 (by decide)
                  · exact absurd hb156 (by decide)
                · refine lv_iload Bx.1 Bx.2.1 d_Mo_single_213 (lv_at hl 0 rfl) ?_
                  refine lv_bipush (v := 115) Bx.1 Bx.2.1 d_Mo_single_215 (by decide) ?_
                  refine lv_icmp_eq Bx.1 Bx.2.1 d_Mo_single_217 rfl (fun hb188 => ?_) (fun hb188 => ?_)
                  · have hlt189 := hereF_lt (smF_ne (Or.inr (Or.inr hb188)))
                    rw [hb188] at hl
                    refine lv_aload_n Bx.1 Bx.2.1 d_Mo_single_229 rfl (lv_at hl 4 rfl) ?_
                    refine f_get Bx hP (by omega) hW105.1 rfl inMo 17 (by decide) kw_673 rfl rfl d_Mo_single_230 ?_
                    rw [kk108]
                    refine lv_if_le Bx.1 Bx.2.1 d_Mo_single_233 rfl (fun hb190 => ?_) (fun hb190 => ?_)
                    · refine lv_aload_n Bx.1 Bx.2.1 d_Mo_single_237 rfl (lv_at hl 4 rfl) ?_
                      refine lv_dup Bx.1 Bx.2.1 d_Mo_single_238 rfl ?_
                      refine f_get Bx hP (by omega) hW105.1 rfl inMo 16 (by decide) kw_672 rfl rfl d_Mo_single_239 ?_
                      rw [kk114]
                      refine lv_iconst (v := 1) Bx.1 Bx.2.1 d_Mo_single_242 (by decide) ?_
                      refine lv_iadd Bx.1 Bx.2.1 d_Mo_single_243 ?_
                      rw [show nI (a + 1) + 1 = nI (a + 1 + 1) from nI_add (a + 1) (1)]
                      refine f_put Bx hP hD hS (by omega) hW105.1 rfl inMo tyMo okMo nmMo 16 (by decide) kw_672 rfl rfl rfl rfl (Nat.le_of_ble_eq_true rfl) d_Mo_single_244 (fun H locs hP hS => ?_)
                      obtain ⟨J191, eJ191⟩ : ∃ z, z = va_up J103 16 (nI (a + 1 + 1)) := ⟨_, rfl⟩
                      obtain ⟨mem192, e_mem192⟩ : ∃ z, z = va_up mem104 224 (moC ad J191) := ⟨_, rfl⟩
                      have hP : va_P D vcl (fw n ad mem192) H := by rw [e_mem192, eJ191]; exact hP
                      have hD : va_D (Az sz) (fw n ad mem192) := fw_D hD
                      have hW193 : MW cy ad J191 A63 nm m0 mem192 := by rw [e_mem192]; exact hW105.upJ (by rw [eJ191]; exact va_up_ne _ _ (by decide))
                      have kk194 : J191 1 = nI L := by rw [eJ191]; exact kk106
                      have kk195 : J191 24 = nI G := by rw [eJ191]; exact kk107
                      have kk196 : J191 17 = 0 := by rw [eJ191]; exact kk108
                      have kk197 : J191 14 = nI u := by rw [eJ191]; exact kk109
                      have kk198 : J191 4 = nI R := by rw [eJ191]; exact kk110
                      have kk199 : J191 18 = nI (f + 1) := by rw [eJ191]; exact kk111
                      have kk200 : J191 28 = 0 := by rw [eJ191]; exact kk112
                      have kk201 : J191 7 = nI (Ec + 1) := by rw [eJ191]; exact kk113
                      have kk202 : J191 16 = nI (a + 1 + 1) := by rw [eJ191, va_up_self]
                      refine lv_aload_n Bx.1 Bx.2.1 d_Mo_single_247 rfl (lv_at hl 4 rfl) ?_
                      refine f_get Bx hP (by omega) hW193.1 rfl inMo 11 (by decide) kw_667 rfl rfl d_Mo_single_248 ?_
                      refine lv_iload_n Bx.1 Bx.2.1 d_Mo_single_251 rfl (lv_at hl 1 rfl) ?_
                      refine lv_iconst (v := 1) Bx.1 Bx.2.1 d_Mo_single_252 (by decide) ?_
                      refine f_zast (x := 1) (i := nI (Ec)) Bx hP hD hS (by omega) (show mem192 231 = .inl (cy 3, 100, .inl (A63 231)) from hW193.2.2.1 231 (by decide) (by decide) (by decide)) (vp_in_nI (n := Ec) (by omega) (by decide)) d_Mo_single_253 (fun H locs hP hS => ?_)
                      rw [nI_clamp (n := Ec) (by omega)] at hP
                      obtain ⟨A203, eA203⟩ : ∃ z, z = va_up A63 231 (upd (A63 231) (Ec) (vp_nar .boolean (1))) := ⟨_, rfl⟩
                      obtain ⟨mem204, e_mem204⟩ : ∃ z, z = va_up mem192 231 (.inl (cy 3, 100, .inl (upd (A63 231) (Ec) (vp_nar .boolean (1))))) := ⟨_, rfl⟩
                      have hP : va_P D vcl (fw n ad mem204) H := by rw [e_mem204]; exact hP
                      have hD : va_D (Az sz) (fw n ad mem204) := fw_D hD
                      have hW205 : MW cy ad J191 A203 nm m0 mem204 := by rw [e_mem204, eA203]; exact hW193.upA (j := 231) (by decide) (by decide) (by decide) (Or.inl (by decide))
                      have tT206 : A203 225 = T := by rw [eA203]; exact tT102
                      refine lv_iload Bx.1 Bx.2.1 d_Mo_single_254 (lv_at hl 0 rfl) ?_
                      refine lv_bipush (v := 115) Bx.1 Bx.2.1 d_Mo_single_256 (by decide) ?_
                      refine lv_icmp_ne Bx.1 Bx.2.1 d_Mo_single_258 rfl (fun hb207 => ?_) (fun hb207 => ?_)
                      · exact absurd hb207 (by decide)
                      · refine lv_aload_n Bx.1 Bx.2.1 d_Mo_single_261 rfl (lv_at hl 4 rfl) ?_
                        refine f_callVi (na := 0) (As := []) (rest := []) Bx hml E hP hD hS (by omega) hW205.1 rfl (m_Mo_here l hn hW205 kk194 hL kk202 (by omega)) kw_778 kw_780 sel_Mo_here kw_8 kw_781 (by decide +kernel) ⟨rfl, rfl⟩ ⟨Nat.le_of_ble_eq_true rfl, Nat.le_of_ble_eq_true rfl⟩ rfl hl.1 (Nat.le_of_ble_eq_true rfl) d_Mo_single_262 ⟨Nat.le_of_ble_eq_true rfl, Nat.le_of_ble_eq_true rfl⟩ (fun r208 mem209 H locs hq hP hS => ?_)
                        have hD : va_D (Az sz) (fw n ad mem209) := fw_D hD
                        obtain ⟨hre, hq⟩ := hq
                        rw [hq] at hP hD
                        subst hre
                        rw [show hereF L (A203 225) (a + 1 + 1) = hereF L T (a + 1 + 1) by rw [tT206]]
                        refine lv_bipush (v := 34) Bx.1 Bx.2.1 d_Mo_single_265 (by decide) ?_
                        refine lv_icmp_eq Bx.1 Bx.2.1 d_Mo_single_267 rfl (fun hb210 => ?_) (fun hb210 => ?_)
                        · have hlt211 := hereF_lt (by rw [hb210]; decide)
                          refine lv_iload Bx.1 Bx.2.1 d_Mo_single_282 (lv_at hl 0 rfl) ?_
                          refine lv_bipush (v := 115) Bx.1 Bx.2.1 d_Mo_single_284 (by decide) ?_
                          refine lv_icmp_ne Bx.1 Bx.2.1 d_Mo_single_286 rfl (fun hb212 => ?_) (fun hb212 => ?_)
                          · exact absurd hb212 (by decide)
                          · refine lv_aload_n Bx.1 Bx.2.1 d_Mo_single_289 rfl (lv_at hl 4 rfl) ?_
                            refine lv_iload_n Bx.1 Bx.2.1 d_Mo_single_290 rfl (lv_at hl 1 rfl) ?_
                            have hkd215 : A203 228 (Ec) = 4 := by simp [eA63, eA203, elA, va_up, upd]
                            obtain ⟨hnx213, hcl214⟩ := hI.ext (A' := A203) ⟨fun j h1 h2 h3 k hk => by
                                have hj : j = 228 ∨ j = 229 ∨ j = 230 ∨ j = 232 ∨ j = 233 := by omega
                                rcases hj with rfl | rfl | rfl | rfl | rfl <;> simp [eA63, eA203, elA, va_up, upd, Nat.ne_of_lt hk], by simp [eA63, eA203, elA, va_up], fun j h1 h2 => by
                                have hj : j = 235 ∨ j = 236 ∨ j = 237 ∨ j = 238 ∨ j = 239 := by omega
                                rcases hj with rfl | rfl | rfl | rfl | rfl <;> simp [eA63, eA203, elA, va_up], by simp [eA63, eA203, elA, va_up, upd], by simp [eA63, eA203, elA, va_up, upd]⟩ (Nat.le_refl u) (fun z => absurd (hkd215.symm.trans z) (by decide)) (fun _ => ⟨0, 0, by rw [show A203 229 (Ec) = 0 by simp [eA63, eA203, elA, va_up, upd]]; rfl, by rw [show A203 230 (Ec) = 0 by simp [eA63, eA203, elA, va_up, upd]]; rfl, by omega⟩) (fun k z => z.elim)
                            have hnx216 := hnx213.wk (X' := fun _ => False) (fun k z => z.elim id (fun y => absurd (y.2) (by rw [hkd215]; decide)))
                            have hrr217 : A203 239 f = -1 ∨ ∃ r, A203 239 f = nI r ∧ fs f < r ∧ r < Ec := by rw [show A203 239 = A 239 by simp [eA63, eA203, elA, va_up]]; exact hrr0
                            refine f_callVv (na := 1) (As := [.int (nI Ec)]) (rest := []) Bx hml E hP hD hS (by omega) hW205.1 rfl (m_Mo_string l hn hW205 (e9 := Ec) ⟨kk194, kk195, kk202, kk196, kk197, kk198, kk201, kk199⟩ ⟨hL, by omega, by omega, by omega, by omega⟩ (by omega) tT206 kk200 hnx216 hkd215 hcl214 (by omega) hrr217 (by omega)) kw_838 kw_840 sel_Mo_string kw_8 kw_841 (by decide +kernel) ⟨rfl, rfl⟩ ⟨Nat.le_of_ble_eq_true rfl, Nat.le_of_ble_eq_true rfl⟩ rfl hl.1 (Nat.le_of_ble_eq_true rfl) d_Mo_single_291 ⟨Nat.le_of_ble_eq_true rfl, Nat.le_of_ble_eq_true rfl⟩ (fun mem219 H locs hq hP hS => ?_)
                            have hD : va_D (Az sz) (fw n ad mem219) := fw_D hD
                            obtain ⟨J220, A221, nn222, hW223, hres224⟩ := hq
                            refine lv_goto Bx.1 Bx.2.1 d_Mo_single_294 rfl ?_
                            exact W.vret hx hb hr (fun t ht hW => ⟨⟨mem219, rfl, ⟨J220, A221, nn222, hW223, hres224.mono (by omega)⟩, by show va_P _ _ _ t.heap; rw [ht]; exact hP⟩, hS.F ht⟩) hS.2.2 d_Mo_single_317
                        · refine lv_aload_n Bx.1 Bx.2.1 d_Mo_single_270 rfl (lv_at hl 4 rfl) ?_
                          refine lv_iconst (v := 1) Bx.1 Bx.2.1 d_Mo_single_271 (by decide) ?_
                          refine lv_aload_n Bx.1 Bx.2.1 d_Mo_single_272 rfl (lv_at hl 4 rfl) ?_
                          refine f_get Bx hP (by omega) hW205.1 rfl inMo 16 (by decide) kw_672 rfl rfl d_Mo_single_273 ?_
                          rw [kk202]
                          refine f_callVv (na := 2) (As := [.int (1), .int (nI (a + 1 + 1))]) (rest := []) Bx hml E hP hD hS (by omega) hW205.1 rfl (m_Mo_wrong l hn hW205 (Or.inl kk196) (by first | exact Or.inl rfl | exact Or.inr rfl)) kw_799 kw_801 sel_Mo_wrong kw_8 kw_802 (by decide +kernel) ⟨rfl, rfl⟩ ⟨Nat.le_of_ble_eq_true rfl, Nat.le_of_ble_eq_true rfl⟩ rfl hl.1 (Nat.le_of_ble_eq_true rfl) d_Mo_single_276 ⟨Nat.le_of_ble_eq_true rfl, Nat.le_of_ble_eq_true rfl⟩ (fun mem226 H locs hq hP hS => ?_)
                          have hD : va_D (Az sz) (fw n ad mem226) := fw_D hD
                          obtain ⟨J227, hW228, hwr229⟩ := hq
                          have kk230 : J227 1 = nI L := (show J227 1 = J191 1 from hwr229.2 1 (by decide) (by decide)).trans kk194
                          have kk231 : J227 24 = nI G := (show J227 24 = J191 24 from hwr229.2 24 (by decide) (by decide)).trans kk195
                          have kk232 : J227 14 = nI u := (show J227 14 = J191 14 from hwr229.2 14 (by decide) (by decide)).trans kk197
                          have kk233 : J227 4 = nI R := (show J227 4 = J191 4 from hwr229.2 4 (by decide) (by decide)).trans kk198
                          have kk234 : J227 18 = nI (f + 1) := (show J227 18 = J191 18 from hwr229.2 18 (by decide) (by decide)).trans kk199
                          have kk235 : J227 28 = 0 := (show J227 28 = J191 28 from hwr229.2 28 (by decide) (by decide)).trans kk200
                          have kk236 : J227 7 = nI (Ec + 1) := (show J227 7 = J191 7 from hwr229.2 7 (by decide) (by decide)).trans kk201
                          have kk237 : J227 16 = nI (a + 1 + 1) := (show J227 16 = J191 16 from hwr229.2 16 (by decide) (by decide)).trans kk202
                          refine lv_goto Bx.1 Bx.2.1 d_Mo_single_279 rfl ?_
                          exact W.vret hx hb hr (fun t ht hW => ⟨⟨mem226, rfl, ⟨J227, A203, nm, hW228, Or.inl ⟨kk230, kk231, tT206, hwr229.1, _, by omega, kk237⟩⟩, by show va_P _ _ _ t.heap; rw [ht]; exact hP⟩, hS.F ht⟩) hS.2.2 d_Mo_single_317
                    · exact absurd hb190 (by decide)
                  · refine lv_aload_n Bx.1 Bx.2.1 d_Mo_single_220 rfl (lv_at hl 4 rfl) ?_
                    refine lv_iconst (v := 1) Bx.1 Bx.2.1 d_Mo_single_221 (by decide) ?_
                    refine lv_aload_n Bx.1 Bx.2.1 d_Mo_single_222 rfl (lv_at hl 4 rfl) ?_
                    refine f_get Bx hP (by omega) hW105.1 rfl inMo 16 (by decide) kw_672 rfl rfl d_Mo_single_223 ?_
                    rw [kk114]
                    refine f_callVv (na := 2) (As := [.int (1), .int (nI (a + 1))]) (rest := []) Bx hml E hP hD hS (by omega) hW105.1 rfl (m_Mo_wrong l hn hW105 (Or.inl kk108) (by first | exact Or.inl rfl | exact Or.inr rfl)) kw_799 kw_801 sel_Mo_wrong kw_8 kw_802 (by decide +kernel) ⟨rfl, rfl⟩ ⟨Nat.le_of_ble_eq_true rfl, Nat.le_of_ble_eq_true rfl⟩ rfl hl.1 (Nat.le_of_ble_eq_true rfl) d_Mo_single_226 ⟨Nat.le_of_ble_eq_true rfl, Nat.le_of_ble_eq_true rfl⟩ (fun mem239 H locs hq hP hS => ?_)
                    have hD : va_D (Az sz) (fw n ad mem239) := fw_D hD
                    obtain ⟨J240, hW241, hwr242⟩ := hq
                    have kk243 : J240 1 = nI L := (show J240 1 = J103 1 from hwr242.2 1 (by decide) (by decide)).trans kk106
                    have kk244 : J240 24 = nI G := (show J240 24 = J103 24 from hwr242.2 24 (by decide) (by decide)).trans kk107
                    have kk245 : J240 14 = nI u := (show J240 14 = J103 14 from hwr242.2 14 (by decide) (by decide)).trans kk109
                    have kk246 : J240 4 = nI R := (show J240 4 = J103 4 from hwr242.2 4 (by decide) (by decide)).trans kk110
                    have kk247 : J240 18 = nI (f + 1) := (show J240 18 = J103 18 from hwr242.2 18 (by decide) (by decide)).trans kk111
                    have kk248 : J240 28 = 0 := (show J240 28 = J103 28 from hwr242.2 28 (by decide) (by decide)).trans kk112
                    have kk249 : J240 7 = nI (Ec + 1) := (show J240 7 = J103 7 from hwr242.2 7 (by decide) (by decide)).trans kk113
                    have kk250 : J240 16 = nI (a + 1) := (show J240 16 = J103 16 from hwr242.2 16 (by decide) (by decide)).trans kk114
                    refine lv_aload_n Bx.1 Bx.2.1 d_Mo_single_229 rfl (lv_at hl 4 rfl) ?_
                    refine f_get Bx hP (by omega) hW241.1 rfl inMo 17 (by decide) kw_673 rfl rfl d_Mo_single_230 ?_
                    refine lv_if_le Bx.1 Bx.2.1 d_Mo_single_233 rfl (fun hb251 => ?_) (fun hb251 => ?_)
                    · exact absurd hb251 hwr242.1.nle
                    · exact W.vret hx hb hr (fun t ht hW => ⟨⟨mem239, rfl, ⟨J240, A63, nm, hW241, Or.inl ⟨kk243, kk244, tT102, hwr242.1, _, by omega, kk250⟩⟩, by show va_P _ _ _ t.heap; rw [ht]; exact hP⟩, hS.F ht⟩) hS.2.2 d_Mo_single_236
        · have hlt252 := hereF_lt (by rw [hb55]; decide)
          rw [hb55] at hl
          refine lv_aload_n Bx.1 Bx.2.1 d_Mo_single_144 rfl (lv_at hl 2 rfl) ?_
          refine lv_iconst (v := 4) Bx.1 Bx.2.1 d_Mo_single_145 (by decide) ?_
          refine lv_iload_n Bx.1 Bx.2.1 d_Mo_single_146 rfl (lv_at hl 1 rfl) ?_
          refine f_callVi (na := 2) (As := [.int (4), .int (nI a)]) (rest := []) Bx hml E hP hD hS (by omega) hM.1 rfl (m_Mo_element l hn hM (Or.inl g4) g7 (by omega)) kw_814 kw_816 sel_Mo_element kw_8 kw_817 (by decide +kernel) ⟨rfl, rfl⟩ ⟨Nat.le_of_ble_eq_true rfl, Nat.le_of_ble_eq_true rfl⟩ rfl hl.1 (Nat.le_of_ble_eq_true rfl) d_Mo_single_147 ⟨Nat.le_of_ble_eq_true rfl, Nat.le_of_ble_eq_true rfl⟩ (fun r253 mem254 H locs hq hP hS => ?_)
          have hD : va_D (Az sz) (fw n ad mem254) := fw_D hD
          rcases hq with ⟨hre262, J255, hW256, hwr257⟩ | ⟨hEl258, hre263, hW261⟩
          · subst hre262
            have kk264 : J255 1 = nI L := (show J255 1 = J 1 from hwr257.2 1 (by decide) (by decide)).trans g1
            have kk265 : J255 24 = nI G := (show J255 24 = J 24 from hwr257.2 24 (by decide) (by decide)).trans g2
            have kk266 : J255 16 = nI a := (show J255 16 = J 16 from hwr257.2 16 (by decide) (by decide)).trans g3
            have kk267 : J255 14 = nI u := (show J255 14 = J 14 from hwr257.2 14 (by decide) (by decide)).trans g5
            have kk268 : J255 4 = nI R := (show J255 4 = J 4 from hwr257.2 4 (by decide) (by decide)).trans g6
            have kk269 : J255 7 = nI Ec := (show J255 7 = J 7 from hwr257.2 7 (by decide) (by decide)).trans g7
            have kk270 : J255 18 = nI (f + 1) := (show J255 18 = J 18 from hwr257.2 18 (by decide) (by decide)).trans g8
            have kk271 : J255 28 = 0 := (show J255 28 = J 28 from hwr257.2 28 (by decide) (by decide)).trans hp
            refine lv_istore_n (lv' := [(3, .int (0)), (2, .int (34)), (1, .int (nI a)), (0, .ref (ad 224))]) Bx.1 Bx.2.1 d_Mo_single_150 rfl hl (by decide) rfl (fun ls hl => ?_)
            refine lv_aload_n Bx.1 Bx.2.1 d_Mo_single_151 rfl (lv_at hl 3 rfl) ?_
            refine f_get Bx hP (by omega) hW256.1 rfl inMo 17 (by decide) kw_673 rfl rfl d_Mo_single_152 ?_
            refine lv_if_ne Bx.1 Bx.2.1 d_Mo_single_155 rfl (fun hb272 => ?_) (fun hb272 => ?_)
            · refine lv_goto Bx.1 Bx.2.1 d_Mo_single_163 rfl ?_
              exact W.vret hx hb hr (fun t ht hW => ⟨⟨mem254, rfl, ⟨J255, A, nm, hW256, Or.inl ⟨kk264, kk265, hT, hwr257.1, _, by omega, kk266⟩⟩, by show va_P _ _ _ t.heap; rw [ht]; exact hP⟩, hS.F ht⟩) hS.2.2 d_Mo_single_317
            · exact absurd hb272 hwr257.1.ne
          · subst hre263
            obtain ⟨J259, eJ259⟩ : ∃ z, z = va_up J 7 (nI (Ec + 1)) := ⟨_, rfl⟩
            obtain ⟨A260, eA260⟩ : ∃ z, z = elA A (Ec) 4 := ⟨_, rfl⟩
            rw [← eJ259, ← eA260] at hW261
            have kk273 : J259 1 = nI L := (show J259 1 = J 1 from by rw [eJ259]; rfl).trans g1
            have kk274 : J259 24 = nI G := (show J259 24 = J 24 from by rw [eJ259]; rfl).trans g2
            have kk275 : J259 16 = nI a := (show J259 16 = J 16 from by rw [eJ259]; rfl).trans g3
            have kk276 : J259 17 = 0 := (show J259 17 = J 17 from by rw [eJ259]; rfl).trans g4
            have kk277 : J259 14 = nI u := (show J259 14 = J 14 from by rw [eJ259]; rfl).trans g5
            have kk278 : J259 4 = nI R := (show J259 4 = J 4 from by rw [eJ259]; rfl).trans g6
            have kk279 : J259 18 = nI (f + 1) := (show J259 18 = J 18 from by rw [eJ259]; rfl).trans g8
            have kk280 : J259 28 = 0 := (show J259 28 = J 28 from by rw [eJ259]; rfl).trans hp
            have kk281 : J259 7 = nI (Ec + 1) := by rw [eJ259, va_up_self]
            have tT282 : A260 225 = T := by rw [eA260]; exact hT
            refine lv_istore_n (lv' := [(3, .int (nI Ec)), (2, .int (34)), (1, .int (nI a)), (0, .ref (ad 224))]) Bx.1 Bx.2.1 d_Mo_single_150 rfl hl (by decide) rfl (fun ls hl => ?_)
            refine lv_aload_n Bx.1 Bx.2.1 d_Mo_single_151 rfl (lv_at hl 3 rfl) ?_
            refine f_get Bx hP (by omega) hW261.1 rfl inMo 17 (by decide) kw_673 rfl rfl d_Mo_single_152 ?_
            rw [kk276]
            refine lv_if_ne Bx.1 Bx.2.1 d_Mo_single_155 rfl (fun hb283 => ?_) (fun hb283 => ?_)
            · exact absurd hb283 (by decide)
            · refine lv_aload_n Bx.1 Bx.2.1 d_Mo_single_158 rfl (lv_at hl 3 rfl) ?_
              refine lv_iload_n Bx.1 Bx.2.1 d_Mo_single_159 rfl (lv_at hl 0 rfl) ?_
              have hkd286 : A260 228 (Ec) = 4 := by simp [eA260, elA, va_up, upd]
              obtain ⟨hnx284, hcl285⟩ := hI.ext (A' := A260) ⟨fun j h1 h2 h3 k hk => by
                  have hj : j = 228 ∨ j = 229 ∨ j = 230 ∨ j = 232 ∨ j = 233 := by omega
                  rcases hj with rfl | rfl | rfl | rfl | rfl <;> simp [eA260, elA, va_up, upd, Nat.ne_of_lt hk], by simp [eA260, elA, va_up], fun j h1 h2 => by
                  have hj : j = 235 ∨ j = 236 ∨ j = 237 ∨ j = 238 ∨ j = 239 := by omega
                  rcases hj with rfl | rfl | rfl | rfl | rfl <;> simp [eA260, elA, va_up], by simp [eA260, elA, va_up, upd], by simp [eA260, elA, va_up, upd]⟩ (Nat.le_refl u) (fun z => absurd (hkd286.symm.trans z) (by decide)) (fun _ => ⟨0, 0, by rw [show A260 229 (Ec) = 0 by simp [eA260, elA, va_up, upd]]; rfl, by rw [show A260 230 (Ec) = 0 by simp [eA260, elA, va_up, upd]]; rfl, by omega⟩) (fun k z => z.elim)
              have hnx287 := hnx284.wk (X' := fun _ => False) (fun k z => z.elim id (fun y => absurd (y.2) (by rw [hkd286]; decide)))
              have hrr288 : A260 239 f = -1 ∨ ∃ r, A260 239 f = nI r ∧ fs f < r ∧ r < Ec := by rw [show A260 239 = A 239 by simp [eA260, elA, va_up]]; exact hrr0
              refine f_callVv (na := 1) (As := [.int (nI Ec)]) (rest := []) Bx hml E hP hD hS (by omega) hW261.1 rfl (m_Mo_string l hn hW261 (e9 := Ec) ⟨kk273, kk274, kk275, kk276, kk277, kk278, kk281, kk279⟩ ⟨hL, by omega, by omega, by omega, by omega⟩ (by omega) tT282 kk280 hnx287 hkd286 hcl285 (by omega) hrr288 (by omega)) kw_838 kw_840 sel_Mo_string kw_8 kw_841 (by decide +kernel) ⟨rfl, rfl⟩ ⟨Nat.le_of_ble_eq_true rfl, Nat.le_of_ble_eq_true rfl⟩ rfl hl.1 (Nat.le_of_ble_eq_true rfl) d_Mo_single_160 ⟨Nat.le_of_ble_eq_true rfl, Nat.le_of_ble_eq_true rfl⟩ (fun mem290 H locs hq hP hS => ?_)
              have hD : va_D (Az sz) (fw n ad mem290) := fw_D hD
              obtain ⟨J291, A292, nn293, hW294, hres295⟩ := hq
              refine lv_goto Bx.1 Bx.2.1 d_Mo_single_163 rfl ?_
              exact W.vret hx hb hr (fun t ht hW => ⟨⟨mem290, rfl, ⟨J291, A292, nn293, hW294, hres295.mono (by omega)⟩, by show va_P _ _ _ t.heap; rw [ht]; exact hP⟩, hS.F ht⟩) hS.2.2 d_Mo_single_317
      · have hlt296 := hereF_lt (by rw [hb54]; decide)
        rw [hb54] at hl
        refine lv_aload_n Bx.1 Bx.2.1 d_Mo_single_68 rfl (lv_at hl 2 rfl) ?_
        refine f_get Bx hP (by omega) hM.1 rfl inMo 18 (by decide) kw_674 rfl rfl d_Mo_single_69 ?_
        rw [g8]
        refine lv_bipush (v := 6) Bx.1 Bx.2.1 d_Mo_single_72 (by decide) ?_
        refine lv_icmp_le Bx.1 Bx.2.1 d_Mo_single_74 rfl (fun hb297 => ?_) (fun hb297 => ?_)
        · have hN298 : f + 1 ≤ 6 := (nI_leI (by omega) (by omega)).mp (show nI (f + 1) ≤ nI (6) from hb297)
          refine lv_iload_n Bx.1 Bx.2.1 d_Mo_single_84 rfl (lv_at hl 0 rfl) ?_
          refine lv_bipush (v := 91) Bx.1 Bx.2.1 d_Mo_single_85 (by decide) ?_
          refine lv_icmp_ne Bx.1 Bx.2.1 d_Mo_single_87 rfl (fun hb299 => ?_) (fun hb299 => ?_)
          · exact absurd hb299 (by decide)
          · refine lv_aload_n Bx.1 Bx.2.1 d_Mo_single_90 rfl (lv_at hl 2 rfl) ?_
            refine lv_iconst (v := 3) Bx.1 Bx.2.1 d_Mo_single_91 (by decide) ?_
            refine lv_iload_n Bx.1 Bx.2.1 d_Mo_single_92 rfl (lv_at hl 1 rfl) ?_
            refine f_callVi (na := 2) (As := [.int (3), .int (nI a)]) (rest := []) Bx hml E hP hD hS (by omega) hM.1 rfl (m_Mo_element l hn hM (Or.inl g4) g7 (by omega)) kw_814 kw_816 sel_Mo_element kw_8 kw_817 (by decide +kernel) ⟨rfl, rfl⟩ ⟨Nat.le_of_ble_eq_true rfl, Nat.le_of_ble_eq_true rfl⟩ rfl hl.1 (Nat.le_of_ble_eq_true rfl) d_Mo_single_93 ⟨Nat.le_of_ble_eq_true rfl, Nat.le_of_ble_eq_true rfl⟩ (fun r300 mem301 H locs hq hP hS => ?_)
            have hD : va_D (Az sz) (fw n ad mem301) := fw_D hD
            rcases hq with ⟨hre309, J302, hW303, hwr304⟩ | ⟨hEl305, hre310, hW308⟩
            · subst hre309
              have kk311 : J302 1 = nI L := (show J302 1 = J 1 from hwr304.2 1 (by decide) (by decide)).trans g1
              have kk312 : J302 24 = nI G := (show J302 24 = J 24 from hwr304.2 24 (by decide) (by decide)).trans g2
              have kk313 : J302 16 = nI a := (show J302 16 = J 16 from hwr304.2 16 (by decide) (by decide)).trans g3
              have kk314 : J302 14 = nI u := (show J302 14 = J 14 from hwr304.2 14 (by decide) (by decide)).trans g5
              have kk315 : J302 4 = nI R := (show J302 4 = J 4 from hwr304.2 4 (by decide) (by decide)).trans g6
              have kk316 : J302 7 = nI Ec := (show J302 7 = J 7 from hwr304.2 7 (by decide) (by decide)).trans g7
              have kk317 : J302 18 = nI (f + 1) := (show J302 18 = J 18 from hwr304.2 18 (by decide) (by decide)).trans g8
              have kk318 : J302 28 = 0 := (show J302 28 = J 28 from hwr304.2 28 (by decide) (by decide)).trans hp
              refine lv_goto Bx.1 Bx.2.1 d_Mo_single_96 rfl ?_
              refine lv_istore_n (lv' := [(3, .int (0)), (2, .int (91)), (1, .int (nI a)), (0, .ref (ad 224))]) Bx.1 Bx.2.1 d_Mo_single_100 rfl hl (by decide) rfl (fun ls hl => ?_)
              refine lv_aload_n Bx.1 Bx.2.1 d_Mo_single_101 rfl (lv_at hl 3 rfl) ?_
              refine f_get Bx hP (by omega) hW303.1 rfl inMo 17 (by decide) kw_673 rfl rfl d_Mo_single_102 ?_
              refine lv_if_le Bx.1 Bx.2.1 d_Mo_single_105 rfl (fun hb319 => ?_) (fun hb319 => ?_)
              · exact absurd hb319 hwr304.1.nle
              · exact W.vret hx hb hr (fun t ht hW => ⟨⟨mem301, rfl, ⟨J302, A, nm, hW303, Or.inl ⟨kk311, kk312, hT, hwr304.1, _, by omega, kk313⟩⟩, by show va_P _ _ _ t.heap; rw [ht]; exact hP⟩, hS.F ht⟩) hS.2.2 d_Mo_single_108
            · subst hre310
              obtain ⟨J306, eJ306⟩ : ∃ z, z = va_up J 7 (nI (Ec + 1)) := ⟨_, rfl⟩
              obtain ⟨A307, eA307⟩ : ∃ z, z = elA A (Ec) 3 := ⟨_, rfl⟩
              rw [← eJ306, ← eA307] at hW308
              have kk320 : J306 1 = nI L := (show J306 1 = J 1 from by rw [eJ306]; rfl).trans g1
              have kk321 : J306 24 = nI G := (show J306 24 = J 24 from by rw [eJ306]; rfl).trans g2
              have kk322 : J306 16 = nI a := (show J306 16 = J 16 from by rw [eJ306]; rfl).trans g3
              have kk323 : J306 17 = 0 := (show J306 17 = J 17 from by rw [eJ306]; rfl).trans g4
              have kk324 : J306 14 = nI u := (show J306 14 = J 14 from by rw [eJ306]; rfl).trans g5
              have kk325 : J306 4 = nI R := (show J306 4 = J 4 from by rw [eJ306]; rfl).trans g6
              have kk326 : J306 18 = nI (f + 1) := (show J306 18 = J 18 from by rw [eJ306]; rfl).trans g8
              have kk327 : J306 28 = 0 := (show J306 28 = J 28 from by rw [eJ306]; rfl).trans hp
              have kk328 : J306 7 = nI (Ec + 1) := by rw [eJ306, va_up_self]
              have tT329 : A307 225 = T := by rw [eA307]; exact hT
              refine lv_goto Bx.1 Bx.2.1 d_Mo_single_96 rfl ?_
              refine lv_istore_n (lv' := [(3, .int (nI Ec)), (2, .int (91)), (1, .int (nI a)), (0, .ref (ad 224))]) Bx.1 Bx.2.1 d_Mo_single_100 rfl hl (by decide) rfl (fun ls hl => ?_)
              refine lv_aload_n Bx.1 Bx.2.1 d_Mo_single_101 rfl (lv_at hl 3 rfl) ?_
              refine f_get Bx hP (by omega) hW308.1 rfl inMo 17 (by decide) kw_673 rfl rfl d_Mo_single_102 ?_
              rw [kk323]
              refine lv_if_le Bx.1 Bx.2.1 d_Mo_single_105 rfl (fun hb330 => ?_) (fun hb330 => ?_)
              · refine lv_aload_n Bx.1 Bx.2.1 d_Mo_single_109 rfl (lv_at hl 3 rfl) ?_
                refine lv_dup Bx.1 Bx.2.1 d_Mo_single_110 rfl ?_
                refine f_get Bx hP (by omega) hW308.1 rfl inMo 16 (by decide) kw_672 rfl rfl d_Mo_single_111 ?_
                rw [kk322]
                refine lv_iconst (v := 1) Bx.1 Bx.2.1 d_Mo_single_114 (by decide) ?_
                refine lv_iadd Bx.1 Bx.2.1 d_Mo_single_115 ?_
                rw [show nI a + 1 = nI (a + 1) from nI_add (a) (1)]
                refine f_put Bx hP hD hS (by omega) hW308.1 rfl inMo tyMo okMo nmMo 16 (by decide) kw_672 rfl rfl rfl rfl (Nat.le_of_ble_eq_true rfl) d_Mo_single_116 (fun H locs hP hS => ?_)
                obtain ⟨J331, eJ331⟩ : ∃ z, z = va_up J306 16 (nI (a + 1)) := ⟨_, rfl⟩
                obtain ⟨mem332, e_mem332⟩ : ∃ z, z = va_up mem301 224 (moC ad J331) := ⟨_, rfl⟩
                have hP : va_P D vcl (fw n ad mem332) H := by rw [e_mem332, eJ331]; exact hP
                have hD : va_D (Az sz) (fw n ad mem332) := fw_D hD
                have hW333 : MW cy ad J331 A307 nm m0 mem332 := by rw [e_mem332]; exact hW308.upJ (by rw [eJ331]; exact va_up_ne _ _ (by decide))
                have kk334 : J331 1 = nI L := by rw [eJ331]; exact kk320
                have kk335 : J331 24 = nI G := by rw [eJ331]; exact kk321
                have kk336 : J331 17 = 0 := by rw [eJ331]; exact kk323
                have kk337 : J331 14 = nI u := by rw [eJ331]; exact kk324
                have kk338 : J331 4 = nI R := by rw [eJ331]; exact kk325
                have kk339 : J331 18 = nI (f + 1) := by rw [eJ331]; exact kk326
                have kk340 : J331 28 = 0 := by rw [eJ331]; exact kk327
                have kk341 : J331 7 = nI (Ec + 1) := by rw [eJ331]; exact kk328
                have kk342 : J331 16 = nI (a + 1) := by rw [eJ331, va_up_self]
                refine lv_aload_n Bx.1 Bx.2.1 d_Mo_single_119 rfl (lv_at hl 3 rfl) ?_
                refine lv_iload_n Bx.1 Bx.2.1 d_Mo_single_120 rfl (lv_at hl 1 rfl) ?_
                refine lv_bipush (v := 40) Bx.1 Bx.2.1 d_Mo_single_121 (by decide) ?_
                refine lv_icmp_ne Bx.1 Bx.2.1 d_Mo_single_123 rfl (fun hb343 => ?_) (fun hb343 => ?_)
                · refine lv_iconst (v := 2) Bx.1 Bx.2.1 d_Mo_single_130 (by decide) ?_
                  refine lv_iload_n Bx.1 Bx.2.1 d_Mo_single_131 rfl (lv_at hl 0 rfl) ?_
                  have hkd346 : A307 228 (Ec) = 3 := by simp [eA307, elA, va_up, upd]
                  obtain ⟨hnx344, hcl345⟩ := hI.ext (A' := A307) ⟨fun j h1 h2 h3 k hk => by
                      have hj : j = 228 ∨ j = 229 ∨ j = 230 ∨ j = 232 ∨ j = 233 := by omega
                      rcases hj with rfl | rfl | rfl | rfl | rfl <;> simp [eA307, elA, va_up, upd, Nat.ne_of_lt hk], by simp [eA307, elA, va_up], fun j h1 h2 => by
                      have hj : j = 235 ∨ j = 236 ∨ j = 237 ∨ j = 238 ∨ j = 239 := by omega
                      rcases hj with rfl | rfl | rfl | rfl | rfl <;> simp [eA307, elA, va_up], by simp [eA307, elA, va_up, upd], by simp [eA307, elA, va_up, upd]⟩ (Nat.le_refl u) (fun z => absurd (hkd346.symm.trans z) (by decide)) (fun z => absurd (hkd346.symm.trans z) (by decide)) (fun k z => z.elim)
                  have hrr347 : A307 239 f = -1 ∨ ∃ r, A307 239 f = nI r ∧ fs f < r ∧ r < Ec := by rw [show A307 239 = A 239 by simp [eA307, elA, va_up]]; exact hrr0
                  refine f_callVv (na := 2) (As := [.int (2), .int (nI Ec)]) (rest := []) Bx hml E hP hD hS (by omega) hW333.1 rfl (m_Mo_enterB l hn hW333 (tt := Ec) ⟨kk334, kk335, kk342, kk336, kk337, kk338, kk341, kk339⟩ ⟨hL, by omega, by omega, by omega, by omega⟩ (by omega) (by omega) tT329 kk340 hnx344 (Or.inr ⟨rfl, rfl, rfl, by simp [eA307, elA, va_up, upd], by simp [eA307, elA, va_up, upd], fun k z => (z.resolve_left id).1⟩) (by omega) hrr347 hcl345) kw_807 kw_809 sel_Mo_enter kw_8 kw_810 (by decide +kernel) ⟨rfl, rfl⟩ ⟨Nat.le_of_ble_eq_true rfl, Nat.le_of_ble_eq_true rfl⟩ rfl hl.1 (Nat.le_of_ble_eq_true rfl) d_Mo_single_132 ⟨Nat.le_of_ble_eq_true rfl, Nat.le_of_ble_eq_true rfl⟩ (fun mem349 H locs hq hP hS => ?_)
                  have hD : va_D (Az sz) (fw n ad mem349) := fw_D hD
                  obtain ⟨J350, A351, nn352, hW353, hres354⟩ := hq
                  refine lv_goto Bx.1 Bx.2.1 d_Mo_single_135 rfl ?_
                  exact W.vret hx hb hr (fun t ht hW => ⟨⟨mem349, rfl, ⟨J350, A351, nn352, hW353, hres354.res (by omega)⟩, by show va_P _ _ _ t.heap; rw [ht]; exact hP⟩, hS.F ht⟩) hS.2.2 d_Mo_single_317
                · exact absurd hb343 (by decide)
              · exact absurd hb330 (by decide)
        · have hN355 : ¬ f + 1 ≤ 6 := fun q9 => hb297 (show nI (f + 1) ≤ nI (6) from (nI_leI (by omega) (by omega)).mpr q9)
          refine lv_aload_n Bx.1 Bx.2.1 d_Mo_single_77 rfl (lv_at hl 2 rfl) ?_
          refine lv_iconst (v := 2) Bx.1 Bx.2.1 d_Mo_single_78 (by decide) ?_
          refine lv_iload_n Bx.1 Bx.2.1 d_Mo_single_79 rfl (lv_at hl 1 rfl) ?_
          refine f_callVv (na := 2) (As := [.int (2), .int (nI a)]) (rest := []) Bx hml E hP hD hS (by omega) hM.1 rfl (m_Mo_wrong l hn hM (Or.inl g4) (by first | exact Or.inl rfl | exact Or.inr rfl)) kw_799 kw_801 sel_Mo_wrong kw_8 kw_802 (by decide +kernel) ⟨rfl, rfl⟩ ⟨Nat.le_of_ble_eq_true rfl, Nat.le_of_ble_eq_true rfl⟩ rfl hl.1 (Nat.le_of_ble_eq_true rfl) d_Mo_single_80 ⟨Nat.le_of_ble_eq_true rfl, Nat.le_of_ble_eq_true rfl⟩ (fun mem357 H locs hq hP hS => ?_)
          have hD : va_D (Az sz) (fw n ad mem357) := fw_D hD
          obtain ⟨J358, hW359, hwr360⟩ := hq
          have kk361 : J358 1 = nI L := (show J358 1 = J 1 from hwr360.2 1 (by decide) (by decide)).trans g1
          have kk362 : J358 24 = nI G := (show J358 24 = J 24 from hwr360.2 24 (by decide) (by decide)).trans g2
          have kk363 : J358 16 = nI a := (show J358 16 = J 16 from hwr360.2 16 (by decide) (by decide)).trans g3
          have kk364 : J358 14 = nI u := (show J358 14 = J 14 from hwr360.2 14 (by decide) (by decide)).trans g5
          have kk365 : J358 4 = nI R := (show J358 4 = J 4 from hwr360.2 4 (by decide) (by decide)).trans g6
          have kk366 : J358 7 = nI Ec := (show J358 7 = J 7 from hwr360.2 7 (by decide) (by decide)).trans g7
          have kk367 : J358 18 = nI (f + 1) := (show J358 18 = J 18 from hwr360.2 18 (by decide) (by decide)).trans g8
          have kk368 : J358 28 = 0 := (show J358 28 = J 28 from hwr360.2 28 (by decide) (by decide)).trans hp
          exact W.vret hx hb hr (fun t ht hW => ⟨⟨mem357, rfl, ⟨J358, A, nm, hW359, Or.inl ⟨kk361, kk362, hT, hwr360.1, _, by omega, kk363⟩⟩, by show va_P _ _ _ t.heap; rw [ht]; exact hP⟩, hS.F ht⟩) hS.2.2 d_Mo_single_83
  · refine lv_aload_n Bx.1 Bx.2.1 d_Mo_single_17 rfl (lv_at hl 2 rfl) ?_
    refine f_callVi (na := 0) (As := []) (rest := []) Bx hml E hP hD hS (by omega) hM.1 rfl (m_Mo_name l hn hM g1 hL g3 (by omega) (Or.inl g4) g6 hRb (by rw [hT]; exact hb13)) kw_789 kw_791 sel_Mo_name kw_8 kw_792 (by decide +kernel) ⟨rfl, rfl⟩ ⟨Nat.le_of_ble_eq_true rfl, Nat.le_of_ble_eq_true rfl⟩ rfl hl.1 (Nat.le_of_ble_eq_true rfl) d_Mo_single_18 ⟨Nat.le_of_ble_eq_true rfl, Nat.le_of_ble_eq_true rfl⟩ (fun r369 mem370 H locs hq hP hS => ?_)
    have hD : va_D (Az sz) (fw n ad mem370) := fw_D hD
    obtain ⟨J371, A372, nn373, hW374, a375, hg376, hg377, kk378, hfm379, hcs380⟩ := hq
    rcases hcs380 with ⟨hbad381, hAe382⟩ | ⟨kk383, r384, R385, hre386, hr0_387, hR2_388, kk389, hcase390⟩
    · have hT9 : A372 225 = T := by rw [hAe382]; exact hT
      have kk391 : J371 1 = nI L := (show J371 1 = J 1 from hfm379 1 (by decide) (by decide) (by decide) (by decide)).trans g1
      have kk392 : J371 24 = nI G := (show J371 24 = J 24 from hfm379 24 (by decide) (by decide) (by decide) (by decide)).trans g2
      have kk393 : J371 14 = nI u := (show J371 14 = J 14 from hfm379 14 (by decide) (by decide) (by decide) (by decide)).trans g5
      have kk394 : J371 7 = nI Ec := (show J371 7 = J 7 from hfm379 7 (by decide) (by decide) (by decide) (by decide)).trans g7
      have kk395 : J371 18 = nI (f + 1) := (show J371 18 = J 18 from hfm379 18 (by decide) (by decide) (by decide) (by decide)).trans g8
      have kk396 : J371 28 = 0 := (show J371 28 = J 28 from hfm379 28 (by decide) (by decide) (by decide) (by decide)).trans hp
      refine lv_istore_n (lv' := [(3, .int (r369)), (2, .int (hereF L T (a))), (1, .int (nI a)), (0, .ref (ad 224))]) Bx.1 Bx.2.1 d_Mo_single_21 rfl hl (by decide) rfl (fun ls hl => ?_)
      refine lv_aload_n Bx.1 Bx.2.1 d_Mo_single_22 rfl (lv_at hl 3 rfl) ?_
      refine lv_bipush (v := 6) Bx.1 Bx.2.1 d_Mo_single_23 (by decide) ?_
      refine lv_iload_n Bx.1 Bx.2.1 d_Mo_single_25 rfl (lv_at hl 2 rfl) ?_
      refine f_callVi (na := 2) (As := [.int (6), .int (nI a)]) (rest := []) Bx hml E hP hD hS (by omega) hW374.1 rfl (m_Mo_element l hn hW374 (Or.inr hbad381) kk394 (by omega)) kw_814 kw_816 sel_Mo_element kw_8 kw_817 (by decide +kernel) ⟨rfl, rfl⟩ ⟨Nat.le_of_ble_eq_true rfl, Nat.le_of_ble_eq_true rfl⟩ rfl hl.1 (Nat.le_of_ble_eq_true rfl) d_Mo_single_26 ⟨Nat.le_of_ble_eq_true rfl, Nat.le_of_ble_eq_true rfl⟩ (fun r397 mem398 H locs hq hP hS => ?_)
      have hD : va_D (Az sz) (fw n ad mem398) := fw_D hD
      rcases hq with ⟨hre406, J399, hW400, hwr401⟩ | ⟨hEl402, hre407, hW405⟩
      · subst hre406
        have kk408 : J399 1 = nI L := (show J399 1 = J371 1 from hwr401.2 1 (by decide) (by decide)).trans kk391
        have kk409 : J399 24 = nI G := (show J399 24 = J371 24 from hwr401.2 24 (by decide) (by decide)).trans kk392
        have kk410 : J399 14 = nI u := (show J399 14 = J371 14 from hwr401.2 14 (by decide) (by decide)).trans kk393
        have kk411 : J399 7 = nI Ec := (show J399 7 = J371 7 from hwr401.2 7 (by decide) (by decide)).trans kk394
        have kk412 : J399 18 = nI (f + 1) := (show J399 18 = J371 18 from hwr401.2 18 (by decide) (by decide)).trans kk395
        have kk413 : J399 28 = 0 := (show J399 28 = J371 28 from hwr401.2 28 (by decide) (by decide)).trans kk396
        have kk414 : J399 16 = nI a375 := (show J399 16 = J371 16 from hwr401.2 16 (by decide) (by decide)).trans kk378
        refine lv_istore (lv' := [(4, .int (0)), (3, .int (r369)), (2, .int (hereF L T (a))), (1, .int (nI a)), (0, .ref (ad 224))]) Bx.1 Bx.2.1 d_Mo_single_29 hl (by decide) rfl (fun ls hl => ?_)
        refine lv_aload_n Bx.1 Bx.2.1 d_Mo_single_31 rfl (lv_at hl 4 rfl) ?_
        refine f_get Bx hP (by omega) hW400.1 rfl inMo 17 (by decide) kw_673 rfl rfl d_Mo_single_32 ?_
        refine lv_if_le Bx.1 Bx.2.1 d_Mo_single_35 rfl (fun hb415 => ?_) (fun hb415 => ?_)
        · exact absurd hb415 hwr401.1.nle
        · exact W.vret hx hb hr (fun t ht hW => ⟨⟨mem398, rfl, ⟨J399, A372, nn373, hW400, Or.inl ⟨kk408, kk409, hT9, hwr401.1, _, by omega, kk414⟩⟩, by show va_P _ _ _ t.heap; rw [ht]; exact hP⟩, hS.F ht⟩) hS.2.2 d_Mo_single_38
      · subst hre407
        obtain ⟨J403, eJ403⟩ : ∃ z, z = va_up J371 7 (nI (Ec + 1)) := ⟨_, rfl⟩
        obtain ⟨A404, eA404⟩ : ∃ z, z = elA A372 (Ec) 6 := ⟨_, rfl⟩
        rw [← eJ403, ← eA404] at hW405
        have kk416 : J403 1 = nI L := (show J403 1 = J371 1 from by rw [eJ403]; rfl).trans kk391
        have kk417 : J403 24 = nI G := (show J403 24 = J371 24 from by rw [eJ403]; rfl).trans kk392
        have kk418 : J403 14 = nI u := (show J403 14 = J371 14 from by rw [eJ403]; rfl).trans kk393
        have kk419 : J403 18 = nI (f + 1) := (show J403 18 = J371 18 from by rw [eJ403]; rfl).trans kk395
        have kk420 : J403 28 = 0 := (show J403 28 = J371 28 from by rw [eJ403]; rfl).trans kk396
        have kk421 : J403 16 = nI a375 := (show J403 16 = J371 16 from by rw [eJ403]; rfl).trans kk378
        have kk422 : J403 7 = nI (Ec + 1) := by rw [eJ403, va_up_self]
        have bd423 : b12 (J403 17) := by rw [eJ403]; exact hbad381
        have tT424 : A404 225 = T := by rw [eA404]; exact hT9
        refine lv_istore (lv' := [(4, .int (nI Ec)), (3, .int (r369)), (2, .int (hereF L T (a))), (1, .int (nI a)), (0, .ref (ad 224))]) Bx.1 Bx.2.1 d_Mo_single_29 hl (by decide) rfl (fun ls hl => ?_)
        refine lv_aload_n Bx.1 Bx.2.1 d_Mo_single_31 rfl (lv_at hl 4 rfl) ?_
        refine f_get Bx hP (by omega) hW405.1 rfl inMo 17 (by decide) kw_673 rfl rfl d_Mo_single_32 ?_
        refine lv_if_le Bx.1 Bx.2.1 d_Mo_single_35 rfl (fun hb425 => ?_) (fun hb425 => ?_)
        · exact absurd hb425 bd423.nle
        · exact W.vret hx hb hr (fun t ht hW => ⟨⟨mem398, rfl, ⟨J403, A404, nn373, hW405, Or.inl ⟨kk416, kk417, tT424, bd423, _, by omega, kk421⟩⟩, by show va_P _ _ _ t.heap; rw [ht]; exact hP⟩, hS.F ht⟩) hS.2.2 d_Mo_single_38
    · subst hre386
      have hI2 : Inv R385 Ec u f True fc fs ft A372 (fun _ => False) := by
        rcases hcase390 with ⟨q1, q2⟩ | ⟨q1, q2⟩
        · rw [q1, q2]; exact hI
        · rw [q1, q2]; exact hI.rule
      have hT9 : A372 225 = T := by
        rcases hcase390 with ⟨q1, q2⟩ | ⟨q1, q2⟩
        · rw [q2]; exact hT
        · rw [q2]; exact hT
      have hrr9 := (hI2.2.2.2.2 f (Nat.le_refl _)).rep
      have kk426 : J371 1 = nI L := (show J371 1 = J 1 from hfm379 1 (by decide) (by decide) (by decide) (by decide)).trans g1
      have kk427 : J371 24 = nI G := (show J371 24 = J 24 from hfm379 24 (by decide) (by decide) (by decide) (by decide)).trans g2
      have kk428 : J371 14 = nI u := (show J371 14 = J 14 from hfm379 14 (by decide) (by decide) (by decide) (by decide)).trans g5
      have kk429 : J371 7 = nI Ec := (show J371 7 = J 7 from hfm379 7 (by decide) (by decide) (by decide) (by decide)).trans g7
      have kk430 : J371 18 = nI (f + 1) := (show J371 18 = J 18 from hfm379 18 (by decide) (by decide) (by decide) (by decide)).trans g8
      have kk431 : J371 28 = 0 := (show J371 28 = J 28 from hfm379 28 (by decide) (by decide) (by decide) (by decide)).trans hp
      have kk432 : J371 17 = 0 := kk383.trans g4
      refine lv_istore_n (lv' := [(3, .int (nI r384)), (2, .int (hereF L T (a))), (1, .int (nI a)), (0, .ref (ad 224))]) Bx.1 Bx.2.1 d_Mo_single_21 rfl hl (by decide) rfl (fun ls hl => ?_)
      refine lv_aload_n Bx.1 Bx.2.1 d_Mo_single_22 rfl (lv_at hl 3 rfl) ?_
      refine lv_bipush (v := 6) Bx.1 Bx.2.1 d_Mo_single_23 (by decide) ?_
      refine lv_iload_n Bx.1 Bx.2.1 d_Mo_single_25 rfl (lv_at hl 2 rfl) ?_
      refine f_callVi (na := 2) (As := [.int (6), .int (nI a)]) (rest := []) Bx hml E hP hD hS (by omega) hW374.1 rfl (m_Mo_element l hn hW374 (Or.inl kk432) kk429 (by omega)) kw_814 kw_816 sel_Mo_element kw_8 kw_817 (by decide +kernel) ⟨rfl, rfl⟩ ⟨Nat.le_of_ble_eq_true rfl, Nat.le_of_ble_eq_true rfl⟩ rfl hl.1 (Nat.le_of_ble_eq_true rfl) d_Mo_single_26 ⟨Nat.le_of_ble_eq_true rfl, Nat.le_of_ble_eq_true rfl⟩ (fun r433 mem434 H locs hq hP hS => ?_)
      have hD : va_D (Az sz) (fw n ad mem434) := fw_D hD
      rcases hq with ⟨hre442, J435, hW436, hwr437⟩ | ⟨hEl438, hre443, hW441⟩
      · subst hre442
        have kk444 : J435 1 = nI L := (show J435 1 = J371 1 from hwr437.2 1 (by decide) (by decide)).trans kk426
        have kk445 : J435 24 = nI G := (show J435 24 = J371 24 from hwr437.2 24 (by decide) (by decide)).trans kk427
        have kk446 : J435 14 = nI u := (show J435 14 = J371 14 from hwr437.2 14 (by decide) (by decide)).trans kk428
        have kk447 : J435 7 = nI Ec := (show J435 7 = J371 7 from hwr437.2 7 (by decide) (by decide)).trans kk429
        have kk448 : J435 18 = nI (f + 1) := (show J435 18 = J371 18 from hwr437.2 18 (by decide) (by decide)).trans kk430
        have kk449 : J435 28 = 0 := (show J435 28 = J371 28 from hwr437.2 28 (by decide) (by decide)).trans kk431
        have kk450 : J435 16 = nI a375 := (show J435 16 = J371 16 from hwr437.2 16 (by decide) (by decide)).trans kk378
        have kk451 : J435 4 = nI R385 := (show J435 4 = J371 4 from hwr437.2 4 (by decide) (by decide)).trans kk389
        refine lv_istore (lv' := [(4, .int (0)), (3, .int (nI r384)), (2, .int (hereF L T (a))), (1, .int (nI a)), (0, .ref (ad 224))]) Bx.1 Bx.2.1 d_Mo_single_29 hl (by decide) rfl (fun ls hl => ?_)
        refine lv_aload_n Bx.1 Bx.2.1 d_Mo_single_31 rfl (lv_at hl 4 rfl) ?_
        refine f_get Bx hP (by omega) hW436.1 rfl inMo 17 (by decide) kw_673 rfl rfl d_Mo_single_32 ?_
        refine lv_if_le Bx.1 Bx.2.1 d_Mo_single_35 rfl (fun hb452 => ?_) (fun hb452 => ?_)
        · exact absurd hb452 hwr437.1.nle
        · exact W.vret hx hb hr (fun t ht hW => ⟨⟨mem434, rfl, ⟨J435, A372, nn373, hW436, Or.inl ⟨kk444, kk445, hT9, hwr437.1, _, by omega, kk450⟩⟩, by show va_P _ _ _ t.heap; rw [ht]; exact hP⟩, hS.F ht⟩) hS.2.2 d_Mo_single_38
      · subst hre443
        obtain ⟨J439, eJ439⟩ : ∃ z, z = va_up J371 7 (nI (Ec + 1)) := ⟨_, rfl⟩
        obtain ⟨A440, eA440⟩ : ∃ z, z = elA A372 (Ec) 6 := ⟨_, rfl⟩
        rw [← eJ439, ← eA440] at hW441
        have kk453 : J439 1 = nI L := (show J439 1 = J371 1 from by rw [eJ439]; rfl).trans kk426
        have kk454 : J439 24 = nI G := (show J439 24 = J371 24 from by rw [eJ439]; rfl).trans kk427
        have kk455 : J439 14 = nI u := (show J439 14 = J371 14 from by rw [eJ439]; rfl).trans kk428
        have kk456 : J439 18 = nI (f + 1) := (show J439 18 = J371 18 from by rw [eJ439]; rfl).trans kk430
        have kk457 : J439 28 = 0 := (show J439 28 = J371 28 from by rw [eJ439]; rfl).trans kk431
        have kk458 : J439 17 = 0 := (show J439 17 = J371 17 from by rw [eJ439]; rfl).trans kk432
        have kk459 : J439 16 = nI a375 := (show J439 16 = J371 16 from by rw [eJ439]; rfl).trans kk378
        have kk460 : J439 4 = nI R385 := (show J439 4 = J371 4 from by rw [eJ439]; rfl).trans kk389
        have kk461 : J439 7 = nI (Ec + 1) := by rw [eJ439, va_up_self]
        have tT462 : A440 225 = T := by rw [eA440]; exact hT9
        refine lv_istore (lv' := [(4, .int (nI Ec)), (3, .int (nI r384)), (2, .int (hereF L T (a))), (1, .int (nI a)), (0, .ref (ad 224))]) Bx.1 Bx.2.1 d_Mo_single_29 hl (by decide) rfl (fun ls hl => ?_)
        refine lv_aload_n Bx.1 Bx.2.1 d_Mo_single_31 rfl (lv_at hl 4 rfl) ?_
        refine f_get Bx hP (by omega) hW441.1 rfl inMo 17 (by decide) kw_673 rfl rfl d_Mo_single_32 ?_
        rw [kk458]
        refine lv_if_le Bx.1 Bx.2.1 d_Mo_single_35 rfl (fun hb463 => ?_) (fun hb463 => ?_)
        · refine lv_aload_n Bx.1 Bx.2.1 d_Mo_single_39 rfl (lv_at hl 4 rfl) ?_
          refine f_get Bx hP (by omega) hW441.1 rfl inMo 9 (by decide) kw_665 rfl rfl d_Mo_single_40 ?_
          refine lv_iload Bx.1 Bx.2.1 d_Mo_single_43 (lv_at hl 0 rfl) ?_
          refine lv_iload_n Bx.1 Bx.2.1 d_Mo_single_45 rfl (lv_at hl 1 rfl) ?_
          refine f_iast (x := nI r384) (i := nI (Ec)) Bx hP hD hS (by omega) (show mem434 229 = .inl (cy 1, 100, .inl (A440 229)) from hW441.2.2.1 229 (by decide) (by decide) (by decide)) (vp_in_nI (n := Ec) (by omega) (by decide)) d_Mo_single_46 (fun H locs hP hS => ?_)
          rw [nI_clamp (n := Ec) (by omega)] at hP
          obtain ⟨A464, eA464⟩ : ∃ z, z = va_up A440 229 (upd (A440 229) (Ec) (nI r384)) := ⟨_, rfl⟩
          obtain ⟨mem465, e_mem465⟩ : ∃ z, z = va_up mem434 229 (.inl (cy 1, 100, .inl (upd (A440 229) (Ec) (nI r384)))) := ⟨_, rfl⟩
          have hP : va_P D vcl (fw n ad mem465) H := by rw [e_mem465]; exact hP
          have hD : va_D (Az sz) (fw n ad mem465) := fw_D hD
          have hW466 : MW cy ad J439 A464 nn373 m0 mem465 := by rw [e_mem465, eA464]; exact hW441.upA (j := 229) (by decide) (by decide) (by decide) (Or.inl (by decide))
          have tT467 : A464 225 = T := by rw [eA464]; exact tT462
          refine lv_aload_n Bx.1 Bx.2.1 d_Mo_single_47 rfl (lv_at hl 4 rfl) ?_
          refine lv_iload Bx.1 Bx.2.1 d_Mo_single_48 (lv_at hl 0 rfl) ?_
          have hkd470 : A464 228 (Ec) = 6 := by simp [eA440, eA464, elA, va_up, upd]
          obtain ⟨hnx468, hcl469⟩ := hI2.ext (A' := A464) ⟨fun j h1 h2 h3 k hk => by
              have hj : j = 228 ∨ j = 229 ∨ j = 230 ∨ j = 232 ∨ j = 233 := by omega
              rcases hj with rfl | rfl | rfl | rfl | rfl <;> simp [eA440, eA464, elA, va_up, upd, Nat.ne_of_lt hk], by simp [eA440, eA464, elA, va_up], fun j h1 h2 => by
              have hj : j = 235 ∨ j = 236 ∨ j = 237 ∨ j = 238 ∨ j = 239 := by omega
              rcases hj with rfl | rfl | rfl | rfl | rfl <;> simp [eA440, eA464, elA, va_up], by simp [eA440, eA464, elA, va_up, upd], by simp [eA440, eA464, elA, va_up, upd]⟩ (Nat.le_refl u) (fun _ => ⟨r384, hr0_387, by simp [eA440, eA464, elA, va_up, upd]⟩) (fun z => absurd (hkd470.symm.trans z) (by decide)) (fun k z => z.elim)
          have hnx471 := hnx468.wk (X' := fun _ => False) (fun k z => z.elim id (fun y => absurd (y.2) (by rw [hkd470]; decide)))
          have hrr472 : A464 239 f = -1 ∨ ∃ r, A464 239 f = nI r ∧ fs f < r ∧ r < Ec := by rw [show A464 239 = A372 239 by simp [eA440, eA464, elA, va_up]]; exact hrr9
          refine f_callVv (na := 1) (As := [.int (nI Ec)]) (rest := []) Bx hml E hP hD hS (by omega) hW466.1 rfl (m_Mo_placed l hn hW466 kk456 (by omega) (by omega) hnx471 (by omega) (by omega) hrr472 hcl469) kw_834 kw_836 sel_Mo_placed kw_8 kw_837 (by decide +kernel) ⟨rfl, rfl⟩ ⟨Nat.le_of_ble_eq_true rfl, Nat.le_of_ble_eq_true rfl⟩ rfl hl.1 (Nat.le_of_ble_eq_true rfl) d_Mo_single_50 ⟨Nat.le_of_ble_eq_true rfl, Nat.le_of_ble_eq_true rfl⟩ (fun mem474 H locs hq hP hS => ?_)
          have hD : va_D (Az sz) (fw n ad mem474) := fw_D hD
          obtain ⟨A475, hW476, hinv477, h39478, hj479⟩ := hq
          have tT480 : A475 225 = T := (hj479 225 (by decide) (by decide) (by decide)).trans tT467
          refine lv_goto Bx.1 Bx.2.1 d_Mo_single_53 rfl ?_
          exact W.vret hx hb hr (fun t ht hW => ⟨⟨mem474, rfl, ⟨J439, A475, nn373, hW476, Or.inr ⟨a375, by omega, u, R385, Ec + 1, f, fc, fs, ft, ⟨kk453, kk454, kk459, kk458, kk455, kk460, kk461, kk456⟩, ⟨by omega, by omega, by omega, by omega, by omega, by omega⟩, tT480, Or.inl kk457, hinv477.qT, h39478⟩⟩, by show va_P _ _ _ t.heap; rw [ht]; exact hP⟩, hS.F ht⟩) hS.2.2 d_Mo_single_317
        · exact absurd hb463 (by decide)
