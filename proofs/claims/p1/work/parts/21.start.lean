abbrev c_Lw_law : ByteArray := code
theorem d_Lw_law_0 : decode c_Lw_law 0 = .ok (.new 8, 3) := by decide +kernel
theorem d_Lw_law_3 : decode c_Lw_law 3 = .ok (.dup, 1) := by decide +kernel
theorem d_Lw_law_4 : decode c_Lw_law 4 = .ok (.invokespecial 47, 3) := by decide +kernel
theorem d_Lw_law_7 : decode c_Lw_law 7 = .ok (.astore_n 1, 1) := by decide +kernel
theorem d_Lw_law_8 : decode c_Lw_law 8 = .ok (.new 48, 3) := by decide +kernel
theorem d_Lw_law_11 : decode c_Lw_law 11 = .ok (.dup, 1) := by decide +kernel
theorem d_Lw_law_12 : decode c_Lw_law 12 = .ok (.invokespecial 50, 3) := by decide +kernel
theorem d_Lw_law_15 : decode c_Lw_law 15 = .ok (.astore_n 2, 1) := by decide +kernel
theorem d_Lw_law_16 : decode c_Lw_law 16 = .ok (.iconst 1, 1) := by decide +kernel
theorem d_Lw_law_17 : decode c_Lw_law 17 = .ok (.newarray .long, 2) := by decide +kernel
theorem d_Lw_law_19 : decode c_Lw_law 19 = .ok (.astore_n 3, 1) := by decide +kernel
theorem d_Lw_law_20 : decode c_Lw_law 20 = .ok (.iconst 0, 1) := by decide +kernel
theorem d_Lw_law_21 : decode c_Lw_law 21 = .ok (.istore 4, 2) := by decide +kernel
theorem d_Lw_law_23 : decode c_Lw_law 23 = .ok (.iload 4, 2) := by decide +kernel
theorem d_Lw_law_25 : decode c_Lw_law 25 = .ok (.aload_n 0, 1) := by decide +kernel
theorem d_Lw_law_26 : decode c_Lw_law 26 = .ok (.arraylength, 1) := by decide +kernel
theorem d_Lw_law_27 : decode c_Lw_law 27 = .ok (.iconst 4, 1) := by decide +kernel
theorem d_Lw_law_28 : decode c_Lw_law 28 = .ok (.isub, 1) := by decide +kernel
theorem d_Lw_law_29 : decode c_Lw_law 29 = .ok (.if_icmp .gt 711, 3) := by decide +kernel
theorem d_Lw_law_32 : decode c_Lw_law 32 = .ok (.aload_n 0, 1) := by decide +kernel
theorem d_Lw_law_33 : decode c_Lw_law 33 = .ok (.iload 4, 2) := by decide +kernel
theorem d_Lw_law_35 : decode c_Lw_law 35 = .ok (.iaload, 1) := by decide +kernel
theorem d_Lw_law_36 : decode c_Lw_law 36 = .ok (.bipush 15, 2) := by decide +kernel
theorem d_Lw_law_38 : decode c_Lw_law 38 = .ok (.iand, 1) := by decide +kernel
theorem d_Lw_law_39 : decode c_Lw_law 39 = .ok (.tableswitch 695 0 10 #[57, 157, 170, 214, 227, 315, 415, 428, 515, 583, 639], 57) := by decide +kernel
theorem d_Lw_law_96 : decode c_Lw_law 96 = .ok (.aload_n 1, 1) := by decide +kernel
theorem d_Lw_law_97 : decode c_Lw_law 97 = .ok (.aload_n 0, 1) := by decide +kernel
theorem d_Lw_law_98 : decode c_Lw_law 98 = .ok (.iload 4, 2) := by decide +kernel
theorem d_Lw_law_100 : decode c_Lw_law 100 = .ok (.iconst 1, 1) := by decide +kernel
theorem d_Lw_law_101 : decode c_Lw_law 101 = .ok (.iadd, 1) := by decide +kernel
theorem d_Lw_law_102 : decode c_Lw_law 102 = .ok (.iaload, 1) := by decide +kernel
theorem d_Lw_law_103 : decode c_Lw_law 103 = .ok (.i2l, 1) := by decide +kernel
theorem d_Lw_law_104 : decode c_Lw_law 104 = .ok (.bipush 32, 2) := by decide +kernel
theorem d_Lw_law_106 : decode c_Lw_law 106 = .ok (.lshl, 1) := by decide +kernel
theorem d_Lw_law_107 : decode c_Lw_law 107 = .ok (.aload_n 0, 1) := by decide +kernel
theorem d_Lw_law_108 : decode c_Lw_law 108 = .ok (.iload 4, 2) := by decide +kernel
theorem d_Lw_law_110 : decode c_Lw_law 110 = .ok (.iconst 2, 1) := by decide +kernel
theorem d_Lw_law_111 : decode c_Lw_law 111 = .ok (.iadd, 1) := by decide +kernel
theorem d_Lw_law_112 : decode c_Lw_law 112 = .ok (.iaload, 1) := by decide +kernel
theorem d_Lw_law_113 : decode c_Lw_law 113 = .ok (.i2l, 1) := by decide +kernel
theorem d_Lw_law_114 : decode c_Lw_law 114 = .ok (.ldc2_w 51, 3) := by decide +kernel
theorem d_Lw_law_117 : decode c_Lw_law 117 = .ok (.land, 1) := by decide +kernel
theorem d_Lw_law_118 : decode c_Lw_law 118 = .ok (.lor, 1) := by decide +kernel
theorem d_Lw_law_119 : decode c_Lw_law 119 = .ok (.aload_n 0, 1) := by decide +kernel
theorem d_Lw_law_120 : decode c_Lw_law 120 = .ok (.iload 4, 2) := by decide +kernel
theorem d_Lw_law_122 : decode c_Lw_law 122 = .ok (.iconst 3, 1) := by decide +kernel
theorem d_Lw_law_123 : decode c_Lw_law 123 = .ok (.iadd, 1) := by decide +kernel
theorem d_Lw_law_124 : decode c_Lw_law 124 = .ok (.iaload, 1) := by decide +kernel
theorem d_Lw_law_125 : decode c_Lw_law 125 = .ok (.aload_n 3, 1) := by decide +kernel
theorem d_Lw_law_126 : decode c_Lw_law 126 = .ok (.invokestatic 53, 3) := by decide +kernel
theorem d_Lw_law_129 : decode c_Lw_law 129 = .ok (.istore 5, 2) := by decide +kernel
theorem d_Lw_law_131 : decode c_Lw_law 131 = .ok (.aload_n 2, 1) := by decide +kernel
theorem d_Lw_law_132 : decode c_Lw_law 132 = .ok (.aload_n 0, 1) := by decide +kernel
theorem d_Lw_law_133 : decode c_Lw_law 133 = .ok (.iload 4, 2) := by decide +kernel
theorem d_Lw_law_135 : decode c_Lw_law 135 = .ok (.iconst 1, 1) := by decide +kernel
theorem d_Lw_law_136 : decode c_Lw_law 136 = .ok (.iadd, 1) := by decide +kernel
theorem d_Lw_law_137 : decode c_Lw_law 137 = .ok (.iaload, 1) := by decide +kernel
theorem d_Lw_law_138 : decode c_Lw_law 138 = .ok (.i2l, 1) := by decide +kernel
theorem d_Lw_law_139 : decode c_Lw_law 139 = .ok (.bipush 32, 2) := by decide +kernel
theorem d_Lw_law_141 : decode c_Lw_law 141 = .ok (.lshl, 1) := by decide +kernel
theorem d_Lw_law_142 : decode c_Lw_law 142 = .ok (.aload_n 0, 1) := by decide +kernel
theorem d_Lw_law_143 : decode c_Lw_law 143 = .ok (.iload 4, 2) := by decide +kernel
theorem d_Lw_law_145 : decode c_Lw_law 145 = .ok (.iconst 2, 1) := by decide +kernel
theorem d_Lw_law_146 : decode c_Lw_law 146 = .ok (.iadd, 1) := by decide +kernel
theorem d_Lw_law_147 : decode c_Lw_law 147 = .ok (.iaload, 1) := by decide +kernel
theorem d_Lw_law_148 : decode c_Lw_law 148 = .ok (.i2l, 1) := by decide +kernel
theorem d_Lw_law_149 : decode c_Lw_law 149 = .ok (.ldc2_w 51, 3) := by decide +kernel
theorem d_Lw_law_152 : decode c_Lw_law 152 = .ok (.land, 1) := by decide +kernel
theorem d_Lw_law_153 : decode c_Lw_law 153 = .ok (.lor, 1) := by decide +kernel
theorem d_Lw_law_154 : decode c_Lw_law 154 = .ok (.aload_n 0, 1) := by decide +kernel
theorem d_Lw_law_155 : decode c_Lw_law 155 = .ok (.iload 4, 2) := by decide +kernel
theorem d_Lw_law_157 : decode c_Lw_law 157 = .ok (.iconst 3, 1) := by decide +kernel
theorem d_Lw_law_158 : decode c_Lw_law 158 = .ok (.iadd, 1) := by decide +kernel
theorem d_Lw_law_159 : decode c_Lw_law 159 = .ok (.iaload, 1) := by decide +kernel
theorem d_Lw_law_160 : decode c_Lw_law 160 = .ok (.invokevirtual 58, 3) := by decide +kernel
theorem d_Lw_law_163 : decode c_Lw_law 163 = .ok (.istore 6, 2) := by decide +kernel
theorem d_Lw_law_165 : decode c_Lw_law 165 = .ok (.aload_n 2, 1) := by decide +kernel
theorem d_Lw_law_166 : decode c_Lw_law 166 = .ok (.invokevirtual 59, 3) := by decide +kernel
theorem d_Lw_law_169 : decode c_Lw_law 169 = .ok (.iload 5, 2) := by decide +kernel
theorem d_Lw_law_171 : decode c_Lw_law 171 = .ok (.if_icmp .eq 5, 3) := by decide +kernel
theorem d_Lw_law_174 : decode c_Lw_law 174 = .ok (.iconst 0, 1) := by decide +kernel
theorem d_Lw_law_175 : decode c_Lw_law 175 = .ok (.ireturn, 1) := by decide +kernel
theorem d_Lw_law_176 : decode c_Lw_law 176 = .ok (.iload 5, 2) := by decide +kernel
theorem d_Lw_law_178 : decode c_Lw_law 178 = .ok (.ifCond .ne 15, 3) := by decide +kernel
theorem d_Lw_law_181 : decode c_Lw_law 181 = .ok (.aload_n 3, 1) := by decide +kernel
theorem d_Lw_law_182 : decode c_Lw_law 182 = .ok (.iconst 0, 1) := by decide +kernel
theorem d_Lw_law_183 : decode c_Lw_law 183 = .ok (.laload, 1) := by decide +kernel
theorem d_Lw_law_184 : decode c_Lw_law 184 = .ok (.iload 6, 2) := by decide +kernel
theorem d_Lw_law_186 : decode c_Lw_law 186 = .ok (.i2l, 1) := by decide +kernel
theorem d_Lw_law_187 : decode c_Lw_law 187 = .ok (.lcmp, 1) := by decide +kernel
theorem d_Lw_law_188 : decode c_Lw_law 188 = .ok (.ifCond .eq 5, 3) := by decide +kernel
theorem d_Lw_law_191 : decode c_Lw_law 191 = .ok (.iconst 0, 1) := by decide +kernel
theorem d_Lw_law_192 : decode c_Lw_law 192 = .ok (.ireturn, 1) := by decide +kernel
theorem d_Lw_law_193 : decode c_Lw_law 193 = .ok (.goto 541, 3) := by decide +kernel
theorem d_Lw_law_196 : decode c_Lw_law 196 = .ok (.aload_n 1, 1) := by decide +kernel
theorem d_Lw_law_197 : decode c_Lw_law 197 = .ok (.invokevirtual 62, 3) := by decide +kernel
theorem d_Lw_law_200 : decode c_Lw_law 200 = .ok (.aload_n 2, 1) := by decide +kernel
theorem d_Lw_law_201 : decode c_Lw_law 201 = .ok (.invokevirtual 65, 3) := by decide +kernel
theorem d_Lw_law_204 : decode c_Lw_law 204 = .ok (.if_icmp .eq 530, 3) := by decide +kernel
theorem d_Lw_law_207 : decode c_Lw_law 207 = .ok (.iconst 0, 1) := by decide +kernel
theorem d_Lw_law_208 : decode c_Lw_law 208 = .ok (.ireturn, 1) := by decide +kernel
theorem d_Lw_law_209 : decode c_Lw_law 209 = .ok (.aload_n 1, 1) := by decide +kernel
theorem d_Lw_law_210 : decode c_Lw_law 210 = .ok (.aload_n 3, 1) := by decide +kernel
theorem d_Lw_law_211 : decode c_Lw_law 211 = .ok (.invokestatic 66, 3) := by decide +kernel
theorem d_Lw_law_214 : decode c_Lw_law 214 = .ok (.istore 5, 2) := by decide +kernel
theorem d_Lw_law_216 : decode c_Lw_law 216 = .ok (.aload_n 2, 1) := by decide +kernel
theorem d_Lw_law_217 : decode c_Lw_law 217 = .ok (.invokevirtual 69, 3) := by decide +kernel
theorem d_Lw_law_220 : decode c_Lw_law 220 = .ok (.istore 6, 2) := by decide +kernel
theorem d_Lw_law_222 : decode c_Lw_law 222 = .ok (.aload_n 2, 1) := by decide +kernel
theorem d_Lw_law_223 : decode c_Lw_law 223 = .ok (.invokevirtual 59, 3) := by decide +kernel
theorem d_Lw_law_226 : decode c_Lw_law 226 = .ok (.iload 5, 2) := by decide +kernel
theorem d_Lw_law_228 : decode c_Lw_law 228 = .ok (.if_icmp .eq 5, 3) := by decide +kernel
theorem d_Lw_law_231 : decode c_Lw_law 231 = .ok (.iconst 0, 1) := by decide +kernel
theorem d_Lw_law_232 : decode c_Lw_law 232 = .ok (.ireturn, 1) := by decide +kernel
theorem d_Lw_law_233 : decode c_Lw_law 233 = .ok (.iload 5, 2) := by decide +kernel
theorem d_Lw_law_235 : decode c_Lw_law 235 = .ok (.ifCond .ne 15, 3) := by decide +kernel
theorem d_Lw_law_238 : decode c_Lw_law 238 = .ok (.aload_n 3, 1) := by decide +kernel
theorem d_Lw_law_239 : decode c_Lw_law 239 = .ok (.iconst 0, 1) := by decide +kernel
theorem d_Lw_law_240 : decode c_Lw_law 240 = .ok (.laload, 1) := by decide +kernel
theorem d_Lw_law_241 : decode c_Lw_law 241 = .ok (.iload 6, 2) := by decide +kernel
theorem d_Lw_law_243 : decode c_Lw_law 243 = .ok (.i2l, 1) := by decide +kernel
theorem d_Lw_law_244 : decode c_Lw_law 244 = .ok (.lcmp, 1) := by decide +kernel
theorem d_Lw_law_245 : decode c_Lw_law 245 = .ok (.ifCond .eq 5, 3) := by decide +kernel
theorem d_Lw_law_248 : decode c_Lw_law 248 = .ok (.iconst 0, 1) := by decide +kernel
theorem d_Lw_law_249 : decode c_Lw_law 249 = .ok (.ireturn, 1) := by decide +kernel
theorem d_Lw_law_250 : decode c_Lw_law 250 = .ok (.goto 484, 3) := by decide +kernel
theorem d_Lw_law_253 : decode c_Lw_law 253 = .ok (.aload_n 1, 1) := by decide +kernel
theorem d_Lw_law_254 : decode c_Lw_law 254 = .ok (.invokevirtual 70, 3) := by decide +kernel
theorem d_Lw_law_257 : decode c_Lw_law 257 = .ok (.aload_n 2, 1) := by decide +kernel
theorem d_Lw_law_258 : decode c_Lw_law 258 = .ok (.invokevirtual 73, 3) := by decide +kernel
theorem d_Lw_law_261 : decode c_Lw_law 261 = .ok (.if_icmp .eq 473, 3) := by decide +kernel
theorem d_Lw_law_264 : decode c_Lw_law 264 = .ok (.iconst 0, 1) := by decide +kernel
theorem d_Lw_law_265 : decode c_Lw_law 265 = .ok (.ireturn, 1) := by decide +kernel
theorem d_Lw_law_266 : decode c_Lw_law 266 = .ok (.aload_n 1, 1) := by decide +kernel
theorem d_Lw_law_267 : decode c_Lw_law 267 = .ok (.aload_n 0, 1) := by decide +kernel
theorem d_Lw_law_268 : decode c_Lw_law 268 = .ok (.iload 4, 2) := by decide +kernel
theorem d_Lw_law_270 : decode c_Lw_law 270 = .ok (.iconst 1, 1) := by decide +kernel
theorem d_Lw_law_271 : decode c_Lw_law 271 = .ok (.iadd, 1) := by decide +kernel
theorem d_Lw_law_272 : decode c_Lw_law 272 = .ok (.iaload, 1) := by decide +kernel
theorem d_Lw_law_273 : decode c_Lw_law 273 = .ok (.i2l, 1) := by decide +kernel
theorem d_Lw_law_274 : decode c_Lw_law 274 = .ok (.bipush 32, 2) := by decide +kernel
theorem d_Lw_law_276 : decode c_Lw_law 276 = .ok (.lshl, 1) := by decide +kernel
theorem d_Lw_law_277 : decode c_Lw_law 277 = .ok (.aload_n 0, 1) := by decide +kernel
theorem d_Lw_law_278 : decode c_Lw_law 278 = .ok (.iload 4, 2) := by decide +kernel
theorem d_Lw_law_280 : decode c_Lw_law 280 = .ok (.iconst 2, 1) := by decide +kernel
theorem d_Lw_law_281 : decode c_Lw_law 281 = .ok (.iadd, 1) := by decide +kernel
theorem d_Lw_law_282 : decode c_Lw_law 282 = .ok (.iaload, 1) := by decide +kernel
theorem d_Lw_law_283 : decode c_Lw_law 283 = .ok (.i2l, 1) := by decide +kernel
theorem d_Lw_law_284 : decode c_Lw_law 284 = .ok (.ldc2_w 51, 3) := by decide +kernel
theorem d_Lw_law_287 : decode c_Lw_law 287 = .ok (.land, 1) := by decide +kernel
theorem d_Lw_law_288 : decode c_Lw_law 288 = .ok (.lor, 1) := by decide +kernel
theorem d_Lw_law_289 : decode c_Lw_law 289 = .ok (.aload_n 3, 1) := by decide +kernel
theorem d_Lw_law_290 : decode c_Lw_law 290 = .ok (.invokestatic 74, 3) := by decide +kernel
theorem d_Lw_law_293 : decode c_Lw_law 293 = .ok (.istore 5, 2) := by decide +kernel
theorem d_Lw_law_295 : decode c_Lw_law 295 = .ok (.aload_n 2, 1) := by decide +kernel
theorem d_Lw_law_296 : decode c_Lw_law 296 = .ok (.aload_n 0, 1) := by decide +kernel
theorem d_Lw_law_297 : decode c_Lw_law 297 = .ok (.iload 4, 2) := by decide +kernel
theorem d_Lw_law_299 : decode c_Lw_law 299 = .ok (.iconst 1, 1) := by decide +kernel
theorem d_Lw_law_300 : decode c_Lw_law 300 = .ok (.iadd, 1) := by decide +kernel
theorem d_Lw_law_301 : decode c_Lw_law 301 = .ok (.iaload, 1) := by decide +kernel
theorem d_Lw_law_302 : decode c_Lw_law 302 = .ok (.i2l, 1) := by decide +kernel
theorem d_Lw_law_303 : decode c_Lw_law 303 = .ok (.bipush 32, 2) := by decide +kernel
theorem d_Lw_law_305 : decode c_Lw_law 305 = .ok (.lshl, 1) := by decide +kernel
theorem d_Lw_law_306 : decode c_Lw_law 306 = .ok (.aload_n 0, 1) := by decide +kernel
theorem d_Lw_law_307 : decode c_Lw_law 307 = .ok (.iload 4, 2) := by decide +kernel
theorem d_Lw_law_309 : decode c_Lw_law 309 = .ok (.iconst 2, 1) := by decide +kernel
theorem d_Lw_law_310 : decode c_Lw_law 310 = .ok (.iadd, 1) := by decide +kernel
theorem d_Lw_law_311 : decode c_Lw_law 311 = .ok (.iaload, 1) := by decide +kernel
theorem d_Lw_law_312 : decode c_Lw_law 312 = .ok (.i2l, 1) := by decide +kernel
theorem d_Lw_law_313 : decode c_Lw_law 313 = .ok (.ldc2_w 51, 3) := by decide +kernel
theorem d_Lw_law_316 : decode c_Lw_law 316 = .ok (.land, 1) := by decide +kernel
theorem d_Lw_law_317 : decode c_Lw_law 317 = .ok (.lor, 1) := by decide +kernel
theorem d_Lw_law_318 : decode c_Lw_law 318 = .ok (.invokevirtual 77, 3) := by decide +kernel
theorem d_Lw_law_321 : decode c_Lw_law 321 = .ok (.istore 6, 2) := by decide +kernel
theorem d_Lw_law_323 : decode c_Lw_law 323 = .ok (.aload_n 2, 1) := by decide +kernel
theorem d_Lw_law_324 : decode c_Lw_law 324 = .ok (.invokevirtual 59, 3) := by decide +kernel
theorem d_Lw_law_327 : decode c_Lw_law 327 = .ok (.iload 5, 2) := by decide +kernel
theorem d_Lw_law_329 : decode c_Lw_law 329 = .ok (.if_icmp .eq 5, 3) := by decide +kernel
theorem d_Lw_law_332 : decode c_Lw_law 332 = .ok (.iconst 0, 1) := by decide +kernel
theorem d_Lw_law_333 : decode c_Lw_law 333 = .ok (.ireturn, 1) := by decide +kernel
theorem d_Lw_law_334 : decode c_Lw_law 334 = .ok (.iload 5, 2) := by decide +kernel
theorem d_Lw_law_336 : decode c_Lw_law 336 = .ok (.ifCond .ne 15, 3) := by decide +kernel
theorem d_Lw_law_339 : decode c_Lw_law 339 = .ok (.aload_n 3, 1) := by decide +kernel
theorem d_Lw_law_340 : decode c_Lw_law 340 = .ok (.iconst 0, 1) := by decide +kernel
theorem d_Lw_law_341 : decode c_Lw_law 341 = .ok (.laload, 1) := by decide +kernel
theorem d_Lw_law_342 : decode c_Lw_law 342 = .ok (.iload 6, 2) := by decide +kernel
theorem d_Lw_law_344 : decode c_Lw_law 344 = .ok (.i2l, 1) := by decide +kernel
theorem d_Lw_law_345 : decode c_Lw_law 345 = .ok (.lcmp, 1) := by decide +kernel
theorem d_Lw_law_346 : decode c_Lw_law 346 = .ok (.ifCond .eq 5, 3) := by decide +kernel
theorem d_Lw_law_349 : decode c_Lw_law 349 = .ok (.iconst 0, 1) := by decide +kernel
theorem d_Lw_law_350 : decode c_Lw_law 350 = .ok (.ireturn, 1) := by decide +kernel
theorem d_Lw_law_351 : decode c_Lw_law 351 = .ok (.goto 383, 3) := by decide +kernel
theorem d_Lw_law_354 : decode c_Lw_law 354 = .ok (.aload_n 1, 1) := by decide +kernel
theorem d_Lw_law_355 : decode c_Lw_law 355 = .ok (.aload_n 0, 1) := by decide +kernel
theorem d_Lw_law_356 : decode c_Lw_law 356 = .ok (.iload 4, 2) := by decide +kernel
theorem d_Lw_law_358 : decode c_Lw_law 358 = .ok (.iconst 1, 1) := by decide +kernel
theorem d_Lw_law_359 : decode c_Lw_law 359 = .ok (.iadd, 1) := by decide +kernel
theorem d_Lw_law_360 : decode c_Lw_law 360 = .ok (.iaload, 1) := by decide +kernel
theorem d_Lw_law_361 : decode c_Lw_law 361 = .ok (.i2l, 1) := by decide +kernel
theorem d_Lw_law_362 : decode c_Lw_law 362 = .ok (.bipush 32, 2) := by decide +kernel
theorem d_Lw_law_364 : decode c_Lw_law 364 = .ok (.lshl, 1) := by decide +kernel
theorem d_Lw_law_365 : decode c_Lw_law 365 = .ok (.aload_n 0, 1) := by decide +kernel
theorem d_Lw_law_366 : decode c_Lw_law 366 = .ok (.iload 4, 2) := by decide +kernel
theorem d_Lw_law_368 : decode c_Lw_law 368 = .ok (.iconst 2, 1) := by decide +kernel
theorem d_Lw_law_369 : decode c_Lw_law 369 = .ok (.iadd, 1) := by decide +kernel
theorem d_Lw_law_370 : decode c_Lw_law 370 = .ok (.iaload, 1) := by decide +kernel
theorem d_Lw_law_371 : decode c_Lw_law 371 = .ok (.i2l, 1) := by decide +kernel
theorem d_Lw_law_372 : decode c_Lw_law 372 = .ok (.ldc2_w 51, 3) := by decide +kernel
theorem d_Lw_law_375 : decode c_Lw_law 375 = .ok (.land, 1) := by decide +kernel
theorem d_Lw_law_376 : decode c_Lw_law 376 = .ok (.lor, 1) := by decide +kernel
theorem d_Lw_law_377 : decode c_Lw_law 377 = .ok (.aload_n 0, 1) := by decide +kernel
theorem d_Lw_law_378 : decode c_Lw_law 378 = .ok (.iload 4, 2) := by decide +kernel
theorem d_Lw_law_380 : decode c_Lw_law 380 = .ok (.iconst 3, 1) := by decide +kernel
theorem d_Lw_law_381 : decode c_Lw_law 381 = .ok (.iadd, 1) := by decide +kernel
theorem d_Lw_law_382 : decode c_Lw_law 382 = .ok (.iaload, 1) := by decide +kernel
theorem d_Lw_law_383 : decode c_Lw_law 383 = .ok (.aload_n 3, 1) := by decide +kernel
theorem d_Lw_law_384 : decode c_Lw_law 384 = .ok (.invokestatic 78, 3) := by decide +kernel
theorem d_Lw_law_387 : decode c_Lw_law 387 = .ok (.istore 5, 2) := by decide +kernel
theorem d_Lw_law_389 : decode c_Lw_law 389 = .ok (.aload_n 2, 1) := by decide +kernel
theorem d_Lw_law_390 : decode c_Lw_law 390 = .ok (.aload_n 0, 1) := by decide +kernel
theorem d_Lw_law_391 : decode c_Lw_law 391 = .ok (.iload 4, 2) := by decide +kernel
theorem d_Lw_law_393 : decode c_Lw_law 393 = .ok (.iconst 1, 1) := by decide +kernel
theorem d_Lw_law_394 : decode c_Lw_law 394 = .ok (.iadd, 1) := by decide +kernel
theorem d_Lw_law_395 : decode c_Lw_law 395 = .ok (.iaload, 1) := by decide +kernel
theorem d_Lw_law_396 : decode c_Lw_law 396 = .ok (.i2l, 1) := by decide +kernel
theorem d_Lw_law_397 : decode c_Lw_law 397 = .ok (.bipush 32, 2) := by decide +kernel
theorem d_Lw_law_399 : decode c_Lw_law 399 = .ok (.lshl, 1) := by decide +kernel
theorem d_Lw_law_400 : decode c_Lw_law 400 = .ok (.aload_n 0, 1) := by decide +kernel
theorem d_Lw_law_401 : decode c_Lw_law 401 = .ok (.iload 4, 2) := by decide +kernel
theorem d_Lw_law_403 : decode c_Lw_law 403 = .ok (.iconst 2, 1) := by decide +kernel
theorem d_Lw_law_404 : decode c_Lw_law 404 = .ok (.iadd, 1) := by decide +kernel
theorem d_Lw_law_405 : decode c_Lw_law 405 = .ok (.iaload, 1) := by decide +kernel
theorem d_Lw_law_406 : decode c_Lw_law 406 = .ok (.i2l, 1) := by decide +kernel
theorem d_Lw_law_407 : decode c_Lw_law 407 = .ok (.ldc2_w 51, 3) := by decide +kernel
theorem d_Lw_law_410 : decode c_Lw_law 410 = .ok (.land, 1) := by decide +kernel
theorem d_Lw_law_411 : decode c_Lw_law 411 = .ok (.lor, 1) := by decide +kernel
theorem d_Lw_law_412 : decode c_Lw_law 412 = .ok (.aload_n 0, 1) := by decide +kernel
theorem d_Lw_law_413 : decode c_Lw_law 413 = .ok (.iload 4, 2) := by decide +kernel
theorem d_Lw_law_415 : decode c_Lw_law 415 = .ok (.iconst 3, 1) := by decide +kernel
theorem d_Lw_law_416 : decode c_Lw_law 416 = .ok (.iadd, 1) := by decide +kernel
theorem d_Lw_law_417 : decode c_Lw_law 417 = .ok (.iaload, 1) := by decide +kernel
theorem d_Lw_law_418 : decode c_Lw_law 418 = .ok (.invokevirtual 80, 3) := by decide +kernel
theorem d_Lw_law_421 : decode c_Lw_law 421 = .ok (.istore 6, 2) := by decide +kernel
theorem d_Lw_law_423 : decode c_Lw_law 423 = .ok (.aload_n 2, 1) := by decide +kernel
theorem d_Lw_law_424 : decode c_Lw_law 424 = .ok (.invokevirtual 59, 3) := by decide +kernel
theorem d_Lw_law_427 : decode c_Lw_law 427 = .ok (.iload 5, 2) := by decide +kernel
theorem d_Lw_law_429 : decode c_Lw_law 429 = .ok (.if_icmp .eq 5, 3) := by decide +kernel
theorem d_Lw_law_432 : decode c_Lw_law 432 = .ok (.iconst 0, 1) := by decide +kernel
theorem d_Lw_law_433 : decode c_Lw_law 433 = .ok (.ireturn, 1) := by decide +kernel
theorem d_Lw_law_434 : decode c_Lw_law 434 = .ok (.iload 5, 2) := by decide +kernel
theorem d_Lw_law_436 : decode c_Lw_law 436 = .ok (.ifCond .ne 15, 3) := by decide +kernel
theorem d_Lw_law_439 : decode c_Lw_law 439 = .ok (.aload_n 3, 1) := by decide +kernel
theorem d_Lw_law_440 : decode c_Lw_law 440 = .ok (.iconst 0, 1) := by decide +kernel
theorem d_Lw_law_441 : decode c_Lw_law 441 = .ok (.laload, 1) := by decide +kernel
theorem d_Lw_law_442 : decode c_Lw_law 442 = .ok (.iload 6, 2) := by decide +kernel
theorem d_Lw_law_444 : decode c_Lw_law 444 = .ok (.i2l, 1) := by decide +kernel
theorem d_Lw_law_445 : decode c_Lw_law 445 = .ok (.lcmp, 1) := by decide +kernel
theorem d_Lw_law_446 : decode c_Lw_law 446 = .ok (.ifCond .eq 5, 3) := by decide +kernel
theorem d_Lw_law_449 : decode c_Lw_law 449 = .ok (.iconst 0, 1) := by decide +kernel
theorem d_Lw_law_450 : decode c_Lw_law 450 = .ok (.ireturn, 1) := by decide +kernel
theorem d_Lw_law_451 : decode c_Lw_law 451 = .ok (.goto 283, 3) := by decide +kernel
theorem d_Lw_law_454 : decode c_Lw_law 454 = .ok (.aload_n 1, 1) := by decide +kernel
theorem d_Lw_law_455 : decode c_Lw_law 455 = .ok (.invokevirtual 81, 3) := by decide +kernel
theorem d_Lw_law_458 : decode c_Lw_law 458 = .ok (.aload_n 2, 1) := by decide +kernel
theorem d_Lw_law_459 : decode c_Lw_law 459 = .ok (.invokevirtual 84, 3) := by decide +kernel
theorem d_Lw_law_462 : decode c_Lw_law 462 = .ok (.if_icmp .eq 272, 3) := by decide +kernel
theorem d_Lw_law_465 : decode c_Lw_law 465 = .ok (.iconst 0, 1) := by decide +kernel
theorem d_Lw_law_466 : decode c_Lw_law 466 = .ok (.ireturn, 1) := by decide +kernel
theorem d_Lw_law_467 : decode c_Lw_law 467 = .ok (.aload_n 1, 1) := by decide +kernel
theorem d_Lw_law_468 : decode c_Lw_law 468 = .ok (.aload_n 0, 1) := by decide +kernel
theorem d_Lw_law_469 : decode c_Lw_law 469 = .ok (.iload 4, 2) := by decide +kernel
theorem d_Lw_law_471 : decode c_Lw_law 471 = .ok (.iconst 1, 1) := by decide +kernel
theorem d_Lw_law_472 : decode c_Lw_law 472 = .ok (.iadd, 1) := by decide +kernel
theorem d_Lw_law_473 : decode c_Lw_law 473 = .ok (.iaload, 1) := by decide +kernel
theorem d_Lw_law_474 : decode c_Lw_law 474 = .ok (.aload_n 0, 1) := by decide +kernel
theorem d_Lw_law_475 : decode c_Lw_law 475 = .ok (.iload 4, 2) := by decide +kernel
theorem d_Lw_law_477 : decode c_Lw_law 477 = .ok (.iconst 2, 1) := by decide +kernel
theorem d_Lw_law_478 : decode c_Lw_law 478 = .ok (.iadd, 1) := by decide +kernel
theorem d_Lw_law_479 : decode c_Lw_law 479 = .ok (.iaload, 1) := by decide +kernel
theorem d_Lw_law_480 : decode c_Lw_law 480 = .ok (.aload_n 0, 1) := by decide +kernel
theorem d_Lw_law_481 : decode c_Lw_law 481 = .ok (.iload 4, 2) := by decide +kernel
theorem d_Lw_law_483 : decode c_Lw_law 483 = .ok (.iconst 3, 1) := by decide +kernel
theorem d_Lw_law_484 : decode c_Lw_law 484 = .ok (.iadd, 1) := by decide +kernel
theorem d_Lw_law_485 : decode c_Lw_law 485 = .ok (.iaload, 1) := by decide +kernel
theorem d_Lw_law_486 : decode c_Lw_law 486 = .ok (.aload_n 3, 1) := by decide +kernel
theorem d_Lw_law_487 : decode c_Lw_law 487 = .ok (.invokestatic 85, 3) := by decide +kernel
theorem d_Lw_law_490 : decode c_Lw_law 490 = .ok (.istore 5, 2) := by decide +kernel
theorem d_Lw_law_492 : decode c_Lw_law 492 = .ok (.aload_n 2, 1) := by decide +kernel
theorem d_Lw_law_493 : decode c_Lw_law 493 = .ok (.aload_n 0, 1) := by decide +kernel
theorem d_Lw_law_494 : decode c_Lw_law 494 = .ok (.iload 4, 2) := by decide +kernel
theorem d_Lw_law_496 : decode c_Lw_law 496 = .ok (.iconst 1, 1) := by decide +kernel
theorem d_Lw_law_497 : decode c_Lw_law 497 = .ok (.iadd, 1) := by decide +kernel
theorem d_Lw_law_498 : decode c_Lw_law 498 = .ok (.iaload, 1) := by decide +kernel
theorem d_Lw_law_499 : decode c_Lw_law 499 = .ok (.aload_n 0, 1) := by decide +kernel
theorem d_Lw_law_500 : decode c_Lw_law 500 = .ok (.iload 4, 2) := by decide +kernel
theorem d_Lw_law_502 : decode c_Lw_law 502 = .ok (.iconst 2, 1) := by decide +kernel
theorem d_Lw_law_503 : decode c_Lw_law 503 = .ok (.iadd, 1) := by decide +kernel
theorem d_Lw_law_504 : decode c_Lw_law 504 = .ok (.iaload, 1) := by decide +kernel
theorem d_Lw_law_505 : decode c_Lw_law 505 = .ok (.aload_n 0, 1) := by decide +kernel
theorem d_Lw_law_506 : decode c_Lw_law 506 = .ok (.iload 4, 2) := by decide +kernel
theorem d_Lw_law_508 : decode c_Lw_law 508 = .ok (.iconst 3, 1) := by decide +kernel
theorem d_Lw_law_509 : decode c_Lw_law 509 = .ok (.iadd, 1) := by decide +kernel
theorem d_Lw_law_510 : decode c_Lw_law 510 = .ok (.iaload, 1) := by decide +kernel
theorem d_Lw_law_511 : decode c_Lw_law 511 = .ok (.invokevirtual 88, 3) := by decide +kernel
theorem d_Lw_law_514 : decode c_Lw_law 514 = .ok (.istore 6, 2) := by decide +kernel
theorem d_Lw_law_516 : decode c_Lw_law 516 = .ok (.aload_n 2, 1) := by decide +kernel
theorem d_Lw_law_517 : decode c_Lw_law 517 = .ok (.invokevirtual 59, 3) := by decide +kernel
theorem d_Lw_law_520 : decode c_Lw_law 520 = .ok (.iload 5, 2) := by decide +kernel
theorem d_Lw_law_522 : decode c_Lw_law 522 = .ok (.if_icmp .eq 5, 3) := by decide +kernel
theorem d_Lw_law_525 : decode c_Lw_law 525 = .ok (.iconst 0, 1) := by decide +kernel
theorem d_Lw_law_526 : decode c_Lw_law 526 = .ok (.ireturn, 1) := by decide +kernel
theorem d_Lw_law_527 : decode c_Lw_law 527 = .ok (.iload 5, 2) := by decide +kernel
theorem d_Lw_law_529 : decode c_Lw_law 529 = .ok (.ifCond .ne 22, 3) := by decide +kernel
theorem d_Lw_law_532 : decode c_Lw_law 532 = .ok (.aload_n 3, 1) := by decide +kernel
theorem d_Lw_law_533 : decode c_Lw_law 533 = .ok (.iconst 0, 1) := by decide +kernel
theorem d_Lw_law_534 : decode c_Lw_law 534 = .ok (.laload, 1) := by decide +kernel
theorem d_Lw_law_535 : decode c_Lw_law 535 = .ok (.iload 6, 2) := by decide +kernel
theorem d_Lw_law_537 : decode c_Lw_law 537 = .ok (.ifCond .eq 7, 3) := by decide +kernel
theorem d_Lw_law_540 : decode c_Lw_law 540 = .ok (.lconst 1, 1) := by decide +kernel
theorem d_Lw_law_541 : decode c_Lw_law 541 = .ok (.goto 4, 3) := by decide +kernel
theorem d_Lw_law_544 : decode c_Lw_law 544 = .ok (.lconst 0, 1) := by decide +kernel
theorem d_Lw_law_545 : decode c_Lw_law 545 = .ok (.lcmp, 1) := by decide +kernel
theorem d_Lw_law_546 : decode c_Lw_law 546 = .ok (.ifCond .eq 5, 3) := by decide +kernel
theorem d_Lw_law_549 : decode c_Lw_law 549 = .ok (.iconst 0, 1) := by decide +kernel
theorem d_Lw_law_550 : decode c_Lw_law 550 = .ok (.ireturn, 1) := by decide +kernel
theorem d_Lw_law_551 : decode c_Lw_law 551 = .ok (.goto 183, 3) := by decide +kernel
theorem d_Lw_law_554 : decode c_Lw_law 554 = .ok (.aload_n 1, 1) := by decide +kernel
theorem d_Lw_law_555 : decode c_Lw_law 555 = .ok (.aload_n 0, 1) := by decide +kernel
theorem d_Lw_law_556 : decode c_Lw_law 556 = .ok (.iload 4, 2) := by decide +kernel
theorem d_Lw_law_558 : decode c_Lw_law 558 = .ok (.iconst 1, 1) := by decide +kernel
theorem d_Lw_law_559 : decode c_Lw_law 559 = .ok (.iadd, 1) := by decide +kernel
theorem d_Lw_law_560 : decode c_Lw_law 560 = .ok (.iaload, 1) := by decide +kernel
theorem d_Lw_law_561 : decode c_Lw_law 561 = .ok (.aload_n 0, 1) := by decide +kernel
theorem d_Lw_law_562 : decode c_Lw_law 562 = .ok (.iload 4, 2) := by decide +kernel
theorem d_Lw_law_564 : decode c_Lw_law 564 = .ok (.iconst 2, 1) := by decide +kernel
theorem d_Lw_law_565 : decode c_Lw_law 565 = .ok (.iadd, 1) := by decide +kernel
theorem d_Lw_law_566 : decode c_Lw_law 566 = .ok (.iaload, 1) := by decide +kernel
theorem d_Lw_law_567 : decode c_Lw_law 567 = .ok (.aload_n 3, 1) := by decide +kernel
theorem d_Lw_law_568 : decode c_Lw_law 568 = .ok (.invokestatic 89, 3) := by decide +kernel
theorem d_Lw_law_571 : decode c_Lw_law 571 = .ok (.istore 5, 2) := by decide +kernel
theorem d_Lw_law_573 : decode c_Lw_law 573 = .ok (.aload_n 2, 1) := by decide +kernel
theorem d_Lw_law_574 : decode c_Lw_law 574 = .ok (.aload_n 0, 1) := by decide +kernel
theorem d_Lw_law_575 : decode c_Lw_law 575 = .ok (.iload 4, 2) := by decide +kernel
theorem d_Lw_law_577 : decode c_Lw_law 577 = .ok (.iconst 1, 1) := by decide +kernel
theorem d_Lw_law_578 : decode c_Lw_law 578 = .ok (.iadd, 1) := by decide +kernel
theorem d_Lw_law_579 : decode c_Lw_law 579 = .ok (.iaload, 1) := by decide +kernel
theorem d_Lw_law_580 : decode c_Lw_law 580 = .ok (.aload_n 0, 1) := by decide +kernel
theorem d_Lw_law_581 : decode c_Lw_law 581 = .ok (.iload 4, 2) := by decide +kernel
theorem d_Lw_law_583 : decode c_Lw_law 583 = .ok (.iconst 2, 1) := by decide +kernel
theorem d_Lw_law_584 : decode c_Lw_law 584 = .ok (.iadd, 1) := by decide +kernel
theorem d_Lw_law_585 : decode c_Lw_law 585 = .ok (.iaload, 1) := by decide +kernel
theorem d_Lw_law_586 : decode c_Lw_law 586 = .ok (.invokevirtual 92, 3) := by decide +kernel
theorem d_Lw_law_589 : decode c_Lw_law 589 = .ok (.istore 6, 2) := by decide +kernel
theorem d_Lw_law_591 : decode c_Lw_law 591 = .ok (.aload_n 2, 1) := by decide +kernel
theorem d_Lw_law_592 : decode c_Lw_law 592 = .ok (.invokevirtual 59, 3) := by decide +kernel
theorem d_Lw_law_595 : decode c_Lw_law 595 = .ok (.iload 5, 2) := by decide +kernel
theorem d_Lw_law_597 : decode c_Lw_law 597 = .ok (.if_icmp .eq 5, 3) := by decide +kernel
theorem d_Lw_law_600 : decode c_Lw_law 600 = .ok (.iconst 0, 1) := by decide +kernel
theorem d_Lw_law_601 : decode c_Lw_law 601 = .ok (.ireturn, 1) := by decide +kernel
theorem d_Lw_law_602 : decode c_Lw_law 602 = .ok (.iload 5, 2) := by decide +kernel
theorem d_Lw_law_604 : decode c_Lw_law 604 = .ok (.ifCond .ne 15, 3) := by decide +kernel
theorem d_Lw_law_607 : decode c_Lw_law 607 = .ok (.aload_n 3, 1) := by decide +kernel
theorem d_Lw_law_608 : decode c_Lw_law 608 = .ok (.iconst 0, 1) := by decide +kernel
theorem d_Lw_law_609 : decode c_Lw_law 609 = .ok (.laload, 1) := by decide +kernel
theorem d_Lw_law_610 : decode c_Lw_law 610 = .ok (.iload 6, 2) := by decide +kernel
theorem d_Lw_law_612 : decode c_Lw_law 612 = .ok (.i2l, 1) := by decide +kernel
theorem d_Lw_law_613 : decode c_Lw_law 613 = .ok (.lcmp, 1) := by decide +kernel
theorem d_Lw_law_614 : decode c_Lw_law 614 = .ok (.ifCond .eq 5, 3) := by decide +kernel
theorem d_Lw_law_617 : decode c_Lw_law 617 = .ok (.iconst 0, 1) := by decide +kernel
theorem d_Lw_law_618 : decode c_Lw_law 618 = .ok (.ireturn, 1) := by decide +kernel
theorem d_Lw_law_619 : decode c_Lw_law 619 = .ok (.goto 115, 3) := by decide +kernel
theorem d_Lw_law_622 : decode c_Lw_law 622 = .ok (.aload_n 1, 1) := by decide +kernel
theorem d_Lw_law_623 : decode c_Lw_law 623 = .ok (.aload_n 0, 1) := by decide +kernel
theorem d_Lw_law_624 : decode c_Lw_law 624 = .ok (.iload 4, 2) := by decide +kernel
theorem d_Lw_law_626 : decode c_Lw_law 626 = .ok (.iconst 1, 1) := by decide +kernel
theorem d_Lw_law_627 : decode c_Lw_law 627 = .ok (.iadd, 1) := by decide +kernel
theorem d_Lw_law_628 : decode c_Lw_law 628 = .ok (.iaload, 1) := by decide +kernel
theorem d_Lw_law_629 : decode c_Lw_law 629 = .ok (.aload_n 3, 1) := by decide +kernel
theorem d_Lw_law_630 : decode c_Lw_law 630 = .ok (.invokestatic 93, 3) := by decide +kernel
theorem d_Lw_law_633 : decode c_Lw_law 633 = .ok (.istore 5, 2) := by decide +kernel
theorem d_Lw_law_635 : decode c_Lw_law 635 = .ok (.aload_n 2, 1) := by decide +kernel
theorem d_Lw_law_636 : decode c_Lw_law 636 = .ok (.aload_n 0, 1) := by decide +kernel
theorem d_Lw_law_637 : decode c_Lw_law 637 = .ok (.iload 4, 2) := by decide +kernel
theorem d_Lw_law_639 : decode c_Lw_law 639 = .ok (.iconst 1, 1) := by decide +kernel
theorem d_Lw_law_640 : decode c_Lw_law 640 = .ok (.iadd, 1) := by decide +kernel
theorem d_Lw_law_641 : decode c_Lw_law 641 = .ok (.iaload, 1) := by decide +kernel
theorem d_Lw_law_642 : decode c_Lw_law 642 = .ok (.invokevirtual 96, 3) := by decide +kernel
theorem d_Lw_law_645 : decode c_Lw_law 645 = .ok (.istore 6, 2) := by decide +kernel
theorem d_Lw_law_647 : decode c_Lw_law 647 = .ok (.aload_n 2, 1) := by decide +kernel
theorem d_Lw_law_648 : decode c_Lw_law 648 = .ok (.invokevirtual 59, 3) := by decide +kernel
theorem d_Lw_law_651 : decode c_Lw_law 651 = .ok (.iload 5, 2) := by decide +kernel
theorem d_Lw_law_653 : decode c_Lw_law 653 = .ok (.if_icmp .eq 5, 3) := by decide +kernel
theorem d_Lw_law_656 : decode c_Lw_law 656 = .ok (.iconst 0, 1) := by decide +kernel
theorem d_Lw_law_657 : decode c_Lw_law 657 = .ok (.ireturn, 1) := by decide +kernel
theorem d_Lw_law_658 : decode c_Lw_law 658 = .ok (.iload 5, 2) := by decide +kernel
theorem d_Lw_law_660 : decode c_Lw_law 660 = .ok (.ifCond .ne 15, 3) := by decide +kernel
theorem d_Lw_law_663 : decode c_Lw_law 663 = .ok (.aload_n 3, 1) := by decide +kernel
theorem d_Lw_law_664 : decode c_Lw_law 664 = .ok (.iconst 0, 1) := by decide +kernel
theorem d_Lw_law_665 : decode c_Lw_law 665 = .ok (.laload, 1) := by decide +kernel
theorem d_Lw_law_666 : decode c_Lw_law 666 = .ok (.iload 6, 2) := by decide +kernel
theorem d_Lw_law_668 : decode c_Lw_law 668 = .ok (.i2l, 1) := by decide +kernel
theorem d_Lw_law_669 : decode c_Lw_law 669 = .ok (.lcmp, 1) := by decide +kernel
theorem d_Lw_law_670 : decode c_Lw_law 670 = .ok (.ifCond .eq 5, 3) := by decide +kernel
theorem d_Lw_law_673 : decode c_Lw_law 673 = .ok (.iconst 0, 1) := by decide +kernel
theorem d_Lw_law_674 : decode c_Lw_law 674 = .ok (.ireturn, 1) := by decide +kernel
theorem d_Lw_law_675 : decode c_Lw_law 675 = .ok (.goto 59, 3) := by decide +kernel
theorem d_Lw_law_678 : decode c_Lw_law 678 = .ok (.aload_n 1, 1) := by decide +kernel
theorem d_Lw_law_679 : decode c_Lw_law 679 = .ok (.aload_n 0, 1) := by decide +kernel
theorem d_Lw_law_680 : decode c_Lw_law 680 = .ok (.iload 4, 2) := by decide +kernel
theorem d_Lw_law_682 : decode c_Lw_law 682 = .ok (.iconst 1, 1) := by decide +kernel
theorem d_Lw_law_683 : decode c_Lw_law 683 = .ok (.iadd, 1) := by decide +kernel
theorem d_Lw_law_684 : decode c_Lw_law 684 = .ok (.iaload, 1) := by decide +kernel
theorem d_Lw_law_685 : decode c_Lw_law 685 = .ok (.aload_n 3, 1) := by decide +kernel
theorem d_Lw_law_686 : decode c_Lw_law 686 = .ok (.invokestatic 97, 3) := by decide +kernel
theorem d_Lw_law_689 : decode c_Lw_law 689 = .ok (.istore 5, 2) := by decide +kernel
theorem d_Lw_law_691 : decode c_Lw_law 691 = .ok (.aload_n 2, 1) := by decide +kernel
theorem d_Lw_law_692 : decode c_Lw_law 692 = .ok (.aload_n 0, 1) := by decide +kernel
theorem d_Lw_law_693 : decode c_Lw_law 693 = .ok (.iload 4, 2) := by decide +kernel
theorem d_Lw_law_695 : decode c_Lw_law 695 = .ok (.iconst 1, 1) := by decide +kernel
theorem d_Lw_law_696 : decode c_Lw_law 696 = .ok (.iadd, 1) := by decide +kernel
theorem d_Lw_law_697 : decode c_Lw_law 697 = .ok (.iaload, 1) := by decide +kernel
theorem d_Lw_law_698 : decode c_Lw_law 698 = .ok (.invokevirtual 99, 3) := by decide +kernel
theorem d_Lw_law_701 : decode c_Lw_law 701 = .ok (.istore 6, 2) := by decide +kernel
theorem d_Lw_law_703 : decode c_Lw_law 703 = .ok (.aload_n 2, 1) := by decide +kernel
theorem d_Lw_law_704 : decode c_Lw_law 704 = .ok (.invokevirtual 59, 3) := by decide +kernel
theorem d_Lw_law_707 : decode c_Lw_law 707 = .ok (.iload 5, 2) := by decide +kernel
theorem d_Lw_law_709 : decode c_Lw_law 709 = .ok (.if_icmp .eq 5, 3) := by decide +kernel
theorem d_Lw_law_712 : decode c_Lw_law 712 = .ok (.iconst 0, 1) := by decide +kernel
theorem d_Lw_law_713 : decode c_Lw_law 713 = .ok (.ireturn, 1) := by decide +kernel
theorem d_Lw_law_714 : decode c_Lw_law 714 = .ok (.iload 5, 2) := by decide +kernel
theorem d_Lw_law_716 : decode c_Lw_law 716 = .ok (.ifCond .ne 15, 3) := by decide +kernel
theorem d_Lw_law_719 : decode c_Lw_law 719 = .ok (.aload_n 3, 1) := by decide +kernel
theorem d_Lw_law_720 : decode c_Lw_law 720 = .ok (.iconst 0, 1) := by decide +kernel
theorem d_Lw_law_721 : decode c_Lw_law 721 = .ok (.laload, 1) := by decide +kernel
theorem d_Lw_law_722 : decode c_Lw_law 722 = .ok (.iload 6, 2) := by decide +kernel
theorem d_Lw_law_724 : decode c_Lw_law 724 = .ok (.i2l, 1) := by decide +kernel
theorem d_Lw_law_725 : decode c_Lw_law 725 = .ok (.lcmp, 1) := by decide +kernel
theorem d_Lw_law_726 : decode c_Lw_law 726 = .ok (.ifCond .eq 5, 3) := by decide +kernel
theorem d_Lw_law_729 : decode c_Lw_law 729 = .ok (.iconst 0, 1) := by decide +kernel
theorem d_Lw_law_730 : decode c_Lw_law 730 = .ok (.ireturn, 1) := by decide +kernel
theorem d_Lw_law_731 : decode c_Lw_law 731 = .ok (.goto 3, 3) := by decide +kernel
theorem d_Lw_law_734 : decode c_Lw_law 734 = .ok (.iinc 4 4, 3) := by decide +kernel
theorem d_Lw_law_737 : decode c_Lw_law 737 = .ok (.goto (-714), 3) := by decide +kernel
theorem d_Lw_law_740 : decode c_Lw_law 740 = .ok (.iconst 1, 1) := by decide +kernel
theorem d_Lw_law_741 : decode c_Lw_law 741 = .ok (.ireturn, 1) := by decide +kernel
theorem NW.of {s : State} {args : Array Value} (h : ∀ w ∈ lw_tbl, w.before args s = true) : NW s := by
  intro w hw hn
  have h1 := h w hw
  cases w
  case fieldLinkNest => exact va_tabs rfl rfl h1
  case methodLinkNest => exact va_tabs rfl rfl h1
  case declares => exact va_tabs rfl rfl h1
  case castable => exact va_tabs rfl rfl h1
  case arrayOver ty =>
    cases ty
    case object C => exact h1
    all_goals cases hn
  all_goals cases hn
theorem arr_of {s : State} {args : Array Value} {ty : FieldType} (h : (Cond.arrayClass ty).before args s = true) : ∃ c : ClassId, ArrOfT s c ty ∧ s.vm.findClass ("[" ++ ty.toString) = some c := by
  obtain ⟨c, k, comp, h1, h2, h3⟩ := Cond.arrayClass_spec h
  exact ⟨c, fun n z => ⟨fun k h => (by cases h), k, h2, comp, h3⟩, h1⟩
theorem arr_ofO {s : State} {args : Array Value} {C : String} (h : (Cond.arrayOver (.object C)).before args s = true) : ∃ c : ClassId, ArrOfT s c (.object C) ∧ va_RA s c (.object C) := by
  obtain ⟨comp, c, k, h1, h2, h3, h4, h5⟩ := Cond.arrayOver_spec h
  exact ⟨c, fun n z => ⟨fun k h => (by cases h), k, h3, comp, h4⟩, k, comp, h3, h4, h1, h5⟩
set_option maxHeartbeats 4000000 in
set_option maxRecDepth 100000 in
theorem EV_start {s : State} {b : Nat} (hts : ∀ w ∈ lw_tbl, w.before #[Value.ref b] s = true) (hgv : (Jvm.Cond.and given_1 narrow_1).before #[Value.ref b] s = true) : ∃ (D : va_G) (cy : Nat → ClassId), EV D cy s.heap.size s := by
  obtain ⟨a0, b0, k0⟩ := u_known (n := 2) hts inCh (hts _ kw_26)
  obtain ⟨a1, b1, k1⟩ := u_known (n := 3) hts inCt (hts _ kw_159)
  obtain ⟨a2, b2, k2⟩ := u_known (n := 7) hts inEl (hts _ kw_69)
  obtain ⟨a3, b3, k3⟩ := u_known (n := 6) hts inGr (hts _ kw_43)
  obtain ⟨a4, b4, k4⟩ := u_known (n := 4) hts inRd (hts _ kw_139)
  obtain ⟨a5, b5, k5⟩ := u_known (n := 3) hts inRu (hts _ kw_50)
  obtain ⟨a6, b6, k6⟩ := u_known (n := 5) hts inAb (hts _ kw_18)
  obtain ⟨a7, b7, k7⟩ := u_known (n := 29) hts inMo (hts _ kw_651)
  obtain ⟨c0, x0, z0⟩ := arr_of (hts _ kw_41)
  obtain ⟨c1, x1, z1⟩ := arr_of (hts _ kw_110)
  obtain ⟨c2, x2, z2⟩ := arr_of (hts _ kw_744)
  obtain ⟨c3, x3, z3⟩ := arr_of (hts _ kw_745)
  obtain ⟨c4, x4, z4⟩ := arr_ofO (hts _ kw_68)
  obtain ⟨c5, x5, z5⟩ := arr_ofO (hts _ kw_49)
  have fl := flat_of_before _ hgv
  refine ⟨((fun i => match i with | 0 => a0 | 1 => a1 | 2 => a2 | 3 => a3 | 4 => a4 | 5 => a5 | 6 => a6 | _ => a7), (fun i => match i with | 0 => b0 | 1 => b1 | 2 => b2 | 3 => b3 | 4 => b4 | 5 => b5 | 6 => b6 | _ => b7)), (fun i => match i with | 0 => c0 | 1 => c1 | 2 => c2 | 3 => c3 | 4 => c4 | _ => c5), ⟨?_, ?_⟩, NW.of hts, vx_Zqof (hts _ kw_256) (hts _ kw_9) (fl _ (by decide +kernel)) (fun a h1 h2 => Nat.lt_irrefl _ (Nat.lt_of_lt_of_le h1 h2)), vx_Zqof (hts _ kw_258) (hts _ kw_9) (fl _ (by decide +kernel)) (fun a h1 h2 => Nat.lt_irrefl _ (Nat.lt_of_lt_of_le h1 h2)), Nat.le_refl _, va_Nc.of (fl _ (by decide +kernel)), va_Nc.of (fl _ (by decide +kernel))⟩
  · intro c q hq
    match c, hq with
    | 0, hq => cases hq; exact k0
    | 1, hq => cases hq; exact k1
    | 2, hq => cases hq; exact k2
    | 3, hq => cases hq; exact k3
    | 4, hq => cases hq; exact k4
    | 5, hq => cases hq; exact k5
    | 6, hq => cases hq; exact k6
    | 7, hq => cases hq; exact k7
    | c + 8, hq => exact absurd hq (by simp)
  · intro c q hq
    match c, hq with
    | 0, hq => cases hq; exact ⟨x0, z0⟩
    | 1, hq => cases hq; exact ⟨x1, z1⟩
    | 2, hq => cases hq; exact ⟨x2, z2⟩
    | 3, hq => cases hq; exact ⟨x3, z3⟩
    | 4, hq => cases hq; exact ⟨x4, z4⟩
    | 5, hq => cases hq; exact ⟨x5, z5⟩
    | c + 6, hq => exact absurd hq (by simp)
theorem allB_congr {f g : Nat → Bool} : ∀ {n : Nat}, (∀ i, i < n → f i = g i) → allB f n = allB g n
  | 0, _ => rfl
  | n + 1, h => by
    unfold allB
    rw [allB_congr (n := n) (fun i hi => h i (Nat.lt_succ_of_lt hi)), h n (Nat.lt_succ_self n)]
theorem allB_bm {ok : Int32 → Bool} {x : Int64} {M : Nat} (h : M ≤ 8) : allB (fun i => ok (bm8 x (nI i))) M = allB (fun i => ok (by8 x (nI i))) M := allB_congr (fun i hi => by rw [bm_by x (by omega)])
def HC (ok : Int32 → Bool) (cap : Nat) (x : Int64) (k rC : Int32) (o : Int64) : Prop :=
  (rC = 0 ∧ ∃ N : Nat, k = nI N ∧ 1 ≤ N ∧ N ≤ 8 ∧ allB (fun i => ok (by8 x (nI i))) N = true ∧ 0 + N ≤ cap ∧ o = (nI (0 + N)).toInt64) ∨ (rC = 1 ∧ (k < 1 ∨ 8 < k ∨ ∃ N : Nat, k = nI N ∧ 1 ≤ N ∧ N ≤ 8 ∧ allB (fun i => ok (by8 x (nI i))) N = false)) ∨ (rC = 2 ∧ ∃ N : Nat, k = nI N ∧ 1 ≤ N ∧ N ≤ 8 ∧ allB (fun i => ok (by8 x (nI i))) N = true ∧ cap < 0 + N)
def HM (ok : Int32 → Bool) (cap : Nat) (x : Int64) (k r t : Int32) : Prop :=
  ((k < 1 ∨ 8 < k) ∧ r = 0 ∧ t = 1) ∨ ∃ M : Nat, k = nI M ∧ 1 ≤ M ∧ M ≤ 8 ∧ ((allB (fun i => ok (bm8 x (nI i))) M = false ∧ r = 0 ∧ t = 1) ∨ (allB (fun i => ok (bm8 x (nI i))) M = true ∧ cap < 0 + M ∧ r = 0 ∧ t = 2) ∨ (allB (fun i => ok (bm8 x (nI i))) M = true ∧ 0 + M ≤ cap ∧ r = nI (0 + M) ∧ t = 0))
theorem out18 {k : Int32} {N : Nat} (hk : k = nI N) (h1 : 1 ≤ N) (h8 : N ≤ 8) : ¬ (k < 1 ∨ 8 < k) := by
  subst hk
  rintro (h | h)
  · exact nI_nlt (a := N) (b := 1) h1 (by omega) h
  · exact nI_nlt (a := 8) (b := N) h8 (by decide) h
theorem agree {ok : Int32 → Bool} {cap : Nat} {x : Int64} {k rC r t : Int32} {o : Int64} (hc : HC ok cap x k rC o) (hm : HM ok cap x k r t) : t = rC ∧ (rC = 0 → o = r.toInt64) := by
  rcases hm with ⟨hk, rfl, rfl⟩ | ⟨M, hM, hM1, hM8, hm⟩
  · rcases hc with ⟨rfl, N, hN, hN1, hN8, -⟩ | ⟨rfl, -⟩ | ⟨rfl, N, hN, hN1, hN8, -⟩
    · exact absurd hk (out18 hN hN1 hN8)
    · exact ⟨rfl, fun h => absurd h (by decide)⟩
    · exact absurd hk (out18 hN hN1 hN8)
  · rw [allB_bm hM8] at hm
    have same : ∀ N : Nat, k = nI N → N ≤ 8 → N = M := fun N hN hN8 => (nI_eq (by omega) (by omega)).mp (hN.symm.trans hM)
    rcases hc with ⟨rfl, N, hN, hN1, hN8, ha, hr, ho⟩ | ⟨rfl, hk⟩ | ⟨rfl, N, hN, hN1, hN8, ha, hr⟩
    · have e := same N hN hN8
      subst e
      rcases hm with ⟨h1, -⟩ | ⟨-, h2, -⟩ | ⟨-, -, h3, h4⟩
      · rw [ha] at h1; cases h1
      · omega
      · exact ⟨h4, fun _ => by rw [ho, h3]⟩
    · have hf : allB (fun i => ok (by8 x (nI i))) M = false := by
        rcases hk with h | h | ⟨N, hN, hN1, hN8, hf⟩
        · exact absurd (Or.inl h) (out18 hM hM1 hM8)
        · exact absurd (Or.inr h) (out18 hM hM1 hM8)
        · have e := same N hN hN8
          subst e
          exact hf
      rcases hm with ⟨-, -, h3⟩ | ⟨h1, -⟩ | ⟨h1, -⟩
      · exact ⟨h3, fun h => absurd h (by decide)⟩
      · rw [hf] at h1; cases h1
      · rw [hf] at h1; cases h1
    · have e := same N hN hN8
      subst e
      rcases hm with ⟨h1, -⟩ | ⟨-, -, -, h4⟩ | ⟨-, h2, -⟩
      · rw [ha] at h1; cases h1
      · exact ⟨h4, fun h => absurd h (by decide)⟩
      · omega
theorem cnt_out {k : Int32} (h0 : k ≠ 0) (h1 : k ≠ 1) (h2 : k ≠ 2) : k < 0 ∨ 2 < k := by
  by_cases h : k < 0
  · exact Or.inl h
  · obtain ⟨j, hj, rfl⟩ := nI_of h
    refine Or.inr (nI_lt (a := 2) ?_ hj)
    have g0 : j ≠ 0 := fun e => h0 (by rw [e]; rfl)
    have g1 : j ≠ 1 := fun e => h1 (by rw [e]; rfl)
    have g2 : j ≠ 2 := fun e => h2 (by rw [e]; rfl)
    omega
theorem cnt_agree {k rC r t : Int32} {o : Int64} (hc : (rC = 0 ∧ (k = 0 ∨ k = 1 ∨ k = 2) ∧ o = (0 : Int32).toInt64) ∨ (rC = 1 ∧ k ≠ 0 ∧ k ≠ 1 ∧ k ≠ 2)) (hr : r = 0) (ht : t = if k < 0 ∨ 2 < k then 1 else 0) : t = rC ∧ (rC = 0 → o = r.toInt64) := by
  subst hr
  rcases hc with ⟨rfl, hk, ho⟩ | ⟨rfl, h0, h1, h2⟩
  · refine ⟨?_, fun _ => ho⟩
    rw [ht]
    rcases hk with rfl | rfl | rfl <;> decide
  · rw [if_pos (cnt_out h0 h1 h2)] at ht
    exact ⟨ht, fun h => absurd h (by decide)⟩
def J0 : Nat → Int32 := fun i => if i = 3 then -1 else if i = 26 then 1 else 0
section SC
variable {p : Program} {l : Launch} {e : Env} {R : Room} {s : State} {m : MethodId} {args : Array Value} {below : List Frame} {meth : Method} {c : Code} {H : Heap} {locs : List Loc} {cells slots : Nat} {Q : State → Prop} {cc : ByteArray} {pc : Nat} {ls : Array Slot} {rest : List Value} {A : Nat → Prop} {H0 : Heap}
/-- the script's int k -/
theorem f_sld (hexec : p.tables.exec = Jvm.exec) (hb : c.code = cc) {b L : Nat} {xs : Nat → Int32} (hX : va_X b L xs s H0) (hbl : b < H0.size) (hbA : ¬ A b) (hS : va_S A H0 H locs) {i : Int32} (k : Nat) (hi : i = nI k) (hk : k < L) (hL : L < 2 ^ 31) (hdg : decode cc pc = .ok (.iaload, 1))
    (kk : W p l e R s m args below meth c H locs cells slots Q (F0 m (pc + 1) ls (.int (xs k) :: rest))) : W p l e R s m args below meth c H locs cells slots Q (F0 m pc ls (.int i :: .ref b :: rest)) := by
  subst hi
  refine va_sld hexec hb hX hbl hbA hS (vp_in_nI hk hL) hdg ?_
  rw [nI_clamp (by omega)]
  exact kk
end SC
