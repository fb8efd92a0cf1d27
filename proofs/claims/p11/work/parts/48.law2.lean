abbrev c_Lw_law : ByteArray := code
theorem d_Lw_law_0 : decode c_Lw_law 0 = .ok (.new 8, 3) := by decide +kernel
theorem d_Lw_law_3 : decode c_Lw_law 3 = .ok (.dup, 1) := by decide +kernel
theorem d_Lw_law_4 : decode c_Lw_law 4 = .ok (.invokespecial 47, 3) := by decide +kernel
theorem d_Lw_law_7 : decode c_Lw_law 7 = .ok (.astore_n 1, 1) := by decide +kernel
theorem d_Lw_law_8 : decode c_Lw_law 8 = .ok (.new 48, 3) := by decide +kernel
theorem d_Lw_law_11 : decode c_Lw_law 11 = .ok (.dup, 1) := by decide +kernel
theorem d_Lw_law_12 : decode c_Lw_law 12 = .ok (.invokespecial 50, 3) := by decide +kernel
theorem d_Lw_law_15 : decode c_Lw_law 15 = .ok (.astore_n 2, 1) := by decide +kernel
theorem d_Lw_law_16 : decode c_Lw_law 16 = .ok (.iconst 1, 1) := by decide +kernel
theorem d_Lw_law_17 : decode c_Lw_law 17 = .ok (.newarray .long, 2) := by decide +kernel
theorem d_Lw_law_19 : decode c_Lw_law 19 = .ok (.astore_n 3, 1) := by decide +kernel
theorem d_Lw_law_20 : decode c_Lw_law 20 = .ok (.iconst 0, 1) := by decide +kernel
theorem d_Lw_law_21 : decode c_Lw_law 21 = .ok (.istore 4, 2) := by decide +kernel
theorem d_Lw_law_23 : decode c_Lw_law 23 = .ok (.iload 4, 2) := by decide +kernel
theorem d_Lw_law_25 : decode c_Lw_law 25 = .ok (.aload_n 0, 1) := by decide +kernel
theorem d_Lw_law_26 : decode c_Lw_law 26 = .ok (.arraylength, 1) := by decide +kernel
theorem d_Lw_law_27 : decode c_Lw_law 27 = .ok (.iconst 4, 1) := by decide +kernel
theorem d_Lw_law_28 : decode c_Lw_law 28 = .ok (.isub, 1) := by decide +kernel
theorem d_Lw_law_29 : decode c_Lw_law 29 = .ok (.if_icmp .gt 508, 3) := by decide +kernel
theorem d_Lw_law_32 : decode c_Lw_law 32 = .ok (.aload_n 0, 1) := by decide +kernel
theorem d_Lw_law_33 : decode c_Lw_law 33 = .ok (.iload 4, 2) := by decide +kernel
theorem d_Lw_law_35 : decode c_Lw_law 35 = .ok (.iaload, 1) := by decide +kernel
theorem d_Lw_law_36 : decode c_Lw_law 36 = .ok (.bipush 15, 2) := by decide +kernel
theorem d_Lw_law_38 : decode c_Lw_law 38 = .ok (.iand, 1) := by decide +kernel
theorem d_Lw_law_39 : decode c_Lw_law 39 = .ok (.tableswitch 492 0 10 #[57, 129, 142, 158, 171, 231, 303, 316, 368, 408, 464], 57) := by decide +kernel
theorem d_Lw_law_96 : decode c_Lw_law 96 = .ok (.aload_n 1, 1) := by decide +kernel
theorem d_Lw_law_97 : decode c_Lw_law 97 = .ok (.aload_n 0, 1) := by decide +kernel
theorem d_Lw_law_98 : decode c_Lw_law 98 = .ok (.iload 4, 2) := by decide +kernel
theorem d_Lw_law_100 : decode c_Lw_law 100 = .ok (.iconst 1, 1) := by decide +kernel
theorem d_Lw_law_101 : decode c_Lw_law 101 = .ok (.iadd, 1) := by decide +kernel
theorem d_Lw_law_102 : decode c_Lw_law 102 = .ok (.iaload, 1) := by decide +kernel
theorem d_Lw_law_103 : decode c_Lw_law 103 = .ok (.i2l, 1) := by decide +kernel
theorem d_Lw_law_104 : decode c_Lw_law 104 = .ok (.bipush 32, 2) := by decide +kernel
theorem d_Lw_law_106 : decode c_Lw_law 106 = .ok (.lshl, 1) := by decide +kernel
theorem d_Lw_law_107 : decode c_Lw_law 107 = .ok (.aload_n 0, 1) := by decide +kernel
theorem d_Lw_law_108 : decode c_Lw_law 108 = .ok (.iload 4, 2) := by decide +kernel
theorem d_Lw_law_110 : decode c_Lw_law 110 = .ok (.iconst 2, 1) := by decide +kernel
theorem d_Lw_law_111 : decode c_Lw_law 111 = .ok (.iadd, 1) := by decide +kernel
theorem d_Lw_law_112 : decode c_Lw_law 112 = .ok (.iaload, 1) := by decide +kernel
theorem d_Lw_law_113 : decode c_Lw_law 113 = .ok (.i2l, 1) := by decide +kernel
theorem d_Lw_law_114 : decode c_Lw_law 114 = .ok (.ldc2_w 51, 3) := by decide +kernel
theorem d_Lw_law_117 : decode c_Lw_law 117 = .ok (.land, 1) := by decide +kernel
theorem d_Lw_law_118 : decode c_Lw_law 118 = .ok (.lor, 1) := by decide +kernel
theorem d_Lw_law_119 : decode c_Lw_law 119 = .ok (.aload_n 0, 1) := by decide +kernel
theorem d_Lw_law_120 : decode c_Lw_law 120 = .ok (.iload 4, 2) := by decide +kernel
theorem d_Lw_law_122 : decode c_Lw_law 122 = .ok (.iconst 3, 1) := by decide +kernel
theorem d_Lw_law_123 : decode c_Lw_law 123 = .ok (.iadd, 1) := by decide +kernel
theorem d_Lw_law_124 : decode c_Lw_law 124 = .ok (.iaload, 1) := by decide +kernel
theorem d_Lw_law_125 : decode c_Lw_law 125 = .ok (.aload_n 3, 1) := by decide +kernel
theorem d_Lw_law_126 : decode c_Lw_law 126 = .ok (.invokestatic 53, 3) := by decide +kernel
theorem d_Lw_law_129 : decode c_Lw_law 129 = .ok (.istore 5, 2) := by decide +kernel
theorem d_Lw_law_131 : decode c_Lw_law 131 = .ok (.aload_n 2, 1) := by decide +kernel
theorem d_Lw_law_132 : decode c_Lw_law 132 = .ok (.aload_n 0, 1) := by decide +kernel
theorem d_Lw_law_133 : decode c_Lw_law 133 = .ok (.iload 4, 2) := by decide +kernel
theorem d_Lw_law_135 : decode c_Lw_law 135 = .ok (.iconst 1, 1) := by decide +kernel
theorem d_Lw_law_136 : decode c_Lw_law 136 = .ok (.iadd, 1) := by decide +kernel
theorem d_Lw_law_137 : decode c_Lw_law 137 = .ok (.iaload, 1) := by decide +kernel
theorem d_Lw_law_138 : decode c_Lw_law 138 = .ok (.i2l, 1) := by decide +kernel
theorem d_Lw_law_139 : decode c_Lw_law 139 = .ok (.bipush 32, 2) := by decide +kernel
theorem d_Lw_law_141 : decode c_Lw_law 141 = .ok (.lshl, 1) := by decide +kernel
theorem d_Lw_law_142 : decode c_Lw_law 142 = .ok (.aload_n 0, 1) := by decide +kernel
theorem d_Lw_law_143 : decode c_Lw_law 143 = .ok (.iload 4, 2) := by decide +kernel
theorem d_Lw_law_145 : decode c_Lw_law 145 = .ok (.iconst 2, 1) := by decide +kernel
theorem d_Lw_law_146 : decode c_Lw_law 146 = .ok (.iadd, 1) := by decide +kernel
theorem d_Lw_law_147 : decode c_Lw_law 147 = .ok (.iaload, 1) := by decide +kernel
theorem d_Lw_law_148 : decode c_Lw_law 148 = .ok (.i2l, 1) := by decide +kernel
theorem d_Lw_law_149 : decode c_Lw_law 149 = .ok (.ldc2_w 51, 3) := by decide +kernel
theorem d_Lw_law_152 : decode c_Lw_law 152 = .ok (.land, 1) := by decide +kernel
theorem d_Lw_law_153 : decode c_Lw_law 153 = .ok (.lor, 1) := by decide +kernel
theorem d_Lw_law_154 : decode c_Lw_law 154 = .ok (.aload_n 0, 1) := by decide +kernel
theorem d_Lw_law_155 : decode c_Lw_law 155 = .ok (.iload 4, 2) := by decide +kernel
theorem d_Lw_law_157 : decode c_Lw_law 157 = .ok (.iconst 3, 1) := by decide +kernel
theorem d_Lw_law_158 : decode c_Lw_law 158 = .ok (.iadd, 1) := by decide +kernel
theorem d_Lw_law_159 : decode c_Lw_law 159 = .ok (.iaload, 1) := by decide +kernel
theorem d_Lw_law_160 : decode c_Lw_law 160 = .ok (.invokevirtual 58, 3) := by decide +kernel
theorem d_Lw_law_163 : decode c_Lw_law 163 = .ok (.istore 6, 2) := by decide +kernel
theorem d_Lw_law_165 : decode c_Lw_law 165 = .ok (.goto 366, 3) := by decide +kernel
theorem d_Lw_law_168 : decode c_Lw_law 168 = .ok (.aload_n 1, 1) := by decide +kernel
theorem d_Lw_law_169 : decode c_Lw_law 169 = .ok (.invokevirtual 59, 3) := by decide +kernel
theorem d_Lw_law_172 : decode c_Lw_law 172 = .ok (.pop, 1) := by decide +kernel
theorem d_Lw_law_173 : decode c_Lw_law 173 = .ok (.aload_n 2, 1) := by decide +kernel
theorem d_Lw_law_174 : decode c_Lw_law 174 = .ok (.invokevirtual 62, 3) := by decide +kernel
theorem d_Lw_law_177 : decode c_Lw_law 177 = .ok (.pop, 1) := by decide +kernel
theorem d_Lw_law_178 : decode c_Lw_law 178 = .ok (.goto 353, 3) := by decide +kernel
theorem d_Lw_law_181 : decode c_Lw_law 181 = .ok (.aload_n 1, 1) := by decide +kernel
theorem d_Lw_law_182 : decode c_Lw_law 182 = .ok (.aload_n 3, 1) := by decide +kernel
theorem d_Lw_law_183 : decode c_Lw_law 183 = .ok (.invokestatic 63, 3) := by decide +kernel
theorem d_Lw_law_186 : decode c_Lw_law 186 = .ok (.istore 5, 2) := by decide +kernel
theorem d_Lw_law_188 : decode c_Lw_law 188 = .ok (.aload_n 2, 1) := by decide +kernel
theorem d_Lw_law_189 : decode c_Lw_law 189 = .ok (.invokevirtual 66, 3) := by decide +kernel
theorem d_Lw_law_192 : decode c_Lw_law 192 = .ok (.istore 6, 2) := by decide +kernel
theorem d_Lw_law_194 : decode c_Lw_law 194 = .ok (.goto 337, 3) := by decide +kernel
theorem d_Lw_law_197 : decode c_Lw_law 197 = .ok (.aload_n 1, 1) := by decide +kernel
theorem d_Lw_law_198 : decode c_Lw_law 198 = .ok (.invokevirtual 67, 3) := by decide +kernel
theorem d_Lw_law_201 : decode c_Lw_law 201 = .ok (.pop, 1) := by decide +kernel
theorem d_Lw_law_202 : decode c_Lw_law 202 = .ok (.aload_n 2, 1) := by decide +kernel
theorem d_Lw_law_203 : decode c_Lw_law 203 = .ok (.invokevirtual 70, 3) := by decide +kernel
theorem d_Lw_law_206 : decode c_Lw_law 206 = .ok (.pop, 1) := by decide +kernel
theorem d_Lw_law_207 : decode c_Lw_law 207 = .ok (.goto 324, 3) := by decide +kernel
theorem d_Lw_law_210 : decode c_Lw_law 210 = .ok (.aload_n 1, 1) := by decide +kernel
theorem d_Lw_law_211 : decode c_Lw_law 211 = .ok (.aload_n 0, 1) := by decide +kernel
theorem d_Lw_law_212 : decode c_Lw_law 212 = .ok (.iload 4, 2) := by decide +kernel
theorem d_Lw_law_214 : decode c_Lw_law 214 = .ok (.iconst 1, 1) := by decide +kernel
theorem d_Lw_law_215 : decode c_Lw_law 215 = .ok (.iadd, 1) := by decide +kernel
theorem d_Lw_law_216 : decode c_Lw_law 216 = .ok (.iaload, 1) := by decide +kernel
theorem d_Lw_law_217 : decode c_Lw_law 217 = .ok (.i2l, 1) := by decide +kernel
theorem d_Lw_law_218 : decode c_Lw_law 218 = .ok (.bipush 32, 2) := by decide +kernel
theorem d_Lw_law_220 : decode c_Lw_law 220 = .ok (.lshl, 1) := by decide +kernel
theorem d_Lw_law_221 : decode c_Lw_law 221 = .ok (.aload_n 0, 1) := by decide +kernel
theorem d_Lw_law_222 : decode c_Lw_law 222 = .ok (.iload 4, 2) := by decide +kernel
theorem d_Lw_law_224 : decode c_Lw_law 224 = .ok (.iconst 2, 1) := by decide +kernel
theorem d_Lw_law_225 : decode c_Lw_law 225 = .ok (.iadd, 1) := by decide +kernel
theorem d_Lw_law_226 : decode c_Lw_law 226 = .ok (.iaload, 1) := by decide +kernel
theorem d_Lw_law_227 : decode c_Lw_law 227 = .ok (.i2l, 1) := by decide +kernel
theorem d_Lw_law_228 : decode c_Lw_law 228 = .ok (.ldc2_w 51, 3) := by decide +kernel
theorem d_Lw_law_231 : decode c_Lw_law 231 = .ok (.land, 1) := by decide +kernel
theorem d_Lw_law_232 : decode c_Lw_law 232 = .ok (.lor, 1) := by decide +kernel
theorem d_Lw_law_233 : decode c_Lw_law 233 = .ok (.aload_n 3, 1) := by decide +kernel
theorem d_Lw_law_234 : decode c_Lw_law 234 = .ok (.invokestatic 71, 3) := by decide +kernel
theorem d_Lw_law_237 : decode c_Lw_law 237 = .ok (.istore 5, 2) := by decide +kernel
theorem d_Lw_law_239 : decode c_Lw_law 239 = .ok (.aload_n 2, 1) := by decide +kernel
theorem d_Lw_law_240 : decode c_Lw_law 240 = .ok (.aload_n 0, 1) := by decide +kernel
theorem d_Lw_law_241 : decode c_Lw_law 241 = .ok (.iload 4, 2) := by decide +kernel
theorem d_Lw_law_243 : decode c_Lw_law 243 = .ok (.iconst 1, 1) := by decide +kernel
theorem d_Lw_law_244 : decode c_Lw_law 244 = .ok (.iadd, 1) := by decide +kernel
theorem d_Lw_law_245 : decode c_Lw_law 245 = .ok (.iaload, 1) := by decide +kernel
theorem d_Lw_law_246 : decode c_Lw_law 246 = .ok (.i2l, 1) := by decide +kernel
theorem d_Lw_law_247 : decode c_Lw_law 247 = .ok (.bipush 32, 2) := by decide +kernel
theorem d_Lw_law_249 : decode c_Lw_law 249 = .ok (.lshl, 1) := by decide +kernel
theorem d_Lw_law_250 : decode c_Lw_law 250 = .ok (.aload_n 0, 1) := by decide +kernel
theorem d_Lw_law_251 : decode c_Lw_law 251 = .ok (.iload 4, 2) := by decide +kernel
theorem d_Lw_law_253 : decode c_Lw_law 253 = .ok (.iconst 2, 1) := by decide +kernel
theorem d_Lw_law_254 : decode c_Lw_law 254 = .ok (.iadd, 1) := by decide +kernel
theorem d_Lw_law_255 : decode c_Lw_law 255 = .ok (.iaload, 1) := by decide +kernel
theorem d_Lw_law_256 : decode c_Lw_law 256 = .ok (.i2l, 1) := by decide +kernel
theorem d_Lw_law_257 : decode c_Lw_law 257 = .ok (.ldc2_w 51, 3) := by decide +kernel
theorem d_Lw_law_260 : decode c_Lw_law 260 = .ok (.land, 1) := by decide +kernel
theorem d_Lw_law_261 : decode c_Lw_law 261 = .ok (.lor, 1) := by decide +kernel
theorem d_Lw_law_262 : decode c_Lw_law 262 = .ok (.invokevirtual 74, 3) := by decide +kernel
theorem d_Lw_law_265 : decode c_Lw_law 265 = .ok (.istore 6, 2) := by decide +kernel
theorem d_Lw_law_267 : decode c_Lw_law 267 = .ok (.goto 264, 3) := by decide +kernel
theorem d_Lw_law_270 : decode c_Lw_law 270 = .ok (.aload_n 1, 1) := by decide +kernel
theorem d_Lw_law_271 : decode c_Lw_law 271 = .ok (.aload_n 0, 1) := by decide +kernel
theorem d_Lw_law_272 : decode c_Lw_law 272 = .ok (.iload 4, 2) := by decide +kernel
theorem d_Lw_law_274 : decode c_Lw_law 274 = .ok (.iconst 1, 1) := by decide +kernel
theorem d_Lw_law_275 : decode c_Lw_law 275 = .ok (.iadd, 1) := by decide +kernel
theorem d_Lw_law_276 : decode c_Lw_law 276 = .ok (.iaload, 1) := by decide +kernel
theorem d_Lw_law_277 : decode c_Lw_law 277 = .ok (.i2l, 1) := by decide +kernel
theorem d_Lw_law_278 : decode c_Lw_law 278 = .ok (.bipush 32, 2) := by decide +kernel
theorem d_Lw_law_280 : decode c_Lw_law 280 = .ok (.lshl, 1) := by decide +kernel
theorem d_Lw_law_281 : decode c_Lw_law 281 = .ok (.aload_n 0, 1) := by decide +kernel
theorem d_Lw_law_282 : decode c_Lw_law 282 = .ok (.iload 4, 2) := by decide +kernel
theorem d_Lw_law_284 : decode c_Lw_law 284 = .ok (.iconst 2, 1) := by decide +kernel
theorem d_Lw_law_285 : decode c_Lw_law 285 = .ok (.iadd, 1) := by decide +kernel
theorem d_Lw_law_286 : decode c_Lw_law 286 = .ok (.iaload, 1) := by decide +kernel
theorem d_Lw_law_287 : decode c_Lw_law 287 = .ok (.i2l, 1) := by decide +kernel
theorem d_Lw_law_288 : decode c_Lw_law 288 = .ok (.ldc2_w 51, 3) := by decide +kernel
theorem d_Lw_law_291 : decode c_Lw_law 291 = .ok (.land, 1) := by decide +kernel
theorem d_Lw_law_292 : decode c_Lw_law 292 = .ok (.lor, 1) := by decide +kernel
theorem d_Lw_law_293 : decode c_Lw_law 293 = .ok (.aload_n 0, 1) := by decide +kernel
theorem d_Lw_law_294 : decode c_Lw_law 294 = .ok (.iload 4, 2) := by decide +kernel
theorem d_Lw_law_296 : decode c_Lw_law 296 = .ok (.iconst 3, 1) := by decide +kernel
theorem d_Lw_law_297 : decode c_Lw_law 297 = .ok (.iadd, 1) := by decide +kernel
theorem d_Lw_law_298 : decode c_Lw_law 298 = .ok (.iaload, 1) := by decide +kernel
theorem d_Lw_law_299 : decode c_Lw_law 299 = .ok (.aload_n 3, 1) := by decide +kernel
theorem d_Lw_law_300 : decode c_Lw_law 300 = .ok (.invokestatic 75, 3) := by decide +kernel
theorem d_Lw_law_303 : decode c_Lw_law 303 = .ok (.istore 5, 2) := by decide +kernel
theorem d_Lw_law_305 : decode c_Lw_law 305 = .ok (.aload_n 2, 1) := by decide +kernel
theorem d_Lw_law_306 : decode c_Lw_law 306 = .ok (.aload_n 0, 1) := by decide +kernel
theorem d_Lw_law_307 : decode c_Lw_law 307 = .ok (.iload 4, 2) := by decide +kernel
theorem d_Lw_law_309 : decode c_Lw_law 309 = .ok (.iconst 1, 1) := by decide +kernel
theorem d_Lw_law_310 : decode c_Lw_law 310 = .ok (.iadd, 1) := by decide +kernel
theorem d_Lw_law_311 : decode c_Lw_law 311 = .ok (.iaload, 1) := by decide +kernel
theorem d_Lw_law_312 : decode c_Lw_law 312 = .ok (.i2l, 1) := by decide +kernel
theorem d_Lw_law_313 : decode c_Lw_law 313 = .ok (.bipush 32, 2) := by decide +kernel
theorem d_Lw_law_315 : decode c_Lw_law 315 = .ok (.lshl, 1) := by decide +kernel
theorem d_Lw_law_316 : decode c_Lw_law 316 = .ok (.aload_n 0, 1) := by decide +kernel
theorem d_Lw_law_317 : decode c_Lw_law 317 = .ok (.iload 4, 2) := by decide +kernel
theorem d_Lw_law_319 : decode c_Lw_law 319 = .ok (.iconst 2, 1) := by decide +kernel
theorem d_Lw_law_320 : decode c_Lw_law 320 = .ok (.iadd, 1) := by decide +kernel
theorem d_Lw_law_321 : decode c_Lw_law 321 = .ok (.iaload, 1) := by decide +kernel
theorem d_Lw_law_322 : decode c_Lw_law 322 = .ok (.i2l, 1) := by decide +kernel
theorem d_Lw_law_323 : decode c_Lw_law 323 = .ok (.ldc2_w 51, 3) := by decide +kernel
theorem d_Lw_law_326 : decode c_Lw_law 326 = .ok (.land, 1) := by decide +kernel
theorem d_Lw_law_327 : decode c_Lw_law 327 = .ok (.lor, 1) := by decide +kernel
theorem d_Lw_law_328 : decode c_Lw_law 328 = .ok (.aload_n 0, 1) := by decide +kernel
theorem d_Lw_law_329 : decode c_Lw_law 329 = .ok (.iload 4, 2) := by decide +kernel
theorem d_Lw_law_331 : decode c_Lw_law 331 = .ok (.iconst 3, 1) := by decide +kernel
theorem d_Lw_law_332 : decode c_Lw_law 332 = .ok (.iadd, 1) := by decide +kernel
theorem d_Lw_law_333 : decode c_Lw_law 333 = .ok (.iaload, 1) := by decide +kernel
theorem d_Lw_law_334 : decode c_Lw_law 334 = .ok (.invokevirtual 77, 3) := by decide +kernel
theorem d_Lw_law_337 : decode c_Lw_law 337 = .ok (.istore 6, 2) := by decide +kernel
theorem d_Lw_law_339 : decode c_Lw_law 339 = .ok (.goto 192, 3) := by decide +kernel
theorem d_Lw_law_342 : decode c_Lw_law 342 = .ok (.aload_n 1, 1) := by decide +kernel
theorem d_Lw_law_343 : decode c_Lw_law 343 = .ok (.invokevirtual 78, 3) := by decide +kernel
theorem d_Lw_law_346 : decode c_Lw_law 346 = .ok (.pop, 1) := by decide +kernel
theorem d_Lw_law_347 : decode c_Lw_law 347 = .ok (.aload_n 2, 1) := by decide +kernel
theorem d_Lw_law_348 : decode c_Lw_law 348 = .ok (.invokevirtual 81, 3) := by decide +kernel
theorem d_Lw_law_351 : decode c_Lw_law 351 = .ok (.pop, 1) := by decide +kernel
theorem d_Lw_law_352 : decode c_Lw_law 352 = .ok (.goto 179, 3) := by decide +kernel
theorem d_Lw_law_355 : decode c_Lw_law 355 = .ok (.aload_n 1, 1) := by decide +kernel
theorem d_Lw_law_356 : decode c_Lw_law 356 = .ok (.aload_n 0, 1) := by decide +kernel
theorem d_Lw_law_357 : decode c_Lw_law 357 = .ok (.iload 4, 2) := by decide +kernel
theorem d_Lw_law_359 : decode c_Lw_law 359 = .ok (.iconst 1, 1) := by decide +kernel
theorem d_Lw_law_360 : decode c_Lw_law 360 = .ok (.iadd, 1) := by decide +kernel
theorem d_Lw_law_361 : decode c_Lw_law 361 = .ok (.iaload, 1) := by decide +kernel
theorem d_Lw_law_362 : decode c_Lw_law 362 = .ok (.aload_n 0, 1) := by decide +kernel
theorem d_Lw_law_363 : decode c_Lw_law 363 = .ok (.iload 4, 2) := by decide +kernel
theorem d_Lw_law_365 : decode c_Lw_law 365 = .ok (.iconst 2, 1) := by decide +kernel
theorem d_Lw_law_366 : decode c_Lw_law 366 = .ok (.iadd, 1) := by decide +kernel
theorem d_Lw_law_367 : decode c_Lw_law 367 = .ok (.iaload, 1) := by decide +kernel
theorem d_Lw_law_368 : decode c_Lw_law 368 = .ok (.aload_n 0, 1) := by decide +kernel
theorem d_Lw_law_369 : decode c_Lw_law 369 = .ok (.iload 4, 2) := by decide +kernel
theorem d_Lw_law_371 : decode c_Lw_law 371 = .ok (.iconst 3, 1) := by decide +kernel
theorem d_Lw_law_372 : decode c_Lw_law 372 = .ok (.iadd, 1) := by decide +kernel
theorem d_Lw_law_373 : decode c_Lw_law 373 = .ok (.iaload, 1) := by decide +kernel
theorem d_Lw_law_374 : decode c_Lw_law 374 = .ok (.aload_n 3, 1) := by decide +kernel
theorem d_Lw_law_375 : decode c_Lw_law 375 = .ok (.invokestatic 82, 3) := by decide +kernel
theorem d_Lw_law_378 : decode c_Lw_law 378 = .ok (.istore 5, 2) := by decide +kernel
theorem d_Lw_law_380 : decode c_Lw_law 380 = .ok (.aload_n 2, 1) := by decide +kernel
theorem d_Lw_law_381 : decode c_Lw_law 381 = .ok (.aload_n 0, 1) := by decide +kernel
theorem d_Lw_law_382 : decode c_Lw_law 382 = .ok (.iload 4, 2) := by decide +kernel
theorem d_Lw_law_384 : decode c_Lw_law 384 = .ok (.iconst 1, 1) := by decide +kernel
theorem d_Lw_law_385 : decode c_Lw_law 385 = .ok (.iadd, 1) := by decide +kernel
theorem d_Lw_law_386 : decode c_Lw_law 386 = .ok (.iaload, 1) := by decide +kernel
theorem d_Lw_law_387 : decode c_Lw_law 387 = .ok (.aload_n 0, 1) := by decide +kernel
theorem d_Lw_law_388 : decode c_Lw_law 388 = .ok (.iload 4, 2) := by decide +kernel
theorem d_Lw_law_390 : decode c_Lw_law 390 = .ok (.iconst 2, 1) := by decide +kernel
theorem d_Lw_law_391 : decode c_Lw_law 391 = .ok (.iadd, 1) := by decide +kernel
theorem d_Lw_law_392 : decode c_Lw_law 392 = .ok (.iaload, 1) := by decide +kernel
theorem d_Lw_law_393 : decode c_Lw_law 393 = .ok (.aload_n 0, 1) := by decide +kernel
theorem d_Lw_law_394 : decode c_Lw_law 394 = .ok (.iload 4, 2) := by decide +kernel
theorem d_Lw_law_396 : decode c_Lw_law 396 = .ok (.iconst 3, 1) := by decide +kernel
theorem d_Lw_law_397 : decode c_Lw_law 397 = .ok (.iadd, 1) := by decide +kernel
theorem d_Lw_law_398 : decode c_Lw_law 398 = .ok (.iaload, 1) := by decide +kernel
theorem d_Lw_law_399 : decode c_Lw_law 399 = .ok (.invokevirtual 85, 3) := by decide +kernel
theorem d_Lw_law_402 : decode c_Lw_law 402 = .ok (.istore 6, 2) := by decide +kernel
theorem d_Lw_law_404 : decode c_Lw_law 404 = .ok (.goto 127, 3) := by decide +kernel
theorem d_Lw_law_407 : decode c_Lw_law 407 = .ok (.aload_n 1, 1) := by decide +kernel
theorem d_Lw_law_408 : decode c_Lw_law 408 = .ok (.aload_n 0, 1) := by decide +kernel
theorem d_Lw_law_409 : decode c_Lw_law 409 = .ok (.iload 4, 2) := by decide +kernel
theorem d_Lw_law_411 : decode c_Lw_law 411 = .ok (.iconst 1, 1) := by decide +kernel
theorem d_Lw_law_412 : decode c_Lw_law 412 = .ok (.iadd, 1) := by decide +kernel
theorem d_Lw_law_413 : decode c_Lw_law 413 = .ok (.iaload, 1) := by decide +kernel
theorem d_Lw_law_414 : decode c_Lw_law 414 = .ok (.aload_n 0, 1) := by decide +kernel
theorem d_Lw_law_415 : decode c_Lw_law 415 = .ok (.iload 4, 2) := by decide +kernel
theorem d_Lw_law_417 : decode c_Lw_law 417 = .ok (.iconst 2, 1) := by decide +kernel
theorem d_Lw_law_418 : decode c_Lw_law 418 = .ok (.iadd, 1) := by decide +kernel
theorem d_Lw_law_419 : decode c_Lw_law 419 = .ok (.iaload, 1) := by decide +kernel
theorem d_Lw_law_420 : decode c_Lw_law 420 = .ok (.aload_n 3, 1) := by decide +kernel
theorem d_Lw_law_421 : decode c_Lw_law 421 = .ok (.invokestatic 86, 3) := by decide +kernel
theorem d_Lw_law_424 : decode c_Lw_law 424 = .ok (.istore 5, 2) := by decide +kernel
theorem d_Lw_law_426 : decode c_Lw_law 426 = .ok (.aload_n 2, 1) := by decide +kernel
theorem d_Lw_law_427 : decode c_Lw_law 427 = .ok (.aload_n 0, 1) := by decide +kernel
theorem d_Lw_law_428 : decode c_Lw_law 428 = .ok (.iload 4, 2) := by decide +kernel
theorem d_Lw_law_430 : decode c_Lw_law 430 = .ok (.iconst 1, 1) := by decide +kernel
theorem d_Lw_law_431 : decode c_Lw_law 431 = .ok (.iadd, 1) := by decide +kernel
theorem d_Lw_law_432 : decode c_Lw_law 432 = .ok (.iaload, 1) := by decide +kernel
theorem d_Lw_law_433 : decode c_Lw_law 433 = .ok (.aload_n 0, 1) := by decide +kernel
theorem d_Lw_law_434 : decode c_Lw_law 434 = .ok (.iload 4, 2) := by decide +kernel
theorem d_Lw_law_436 : decode c_Lw_law 436 = .ok (.iconst 2, 1) := by decide +kernel
theorem d_Lw_law_437 : decode c_Lw_law 437 = .ok (.iadd, 1) := by decide +kernel
theorem d_Lw_law_438 : decode c_Lw_law 438 = .ok (.iaload, 1) := by decide +kernel
theorem d_Lw_law_439 : decode c_Lw_law 439 = .ok (.invokevirtual 89, 3) := by decide +kernel
theorem d_Lw_law_442 : decode c_Lw_law 442 = .ok (.istore 6, 2) := by decide +kernel
theorem d_Lw_law_444 : decode c_Lw_law 444 = .ok (.goto 87, 3) := by decide +kernel
theorem d_Lw_law_447 : decode c_Lw_law 447 = .ok (.aload_n 1, 1) := by decide +kernel
theorem d_Lw_law_448 : decode c_Lw_law 448 = .ok (.aload_n 0, 1) := by decide +kernel
theorem d_Lw_law_449 : decode c_Lw_law 449 = .ok (.iload 4, 2) := by decide +kernel
theorem d_Lw_law_451 : decode c_Lw_law 451 = .ok (.iconst 1, 1) := by decide +kernel
theorem d_Lw_law_452 : decode c_Lw_law 452 = .ok (.iadd, 1) := by decide +kernel
theorem d_Lw_law_453 : decode c_Lw_law 453 = .ok (.iaload, 1) := by decide +kernel
theorem d_Lw_law_454 : decode c_Lw_law 454 = .ok (.aload_n 3, 1) := by decide +kernel
theorem d_Lw_law_455 : decode c_Lw_law 455 = .ok (.invokestatic 90, 3) := by decide +kernel
theorem d_Lw_law_458 : decode c_Lw_law 458 = .ok (.istore 5, 2) := by decide +kernel
theorem d_Lw_law_460 : decode c_Lw_law 460 = .ok (.aload_n 2, 1) := by decide +kernel
theorem d_Lw_law_461 : decode c_Lw_law 461 = .ok (.aload_n 0, 1) := by decide +kernel
theorem d_Lw_law_462 : decode c_Lw_law 462 = .ok (.iload 4, 2) := by decide +kernel
theorem d_Lw_law_464 : decode c_Lw_law 464 = .ok (.iconst 1, 1) := by decide +kernel
theorem d_Lw_law_465 : decode c_Lw_law 465 = .ok (.iadd, 1) := by decide +kernel
theorem d_Lw_law_466 : decode c_Lw_law 466 = .ok (.iaload, 1) := by decide +kernel
theorem d_Lw_law_467 : decode c_Lw_law 467 = .ok (.invokevirtual 93, 3) := by decide +kernel
theorem d_Lw_law_470 : decode c_Lw_law 470 = .ok (.istore 6, 2) := by decide +kernel
theorem d_Lw_law_472 : decode c_Lw_law 472 = .ok (.aload_n 2, 1) := by decide +kernel
theorem d_Lw_law_473 : decode c_Lw_law 473 = .ok (.invokevirtual 94, 3) := by decide +kernel
theorem d_Lw_law_476 : decode c_Lw_law 476 = .ok (.iload 5, 2) := by decide +kernel
theorem d_Lw_law_478 : decode c_Lw_law 478 = .ok (.if_icmp .eq 5, 3) := by decide +kernel
theorem d_Lw_law_481 : decode c_Lw_law 481 = .ok (.iconst 0, 1) := by decide +kernel
theorem d_Lw_law_482 : decode c_Lw_law 482 = .ok (.ireturn, 1) := by decide +kernel
theorem d_Lw_law_483 : decode c_Lw_law 483 = .ok (.iload 5, 2) := by decide +kernel
theorem d_Lw_law_485 : decode c_Lw_law 485 = .ok (.ifCond .ne 15, 3) := by decide +kernel
theorem d_Lw_law_488 : decode c_Lw_law 488 = .ok (.aload_n 3, 1) := by decide +kernel
theorem d_Lw_law_489 : decode c_Lw_law 489 = .ok (.iconst 0, 1) := by decide +kernel
theorem d_Lw_law_490 : decode c_Lw_law 490 = .ok (.laload, 1) := by decide +kernel
theorem d_Lw_law_491 : decode c_Lw_law 491 = .ok (.iload 6, 2) := by decide +kernel
theorem d_Lw_law_493 : decode c_Lw_law 493 = .ok (.i2l, 1) := by decide +kernel
theorem d_Lw_law_494 : decode c_Lw_law 494 = .ok (.lcmp, 1) := by decide +kernel
theorem d_Lw_law_495 : decode c_Lw_law 495 = .ok (.ifCond .eq 5, 3) := by decide +kernel
theorem d_Lw_law_498 : decode c_Lw_law 498 = .ok (.iconst 0, 1) := by decide +kernel
theorem d_Lw_law_499 : decode c_Lw_law 499 = .ok (.ireturn, 1) := by decide +kernel
theorem d_Lw_law_500 : decode c_Lw_law 500 = .ok (.goto 31, 3) := by decide +kernel
theorem d_Lw_law_503 : decode c_Lw_law 503 = .ok (.aload_n 1, 1) := by decide +kernel
theorem d_Lw_law_504 : decode c_Lw_law 504 = .ok (.aload_n 0, 1) := by decide +kernel
theorem d_Lw_law_505 : decode c_Lw_law 505 = .ok (.iload 4, 2) := by decide +kernel
theorem d_Lw_law_507 : decode c_Lw_law 507 = .ok (.iconst 1, 1) := by decide +kernel
theorem d_Lw_law_508 : decode c_Lw_law 508 = .ok (.iadd, 1) := by decide +kernel
theorem d_Lw_law_509 : decode c_Lw_law 509 = .ok (.iaload, 1) := by decide +kernel
theorem d_Lw_law_510 : decode c_Lw_law 510 = .ok (.aload_n 3, 1) := by decide +kernel
theorem d_Lw_law_511 : decode c_Lw_law 511 = .ok (.invokestatic 97, 3) := by decide +kernel
theorem d_Lw_law_514 : decode c_Lw_law 514 = .ok (.istore 5, 2) := by decide +kernel
theorem d_Lw_law_516 : decode c_Lw_law 516 = .ok (.aload_n 2, 1) := by decide +kernel
theorem d_Lw_law_517 : decode c_Lw_law 517 = .ok (.aload_n 0, 1) := by decide +kernel
theorem d_Lw_law_518 : decode c_Lw_law 518 = .ok (.iload 4, 2) := by decide +kernel
theorem d_Lw_law_520 : decode c_Lw_law 520 = .ok (.iconst 1, 1) := by decide +kernel
theorem d_Lw_law_521 : decode c_Lw_law 521 = .ok (.iadd, 1) := by decide +kernel
theorem d_Lw_law_522 : decode c_Lw_law 522 = .ok (.iaload, 1) := by decide +kernel
theorem d_Lw_law_523 : decode c_Lw_law 523 = .ok (.invokevirtual 99, 3) := by decide +kernel
theorem d_Lw_law_526 : decode c_Lw_law 526 = .ok (.istore 6, 2) := by decide +kernel
theorem d_Lw_law_528 : decode c_Lw_law 528 = .ok (.goto 3, 3) := by decide +kernel
theorem d_Lw_law_531 : decode c_Lw_law 531 = .ok (.iinc 4 4, 3) := by decide +kernel
theorem d_Lw_law_534 : decode c_Lw_law 534 = .ok (.goto (-511), 3) := by decide +kernel
theorem d_Lw_law_537 : decode c_Lw_law 537 = .ok (.iconst 1, 1) := by decide +kernel
theorem d_Lw_law_538 : decode c_Lw_law 538 = .ok (.ireturn, 1) := by decide +kernel
theorem NW.of {s : State} {args : Array Value} (h : ∀ w ∈ lw_tbl, w.before args s = true) : NW s := by
  intro w hw hn
  have h1 := h w hw
  cases w
  case fieldLinkNest => exact va_tabs rfl rfl h1
  case methodLinkNest => exact va_tabs rfl rfl h1
  case declares => exact va_tabs rfl rfl h1
  case castable => exact va_tabs rfl rfl h1
  case arrayOver ty =>
    cases ty
    case object C => exact h1
    all_goals cases hn
  all_goals cases hn
theorem arr_of {s : State} {args : Array Value} {ty : FieldType} (h : (Cond.arrayClass ty).before args s = true) : ∃ c : ClassId, ArrOfT s c ty ∧ s.vm.findClass ("[" ++ ty.toString) = some c := by
  obtain ⟨c, k, comp, h1, h2, h3⟩ := Cond.arrayClass_spec h
  exact ⟨c, fun n z => ⟨fun k h => (by cases h), k, h2, comp, h3⟩, h1⟩
theorem arr_ofO {s : State} {args : Array Value} {C : String} (h : (Cond.arrayOver (.object C)).before args s = true) : ∃ c : ClassId, ArrOfT s c (.object C) ∧ va_RA s c (.object C) := by
  obtain ⟨comp, c, k, h1, h2, h3, h4, h5⟩ := Cond.arrayOver_spec h
  exact ⟨c, fun n z => ⟨fun k h => (by cases h), k, h3, comp, h4⟩, k, comp, h3, h4, h1, h5⟩
set_option maxHeartbeats 4000000 in
set_option maxRecDepth 100000 in
theorem EV_start {s : State} {b : Nat} (hts : ∀ w ∈ lw_tbl, w.before #[Value.ref b] s = true) (hgv : (Jvm.Cond.and given_1 narrow_1).before #[Value.ref b] s = true) : ∃ (D : va_G) (cy : Nat → ClassId), EV D cy s.heap.size s := by
  obtain ⟨a0, b0, k0⟩ := u_known (n := 2) hts inCh (hts _ kw_26)
  obtain ⟨a1, b1, k1⟩ := u_known (n := 3) hts inCt (hts _ kw_159)
  obtain ⟨a2, b2, k2⟩ := u_known (n := 7) hts inEl (hts _ kw_69)
  obtain ⟨a3, b3, k3⟩ := u_known (n := 6) hts inGr (hts _ kw_43)
  obtain ⟨a4, b4, k4⟩ := u_known (n := 4) hts inRd (hts _ kw_139)
  obtain ⟨a5, b5, k5⟩ := u_known (n := 3) hts inRu (hts _ kw_50)
  obtain ⟨a6, b6, k6⟩ := u_known (n := 5) hts inAb (hts _ kw_18)
  obtain ⟨a7, b7, k7⟩ := u_known (n := 29) hts inMo (hts _ kw_651)
  obtain ⟨c0, x0, z0⟩ := arr_of (hts _ kw_41)
  obtain ⟨c1, x1, z1⟩ := arr_of (hts _ kw_110)
  obtain ⟨c2, x2, z2⟩ := arr_of (hts _ kw_744)
  obtain ⟨c3, x3, z3⟩ := arr_of (hts _ kw_745)
  obtain ⟨c4, x4, z4⟩ := arr_ofO (hts _ kw_68)
  obtain ⟨c5, x5, z5⟩ := arr_ofO (hts _ kw_49)
  have fl := flat_of_before _ hgv
  refine ⟨((fun i => match i with | 0 => a0 | 1 => a1 | 2 => a2 | 3 => a3 | 4 => a4 | 5 => a5 | 6 => a6 | _ => a7), (fun i => match i with | 0 => b0 | 1 => b1 | 2 => b2 | 3 => b3 | 4 => b4 | 5 => b5 | 6 => b6 | _ => b7)), (fun i => match i with | 0 => c0 | 1 => c1 | 2 => c2 | 3 => c3 | 4 => c4 | _ => c5), ⟨?_, ?_⟩, NW.of hts, vx_Zqof (hts _ kw_256) (hts _ kw_9) (fl _ (by decide +kernel)) (fun a h1 h2 => Nat.lt_irrefl _ (Nat.lt_of_lt_of_le h1 h2)), vx_Zqof (hts _ kw_258) (hts _ kw_9) (fl _ (by decide +kernel)) (fun a h1 h2 => Nat.lt_irrefl _ (Nat.lt_of_lt_of_le h1 h2)), Nat.le_refl _, va_Nc.of (fl _ (by decide +kernel)), va_Nc.of (fl _ (by decide +kernel))⟩
  · intro c q hq
    match c, hq with
    | 0, hq => cases hq; exact k0
    | 1, hq => cases hq; exact k1
    | 2, hq => cases hq; exact k2
    | 3, hq => cases hq; exact k3
    | 4, hq => cases hq; exact k4
    | 5, hq => cases hq; exact k5
    | 6, hq => cases hq; exact k6
    | 7, hq => cases hq; exact k7
    | c + 8, hq => exact absurd hq (by simp)
  · intro c q hq
    match c, hq with
    | 0, hq => cases hq; exact ⟨x0, z0⟩
    | 1, hq => cases hq; exact ⟨x1, z1⟩
    | 2, hq => cases hq; exact ⟨x2, z2⟩
    | 3, hq => cases hq; exact ⟨x3, z3⟩
    | 4, hq => cases hq; exact ⟨x4, z4⟩
    | 5, hq => cases hq; exact ⟨x5, z5⟩
    | c + 6, hq => exact absurd hq (by simp)
theorem allB_congr {f g : Nat → Bool} : ∀ {n : Nat}, (∀ i, i < n → f i = g i) → allB f n = allB g n
  | 0, _ => rfl
  | n + 1, h => by
    unfold allB
    rw [allB_congr (n := n) (fun i hi => h i (Nat.lt_succ_of_lt hi)), h n (Nat.lt_succ_self n)]
theorem allB_bm {ok : Int32 → Bool} {x : Int64} {M : Nat} (h : M ≤ 8) : allB (fun i => ok (bm8 x (nI i))) M = allB (fun i => ok (by8 x (nI i))) M := allB_congr (fun i hi => by rw [bm_by x (by omega)])
theorem out18 {k : Int32} {N : Nat} (hk : k = nI N) (h1 : 1 ≤ N) (h8 : N ≤ 8) : ¬ (k < 1 ∨ 8 < k) := by
  subst hk
  rintro (h | h)
  · exact nI_nlt (a := N) (b := 1) h1 (by omega) h
  · exact nI_nlt (a := 8) (b := N) h8 (by decide) h
def J0 : Nat → Int32 := fun i => if i = 3 then -1 else if i = 26 then 1 else 0
section SC
variable {p : Program} {l : Launch} {e : Env} {R : Room} {s : State} {m : MethodId} {args : Array Value} {below : List Frame} {meth : Method} {c : Code} {H : Heap} {locs : List Loc} {cells slots : Nat} {Q : State → Prop} {cc : ByteArray} {pc : Nat} {ls : Array Slot} {rest : List Value} {A : Nat → Prop} {H0 : Heap}
/-- the script's int k -/
theorem f_sld (hexec : p.tables.exec = Jvm.exec) (hb : c.code = cc) {b L : Nat} {xs : Nat → Int32} (hX : va_X b L xs s H0) (hbl : b < H0.size) (hbA : ¬ A b) (hS : va_S A H0 H locs) {i : Int32} (k : Nat) (hi : i = nI k) (hk : k < L) (hL : L < 2 ^ 31) (hdg : decode cc pc = .ok (.iaload, 1))
    (kk : W p l e R s m args below meth c H locs cells slots Q (F0 m (pc + 1) ls (.int (xs k) :: rest))) : W p l e R s m args below meth c H locs cells slots Q (F0 m pc ls (.int i :: .ref b :: rest)) := by
  subst hi
  refine va_sld hexec hb hX hbl hbA hS (vp_in_nI hk hL) hdg ?_
  rw [nI_clamp (by omega)]
  exact kk
end SC
def LIv (cy : Nat → ClassId) (ad : Nat → Nat) (Z G : Nat) (mem : Nat → va_E) : Prop := KI cy ad Z mem ∧ mem 3 = .inr (0, [.ref (ad 4), .int (nI G)]) ∧ LO cy mem ∧ ∃ (J : Nat → Int32) (A : Nat → Nat → Int32) (nm : Nat → Int64), MW cy ad J A nm mem mem ∧ OI Z G J A ∧ G ≤ 24 ∧ LX cy ad Z J A nm mem ∧ LY cy ad G J A mem
section LW
variable {cy : Nat → ClassId} {ad : Nat → Nat} {Z G : Nat} {J J' : Nat → Int32} {A A' : Nat → Nat → Int32} {nm : Nat → Int64} {m0 mem mem' : Nat → va_E}
theorem MW.mv (h : MW cy ad J A nm m0 mem) (e : ∀ i, 224 ≤ i → i ≤ 241 → mem' i = mem i) : MW cy ad J A nm mem' mem' :=
  ⟨(e 224 (by omega) (by omega)).trans h.1, (e 226 (by omega) (by omega)).trans h.2.1, fun j h1 h2 h3 => (e j (by omega) h2).trans (h.2.2.1 j h1 h2 h3), fun _ _ => rfl, fun v _ e1 _ => absurd e1 (NoG.of (ad := ad) (J := J) ((e 224 (by omega) (by omega)).trans h.1) v)⟩
theorem LIv.of (hK : KI cy ad Z mem) (h3 : mem 3 = .inr (0, [.ref (ad 4), .int (nI G)])) (hO : LO cy mem) (hM : MW cy ad J A nm mem mem') (hI : OI Z G J A) (hG : G ≤ 24) (hX : LX cy ad Z J A nm mem) (hLy : LY cy ad G J A mem) : LIv cy ad Z G mem' := by
  refine ⟨hK.frame (fun i hi => hM.2.2.2.1 i (by omega)), (hM.2.2.2.1 3 (by omega)).trans h3, ?_, J, A, nm, hM.mv (fun _ _ _ => rfl), hI, hG, hX.mv (fun i hi => hM.2.2.2.1 i (by omega)), hLy.fr (fun i q1 q2 => hM.2.2.2.1 i (by omega)) rfl rfl rfl (fun _ _ => rfl)⟩
  obtain ⟨ou, ho⟩ := hO
  exact ⟨ou, (hM.2.2.2.1 242 (by omega)).trans ho⟩
theorem in_same {I : Nat} (hI : I ≤ 24) (hG : G ≤ 24) (h : mem 3 = .inr (0, [.ref (ad 4), .int (nI I)])) (h' : mem 3 = .inr (0, [.ref (ad 4), .int (nI G)])) : I = G := by
  have e := h.symm.trans h'
  injection e with e1
  injection e1 with _ e2
  injection e2 with _ e3
  injection e3 with e4
  injection e4 with e5
  exact (nI_eq (by omega) (by omega)).mp e5
theorem OI.keep (h : OI Z G J A) (e : ∀ i, i ≠ 0 → i ≠ 26 → J' i = J i) (ea : ∀ j, j ≠ 241 → A' j = A j) : OI Z G J' A' := by
  obtain ⟨h1, h2, u, R, E, h3, h4, h5, h6, h7, h8⟩ := h
  exact ⟨(e 1 (by decide) (by decide)).trans h1, (e 24 (by decide) (by decide)).trans h2, u, R, E, (e 4 (by decide) (by decide)).trans h3, (e 7 (by decide) (by decide)).trans h4, h5, h6, h7, h8.congr ea⟩
theorem OI.len {Z' : Nat} (h : OI Z G J A) (h1 : J' 1 = nI Z') (e : ∀ i, i ≠ 0 → i ≠ 1 → J' i = J i) {g : Nat → Int32} : OI Z' G J' (va_up A 225 g) := by
  obtain ⟨-, h2, u, R, E, h3, h4, h5, h6, h7, h8⟩ := h
  exact ⟨h1, (e 24 (by decide) (by decide)).trans h2, u, R, E, (e 4 (by decide) (by decide)).trans h3, (e 7 (by decide) (by decide)).trans h4, h5, h6, h7, h8⟩
theorem OI.len0 {Z' : Nat} (h : OI Z G J A) (h1 : J' 1 = nI Z') (e : ∀ i, i ≠ 0 → i ≠ 1 → J' i = J i) : OI Z' G J' A := by
  obtain ⟨-, h2, u, R, E, h3, h4, h5, h6, h7, h8⟩ := h
  exact ⟨h1, (e 24 (by decide) (by decide)).trans h2, u, R, E, (e 4 (by decide) (by decide)).trans h3, (e 7 (by decide) (by decide)).trans h4, h5, h6, h7, h8⟩
theorem OI.giv {G' : Nat} (h : OI Z G J A) (h1 : J' 24 = nI G') (e : ∀ i, i ≠ 0 → i ≠ 24 → i ≠ 26 → J' i = J i) {g : Nat → Int32} : OI Z G' J' (va_up A 240 g) := by
  obtain ⟨h0, -, u, R, E, h3, h4, h5, h6, h7, h8⟩ := h
  exact ⟨(e 1 (by decide) (by decide) (by decide)).trans h0, h1, u, R, E, (e 4 (by decide) (by decide) (by decide)).trans h3, (e 7 (by decide) (by decide) (by decide)).trans h4, h5, h6, h7, h8⟩
theorem OI.giv0 {G' : Nat} (h : OI Z G J A) (h1 : J' 24 = nI G') (e : ∀ i, i ≠ 0 → i ≠ 24 → i ≠ 26 → J' i = J i) : OI Z G' J' A := by
  obtain ⟨h0, -, u, R, E, h3, h4, h5, h6, h7, h8⟩ := h
  exact ⟨(e 1 (by decide) (by decide) (by decide)).trans h0, h1, u, R, E, (e 4 (by decide) (by decide) (by decide)).trans h3, (e 7 (by decide) (by decide) (by decide)).trans h4, h5, h6, h7, h8⟩
end LW
theorem wr_agree {ok : Int32 → Bool} {cap : Nat} {x : Int64} {k rC r t : Int32} {o : Int64} {Z Z1 Z2 : Nat} (hc : WrC ok cap x k Z Z1 rC o) (hm : WrM ok cap x k Z Z2 r t) : Z1 = Z2 ∧ t = rC ∧ (rC = 0 → o = r.toInt64) := by
  rcases hm with ⟨hk, rfl, rfl, rfl⟩ | ⟨M, hM, hM1, hM8, hm⟩
  · rcases hc with ⟨rfl, N, hN, hN1, hN8, -⟩ | ⟨rfl, hz, -⟩ | ⟨rfl, -, N, hN, hN1, hN8, -⟩
    · exact absurd hk (out18 hN hN1 hN8)
    · exact ⟨hz, rfl, fun h => absurd h (by decide)⟩
    · exact absurd hk (out18 hN hN1 hN8)
  · rw [allB_bm hM8] at hm
    have same : ∀ N : Nat, k = nI N → N ≤ 8 → N = M := fun N hN hN8 => (nI_eq (by omega) (by omega)).mp (hN.symm.trans hM)
    rcases hc with ⟨rfl, N, hN, hN1, hN8, ha, hr, hz, ho⟩ | ⟨rfl, hz, hk⟩ | ⟨rfl, hz, N, hN, hN1, hN8, ha, hr⟩
    · have e := same N hN hN8
      subst e
      rcases hm with ⟨h1, -⟩ | ⟨-, h2, -⟩ | ⟨-, -, h3, h4, h5⟩
      · rw [ha] at h1; cases h1
      · omega
      · exact ⟨by omega, h4, fun _ => by rw [ho, h3]⟩
    · have hf : allB (fun i => ok (by8 x (nI i))) M = false := by
        rcases hk with h | h | ⟨N, hN, hN1, hN8, hf⟩
        · exact absurd (Or.inl h) (out18 hM hM1 hM8)
        · exact absurd (Or.inr h) (out18 hM hM1 hM8)
        · have e := same N hN hN8
          subst e
          exact hf
      rcases hm with ⟨-, -, h3, h5⟩ | ⟨h1, -⟩ | ⟨h1, -⟩
      · exact ⟨by omega, h3, fun h => absurd h (by decide)⟩
      · rw [hf] at h1; cases h1
      · rw [hf] at h1; cases h1
    · have e := same N hN hN8
      subst e
      rcases hm with ⟨h1, -⟩ | ⟨-, -, -, h4, h5⟩ | ⟨-, h2, -⟩
      · rw [ha] at h1; cases h1
      · exact ⟨by omega, h4, fun h => absurd h (by decide)⟩
      · omega

def TW (f : Nat → Int32) (Z : Nat) (x : Int64) (f1 : Nat → Int32) (Z1 : Nat) : Prop := (Z1 = Z ∧ f1 = f) ∨ ∃ N : Nat, 1 ≤ N ∧ N ≤ 8 ∧ Z1 = Z + N ∧ f1 = apB f Z x N ∧ allB (fun i => okT (by8 x (nI i))) N = true
def TM (f : Nat → Int32) (Z : Nat) (x : Int64) (f1 : Nat → Int32) (Z1 : Nat) : Prop := (Z1 = Z ∧ f1 = f) ∨ ∃ N : Nat, 1 ≤ N ∧ N ≤ 8 ∧ Z1 = Z + N ∧ f1 = apM f Z x N
theorem tw_agree {f g f1 g1 : Nat → Int32} {Z Z1 : Nat} {x : Int64} (hf : ∀ k, k < Z → f k = g k) (h0 : ∀ k, k < Z → ¬ g k < 0) (hc : TW f Z x f1 Z1) (hm : TM g Z x g1 Z1) : (∀ k, k < Z1 → f1 k = g1 k) ∧ ∀ k, k < Z1 → ¬ g1 k < 0 := by
  rcases hc with ⟨c1, c2⟩ | ⟨N, n1, n8, c1, c2, ca⟩
  · rcases hm with ⟨m1, m2⟩ | ⟨M, k1, k8, m1, m2⟩
    · rw [c1, c2, m2]; exact ⟨hf, h0⟩
    · omega
  · rcases hm with ⟨m1, m2⟩ | ⟨M, k1, k8, m1, m2⟩
    · omega
    · have e : M = N := by omega
      subst e
      have key : ∀ k, k < Z1 → f1 k = g1 k ∧ ¬ g1 k < 0 := by
        intro k hk
        rw [c2, m2]
        unfold apB apM
        by_cases q : Z ≤ k ∧ k < Z + M
        · rw [if_pos q, if_pos q, bm_by x (by omega)]
          exact okT_cN (allB_at ca (show k - Z < M by omega))
        · rw [if_neg q, if_neg q]
          exact ⟨hf k (by omega), h0 k (by omega)⟩
      exact ⟨fun k hk => (key k hk).1, fun k hk => (key k hk).2⟩
theorem rd_lx {cy : Nat → ClassId} {ad : Nat → Nat} {Z G : Nat} {T : Nat → Int32} {A A2 : Ro} {nm n2 : Nat → Int64} {J2 : Nat → Int32} {mem9 : Nat → va_E} {r : Int32} (hc : (RdR T Z (lineF T Z 0) 0 0 0 A nm none ∧ ∃ lim rc ec, GI cy ad lim rc ec 0 mem9) ∨ ∃ (a' u' R' E' lim' : Nat) (A' : Ro) (nm' : Nat → Int64), RdR T Z (lineF T Z 0) 0 0 0 A nm (some (a', u', R', E', 0, A', nm', false)) ∧ GI cy ad lim' R' E' 1 mem9 ∧ NT R' (A' 227) nm' mem9) (hr : (RdR T Z (lineF T Z 0) 0 0 0 A nm none ∧ J2 4 = 0 ∧ J2 7 = 0) ∨ ∃ a' u' R' E' f', RdR T Z (lineF T Z 0) 0 0 0 A nm (some (a', u', R', E', f', A2, n2, false)) ∧ FinN Z G T a' u' R' E' J2 A2 ∧ r = nI R') : ∃ R E : Nat, J2 4 = nI R ∧ J2 7 = nI E ∧ GX cy ad R E (A2 227) n2 mem9 := by
  rcases hc with ⟨c1, c2⟩ | ⟨a1, u1, R1, E1, lim1, A1, n1, c1, c2, c3⟩
  · rcases hr with ⟨-, r2, r3⟩ | ⟨a2, u2, R2, E2, f2, r1, -⟩
    · exact ⟨0, 0, r2, r3, Or.inr ⟨rfl, rfl, c2⟩⟩
    · exact absurd (c1.det r1) (by intro z; cases z)
  · rcases hr with ⟨r1, -⟩ | ⟨a2, u2, R2, E2, f2, r1, r2, -⟩
    · exact absurd (c1.det r1) (by intro z; cases z)
    · have e := c1.det r1
      cases e
      exact ⟨_, _, r2.1.2.2.2.2.2.1, r2.1.2.2.2.2.2.2, Or.inl ⟨lim1, c2, c3⟩⟩

theorem KI.ofCY {cy : Nat → ClassId} {ad : Nat → Nat} {Z R E I : Nat} {Bw : Ro} {inp : Nat → Int32} {mem mem' : Nat → va_E} (h : KI cy ad Z mem) (hC : CY cy ad R E I Bw inp mem') (e : ∀ i, i ≠ 223 → i ≠ 242 → i < 20 ∨ 222 ≤ i → mem' i = mem i) : KI cy ad Z mem' := by
  obtain ⟨h0, ⟨f, h1, hz, h2⟩, -, -, ⟨a, t, h9⟩, -⟩ := h
  obtain ⟨lim, fl, g, hG, hE, hY, hc, hf⟩ := hC
  exact ⟨(e 0 (by omega) (by omega) (by omega)).trans h0, ⟨f, (e 1 (by omega) (by omega) (by omega)).trans h1, hz, (e 2 (by omega) (by omega) (by omega)).trans h2⟩, ⟨I, hY.ix⟩, ⟨lim, R, E, 1, hG⟩, ⟨a, t, (e 222 (by omega) (by omega) (by omega)).trans h9⟩, fl, hc⟩
def TWi (f : Nat → Int32) (Z : Nat) (x : Int64) (f1 : Nat → Int32) (Z1 : Nat) : Prop := (Z1 = Z ∧ f1 = f) ∨ ∃ N : Nat, 1 ≤ N ∧ N ≤ 8 ∧ Z1 = Z + N ∧ f1 = apB f Z x N ∧ allB (fun i => okI (by8 x (nI i))) N = true
theorem ti_agree {f f1 : Nat → Int32} {A A2 : Ro} {Z Z1 : Nat} {x : Int64} (h0 : II9 Z f A) (hc : TWi f Z x f1 Z1) (hm : TM (A 240) Z x (A2 240) Z1) : II9 Z1 f1 A2 := by
  rcases hc with ⟨c1, c2⟩ | ⟨N, n1, n8, c1, c2, ca⟩
  · rcases hm with ⟨m1, m2⟩ | ⟨M, k1, k8, m1, m2⟩
    · rw [c1, c2]; intro m hm; rw [m2]; exact h0 m hm
    · omega
  · rcases hm with ⟨m1, m2⟩ | ⟨M, k1, k8, m1, m2⟩
    · omega
    · have e : M = N := by omega
      subst e
      intro k hk
      rw [c2, m2]
      unfold apB apM
      by_cases q : Z ≤ k ∧ k < Z + M
      · rw [if_pos q, if_pos q, bm_by x (by omega)]
        exact okI_cN (allB_at (P := fun i => okI (by8 x (nI i))) ca (show k - Z < M by omega))
      · rw [if_neg q, if_neg q]
        exact h0 k (by omega)
theorem qy_of {cy : Nat → ClassId} {ad : Nat → Nat} {G R9 E9 : Nat} {inp J : Nat → Int32} {A : Ro} {to : Nat → Int32} {nm : Nat → Int64} {mem : Nat → va_E} (hg : J 4 = 0 ∨ ∃ (R E : Nat) (Bw : Ro), GY cy ad G inp J A mem R E Bw) (hX : GX cy ad R9 E9 to nm mem) (x4 : J 4 = nI R9) (hG : G ≤ 24) (hI : II9 G inp A) (hO : ∃ u R E : Nat, J 4 = nI R ∧ J 7 = nI E ∧ R ≤ 12 ∧ E ≤ 100 ∧ u ≤ 240 ∧ Gd R E u A) : ∃ (R E u : Nat) (Bw : Ro), (J 4 = nI R ∧ J 7 = nI E ∧ R ≤ 12 ∧ E ≤ 100 ∧ u ≤ 240 ∧ Gd R E u A) ∧ QY cy ad R E G Bw inp mem ∧ (0 < R → J 26 = 0 → Fx A G E (A 241) ∧ Lst A G E (A 241)) ∧ (∀ gR, Fx A G E gR → Lst A G E gR → ∀ r i, r < R → i ≤ G → (if A 227 r < 0 then 0 else gR (25 * (A 227 r).toNatClampNeg + i)) = VV Bw inp G E r i) ∧ (R = 0 ∨ GY cy ad G inp J A mem R E Bw) := by
  rcases hg with h0 | ⟨R, E, Bw, h⟩
  · obtain ⟨u, R, E, o4, o7, oR, oE, ou, oG⟩ := hO
    have e0 : R = 0 := (nI_eq (b := 0) (by omega) (by omega)).mp (o4.symm.trans h0)
    have b9 : R9 ≤ 12 := by rcases hX with ⟨_, z, _⟩ | ⟨z, _⟩; exact z.1.1; omega
    have e9 : R9 = 0 := (nI_eq (b := 0) (by omega) (by omega)).mp (x4.symm.trans h0)
    subst e0 e9
    refine ⟨0, E, u, fun _ _ => 0, ⟨o4, o7, oR, oE, ou, oG⟩, Or.inl ⟨rfl, ?_⟩, fun z => by omega, fun _ _ _ r i hr => by omega, Or.inl rfl⟩
    rcases hX with ⟨lim, hG', _⟩ | ⟨_, _, lim, rc, ec, hG'⟩
    · exact ⟨lim, 0, E9, 1, hG', Or.inr rfl⟩
    · exact ⟨lim, rc, ec, 0, hG', Or.inl rfl⟩
  · obtain ⟨w1, w2, w3, u, w4, w5⟩ := h.vv hG hI
    obtain ⟨g4, g7, hC, -⟩ := id h
    exact ⟨R, E, u, Bw, ⟨g4, g7, w1.1.2.2.2.2, w1.1.2.2.2.1, w4, w5⟩, Or.inr ⟨w1, hC⟩, fun _ => w3, w2, Or.inr h⟩
theorem ag_match {R G : Nat} {V : Nat → Nat → Int32} {x1 x2 x3 r9 t9 r : Int32} {o : Int64} (hR : R ≤ 12) (hG : G ≤ 24) (hc : (r9 = 0 ∧ ∃ r0 i0 j0 : Nat, (r0 < R ∧ i0 ≤ j0 ∧ j0 ≤ G ∧ x1 = nI r0 ∧ x2 = nI i0 ∧ x3 = nI j0) ∧ o = (if (V r0 i0 >>> (nI j0 &&& 31)) &&& 1 = 1 then 1 else 0)) ∨ (r9 = 1 ∧ ¬ RK R x1) ∨ (r9 = 2 ∧ RK R x1 ∧ ¬ PK G x2 x3)) (hm : (t9 = 1 ∧ ¬ RK R x1) ∨ (t9 = 2 ∧ RK R x1 ∧ ¬ PK G x2 x3) ∨ (t9 = 0 ∧ ∃ r0 i0 j0 : Nat, r0 < R ∧ i0 ≤ j0 ∧ j0 ≤ G ∧ x1 = nI r0 ∧ x2 = nI i0 ∧ x3 = nI j0 ∧ r = (if (V r0 i0 >>> (nI j0 &&& 31)) &&& 1 = 1 then 1 else 0))) : t9 = r9 ∧ (r9 = 0 → (o = 1 ∧ r = 1) ∨ (o = 0 ∧ r = 0)) := by
  rcases hc with ⟨c1, r0, i0, j0, ⟨d1, d2, d3, d4, d5, d6⟩, c3⟩ | ⟨c1, c2⟩ | ⟨c1, c2, c3⟩
  · rcases hm with ⟨m1, m2⟩ | ⟨m1, m2, m3⟩ | ⟨m1, r1, i1, j1, e1, e2, e3, e4, e5, e6, m3⟩
    · exact absurd ⟨r0, d1, d4⟩ m2
    · exact absurd ⟨i0, j0, d2, d3, d5, d6⟩ m3
    · obtain rfl : r0 = r1 := (nI_eq (by omega) (by omega)).mp (d4.symm.trans e4)
      obtain rfl : i0 = i1 := (nI_eq (by omega) (by omega)).mp (d5.symm.trans e5)
      obtain rfl : j0 = j1 := (nI_eq (by omega) (by omega)).mp (d6.symm.trans e6)
      refine ⟨by rw [m1, c1], fun _ => ?_⟩
      by_cases q : (V r0 i0 >>> (nI j0 &&& 31)) &&& 1 = 1
      · rw [if_pos q] at c3 m3; exact Or.inl ⟨c3, m3⟩
      · rw [if_neg q] at c3 m3; exact Or.inr ⟨c3, m3⟩
  · rcases hm with ⟨m1, m2⟩ | ⟨m1, m2, m3⟩ | ⟨m1, r1, i1, j1, e1, e2, e3, e4, e5, e6, m3⟩
    · exact ⟨by rw [m1, c1], fun z => by rw [c1] at z; exact absurd z (by decide)⟩
    · exact absurd m2 c2
    · exact absurd ⟨r1, e1, e4⟩ c2
  · rcases hm with ⟨m1, m2⟩ | ⟨m1, m2, m3⟩ | ⟨m1, r1, i1, j1, e1, e2, e3, e4, e5, e6, m3⟩
    · exact absurd c2 m2
    · exact ⟨by rw [m1, c1], fun z => by rw [c1] at z; exact absurd z (by decide)⟩
    · exact absurd ⟨i1, j1, e2, e3, e5, e6⟩ c3
theorem ag_long {R G : Nat} {V : Nat → Nat → Int32} {x1 x2 r9 t9 r : Int32} {o : Int64} (hR : R ≤ 12) (hG : G ≤ 24) (hc : (r9 = 0 ∧ ∃ r0 i0 : Nat, (r0 < R ∧ i0 ≤ G ∧ x1 = nI r0 ∧ x2 = nI i0) ∧ ∃ v : Int32, MX (V r0 i0) i0 G v ∧ o = v.toInt64) ∨ (r9 = 1 ∧ ¬ RK R x1) ∨ (r9 = 2 ∧ RK R x1 ∧ ¬ PK G x2 x2)) (hm : (t9 = 1 ∧ ¬ RK R x1) ∨ (t9 = 2 ∧ RK R x1 ∧ ¬ PK G x2 x2) ∨ (t9 = 0 ∧ ∃ r0 i0 : Nat, r0 < R ∧ i0 ≤ G ∧ x1 = nI r0 ∧ x2 = nI i0 ∧ MX (V r0 i0) i0 G r)) : True ∧ t9 = r9 ∧ (r9 = 0 → o = r.toInt64) := by
  refine ⟨trivial, ?_⟩
  rcases hc with ⟨c1, r0, i0, ⟨d1, d2, d3, d4⟩, v, c2, c3⟩ | ⟨c1, c2⟩ | ⟨c1, c2, c3⟩
  · rcases hm with ⟨m1, m2⟩ | ⟨m1, m2, m3⟩ | ⟨m1, r1, i1, e1, e2, e3, e4, m3⟩
    · exact absurd ⟨r0, d1, d3⟩ m2
    · exact absurd ⟨i0, i0, Nat.le_refl _, d2, d4, d4⟩ m3
    · obtain rfl : r0 = r1 := (nI_eq (by omega) (by omega)).mp (d3.symm.trans e3)
      obtain rfl : i0 = i1 := (nI_eq (by omega) (by omega)).mp (d4.symm.trans e4)
      exact ⟨by rw [m1, c1], fun _ => by rw [c3, c2.one m3]⟩
  · rcases hm with ⟨m1, m2⟩ | ⟨m1, m2, m3⟩ | ⟨m1, r1, i1, e1, e2, e3, e4, m3⟩
    · exact ⟨by rw [m1, c1], fun z => by rw [c1] at z; exact absurd z (by decide)⟩
    · exact absurd m2 c2
    · exact absurd ⟨r1, e1, e3⟩ c2
  · rcases hm with ⟨m1, m2⟩ | ⟨m1, m2, m3⟩ | ⟨m1, r1, i1, e1, e2, e3, e4, m3⟩
    · exact absurd c2 m2
    · exact ⟨by rw [m1, c1], fun z => by rw [c1] at z; exact absurd z (by decide)⟩
    · exact absurd ⟨i1, i1, Nat.le_refl _, e2, e4, e4⟩ c3
/-- behind a question -/
theorem LY.ask {cy : Nat → ClassId} {ad : Nat → Nat} {G R E : Nat} {inp J J2 : Nat → Int32} {A A2 Bw : Ro} {mem mem9 : Nat → va_E} (hI : II9 G inp A) (h4 : J 4 = nI R) (hY : IY cy ad G inp mem9) (hg : R = 0 ∨ GY cy ad G inp J A mem R E Bw) (hC : CY cy ad R E G Bw inp mem9 ∨ ∀ i, i ≠ 242 → mem9 i = mem i) (hj : ∀ i, i ≠ 0 → i ≠ 26 → J2 i = J i) (ha : ∀ j, j ≠ 241 → A2 j = A j) (hx : 0 < R → J2 26 = 0 → Fx A G E (A2 241) ∧ Lst A G E (A2 241)) : LY cy ad G J2 A2 mem9 := by
  refine ⟨inp, hY, fun m hm => by rw [ha 240 (by decide)]; exact hI m hm, ?_⟩
  rcases hg with e | h
  · subst e
    exact Or.inl ((hj 4 (by decide) (by decide)).trans h4)
  · by_cases q : R = 0
    · subst q
      exact Or.inl ((hj 4 (by decide) (by decide)).trans h4)
    · refine Or.inr ⟨R, E, Bw, h.ask ?_ hj ha (hx (by omega))⟩
      rcases hC with hC | hC
      · exact hC
      · exact h.2.2.1.fr (fun i q1 q2 => hC i (by omega))

set_option maxHeartbeats 4000000 in
set_option maxRecDepth 100000 in
theorem k_read {p : Program} {e : Env} {s : State} {m : MethodId} {below : List Frame} {meth : Method} {c : Code} (l : Launch) {D : va_G} {cy : Nat → ClassId} {sz n b t L Z G : Nat} {ad : Nat → Nat} {mem : Nat → va_E} {xs : Nat → Int32} {H : Heap} {locs : List Loc} {ls : Array Slot} {Q : State → Prop} (hlt : l.stackTraces = false) (Bx : MB p s m #[Value.ref b] c c_Lw_law "AbnfChartLaw" D cy) (hml : c.maxLocals = 7) (E : EV D cy sz s) (hn : 243 ≤ n) (hX : va_X b L xs s s.heap) (hbl : b < s.heap.size) (hbA : ¬ Az sz b) (htt : t < 512) (hLb : 4 * t + 4 ≤ L ∧ L ≤ 2048) (hI : LIv cy ad Z G mem) (hP : va_P D vcl (fw n ad mem) H) (hD : va_D (Az sz) (fw n ad mem)) (hS : va_S (Az sz) s.heap H locs) (hl : lv_has ls 7 [(4, .int (nI (4 * t))), (3, .ref (ad 242)), (2, .ref (ad 224)), (1, .ref (ad 0)), (0, .ref (b))])
    (K : ∀ (Z G : Nat) (mem : Nat → va_E) (ls : Array Slot) (H : Heap) (locs : List Loc), LIv cy ad Z G mem → va_P D vcl (fw n ad mem) H → va_D (Az sz) (fw n ad mem) → va_S (Az sz) s.heap H locs → lv_has ls 7 [(4, .int (nI (4 * t))), (3, .ref (ad 242)), (2, .ref (ad 224)), (1, .ref (ad 0)), (0, .ref (b))] → W p l e room_1 s m #[Value.ref b] below meth c H locs (243 + t + 1) (7734 + 6 * t + 6) Q (F0 m 531 ls [])) : W p l e room_1 s m #[Value.ref b] below meth c H locs (243 + t) (7734 + 6 * t) Q (F0 m 181 ls []) := by
  obtain ⟨hK, g3, hO, J, A, nm, hM, hOI, hGb, hLX, hLY⟩ := hI
  have hng : NoG mem := NoG.of hM.1
  obtain ⟨inp, hYi, hIi, hgy⟩ := id hLY
  obtain ⟨⟨fx, hTf, hfx⟩, hT0, R9, E9, x4, x7, hGX⟩ := id hLX
  obtain ⟨ou, ho⟩ := id hO
  obtain ⟨h0, ⟨f, hTx⟩, ⟨I, hIx⟩, ⟨lim, rc, ec, wh, hG⟩, ⟨at0, ft, h9⟩, fl, hc⟩ := id hK
  obtain ⟨g1, g24, u, R, Ec, g4, g7, gR, gE, gu, gG⟩ := id hOI
  have hZ := hTx.2.1
  obtain rfl := in_same hIx.2.1 hGb hIx.1 g3
  refine lv_aload_n Bx.1 Bx.2.1 d_Lw_law_181 rfl (lv_at hl 3 rfl) ?_
  refine lv_aload_n Bx.1 Bx.2.1 d_Lw_law_182 rfl (lv_at hl 1 rfl) ?_
  refine f_callL (na := 2) (As := [.ref (ad 0), .ref (ad 242)]) (rest := []) Bx hml E hP hD hS (m_Lw_read l hlt hn ho hK hTf hfx hT0 (A := A) (nm := nm)) kw_321 kw_322 kw_0 kw_323 (by decide +kernel) ⟨rfl, rfl⟩ ⟨Nat.le_of_ble_eq_true rfl, Nat.le_of_ble_eq_true rfl⟩ rfl hl.1 (Nat.le_of_ble_eq_true rfl) d_Lw_law_183 ⟨(show 243 + t + 1 ≤ 601024 by omega), (show 7734 + 6 * t + 6 ≤ 7293034 by omega)⟩ (fun r9 mem9 H locs hq hP hS => ?_)
  have hD : va_D (Az sz) (fw n ad mem9) := fw_D hD
  obtain ⟨hK9, hO9, hf9, hc9, hcs9⟩ := hq
  have hM9 : MW cy ad J A nm mem9 mem9 := hM.mv (fun i q1 q2 => hf9 i (by omega))
  have h39 := (hf9 3 (by omega)).trans g3
  refine lv_istore (lv' := [(5, .int (r9)), (4, .int (nI (4 * t))), (3, .ref (ad 242)), (2, .ref (ad 224)), (1, .ref (ad 0)), (0, .ref (b))]) Bx.1 Bx.2.1 d_Lw_law_186 hl (by decide) rfl (fun ls hl => ?_)
  refine lv_aload_n Bx.1 Bx.2.1 d_Lw_law_188 rfl (lv_at hl 3 rfl) ?_
  refine f_callVi (na := 0) (As := []) (rest := []) Bx hml E hP hD hS (by omega) hM9.1 rfl (m_Mo_readX l (by omega) hM9 g1 hZ g24 rfl rfl (NoG.of hM9.1)) kw_766 kw_767 kw_768 kw_8 kw_769 (by decide +kernel) ⟨rfl, rfl⟩ ⟨Nat.le_of_ble_eq_true rfl, Nat.le_of_ble_eq_true rfl⟩ rfl hl.1 (Nat.le_of_ble_eq_true rfl) d_Lw_law_189 ⟨(show 243 + t + 1 ≤ 601024 by omega), (show 7734 + 6 * t + 6 ≤ 7293034 by omega)⟩ (fun r1 mem2 H locs hq2 hP hS => ?_)
  have hD : va_D (Az sz) (fw n ad mem2) := fw_D hD
  obtain ⟨J2, A2, n2, hM2, hOI2, hA5, ⟨h26, hA40⟩, hrs9⟩ := hq2
  have hcs8 : (RdR (A 225) Z (lineF (A 225) Z 0) 0 0 0 A nm none ∧ ∃ lim rc ec, GI cy ad lim rc ec 0 mem9) ∨ ∃ (a' u' R' E' lim' : Nat) (A' : Ro) (nm' : Nat → Int64), RdR (A 225) Z (lineF (A 225) Z 0) 0 0 0 A nm (some (a', u', R', E', 0, A', nm', false)) ∧ GI cy ad lim' R' E' 1 mem9 ∧ NT R' (A' 227) nm' mem9 := by
    rcases hcs9 with z | ⟨a, u, R, E, lim, S, A', Bw, fi, la, nm', z1, z2, z3, -⟩
    · exact Or.inl z
    · exact Or.inr ⟨a, u, R, E, lim, A', nm', z1, z2, z3⟩
  have hLX9 : LX cy ad Z J2 A2 n2 mem9 := ⟨⟨fx, hTf.fr (fun i hi => hf9 i (by omega)), by rw [hA5]; exact hfx⟩, by rw [hA5]; exact hT0, rd_lx hcs8 hrs9⟩
  have hLY9 : LY cy ad I J2 A2 mem9 := rd_ly hcs9 hrs9 (hYi.fr (fun i hi => hf9 i (by omega))) hIi hA40 h26 hc9
  refine lv_istore (lv' := [(6, .int (r1)), (5, .int (r9)), (4, .int (nI (4 * t))), (3, .ref (ad 242)), (2, .ref (ad 224)), (1, .ref (ad 0)), (0, .ref (b))]) Bx.1 Bx.2.1 d_Lw_law_192 hl (by decide) rfl (fun ls hl => ?_)
  refine lv_goto Bx.1 Bx.2.1 d_Lw_law_194 rfl ?_
  exact (K (Z) (I) mem2 _ _ _ (LIv.of hK9 h39 hO9 hM2 hOI2 hGb hLX9 hLY9) hP hD hS (lv_sub hl [2, 3, 4, 5, 6] rfl))
set_option maxHeartbeats 4000000 in
set_option maxRecDepth 100000 in
theorem k_rule {p : Program} {e : Env} {s : State} {m : MethodId} {below : List Frame} {meth : Method} {c : Code} (l : Launch) {D : va_G} {cy : Nat → ClassId} {sz n b t L Z G : Nat} {ad : Nat → Nat} {mem : Nat → va_E} {xs : Nat → Int32} {H : Heap} {locs : List Loc} {ls : Array Slot} {Q : State → Prop} (hlt : l.stackTraces = false) (Bx : MB p s m #[Value.ref b] c c_Lw_law "AbnfChartLaw" D cy) (hml : c.maxLocals = 7) (E : EV D cy sz s) (hn : 243 ≤ n) (hX : va_X b L xs s s.heap) (hbl : b < s.heap.size) (hbA : ¬ Az sz b) (htt : t < 512) (hLb : 4 * t + 4 ≤ L ∧ L ≤ 2048) (hI : LIv cy ad Z G mem) (hP : va_P D vcl (fw n ad mem) H) (hD : va_D (Az sz) (fw n ad mem)) (hS : va_S (Az sz) s.heap H locs) (hl : lv_has ls 7 [(4, .int (nI (4 * t))), (3, .ref (ad 242)), (2, .ref (ad 224)), (1, .ref (ad 0)), (0, .ref (b))])
    (K : ∀ (Z G : Nat) (mem : Nat → va_E) (ls : Array Slot) (H : Heap) (locs : List Loc), LIv cy ad Z G mem → va_P D vcl (fw n ad mem) H → va_D (Az sz) (fw n ad mem) → va_S (Az sz) s.heap H locs → lv_has ls 7 [(4, .int (nI (4 * t))), (3, .ref (ad 242)), (2, .ref (ad 224)), (1, .ref (ad 0)), (0, .ref (b))] → W p l e room_1 s m #[Value.ref b] below meth c H locs (243 + t + 1) (7734 + 6 * t + 6) Q (F0 m 531 ls [])) : W p l e room_1 s m #[Value.ref b] below meth c H locs (243 + t) (7734 + 6 * t) Q (F0 m 210 ls []) := by
  obtain ⟨hK, g3, hO, J, A, nm, hM, hOI, hGb, hLX, hLY⟩ := hI
  have hng : NoG mem := NoG.of hM.1
  obtain ⟨inp, hYi, hIi, hgy⟩ := id hLY
  obtain ⟨⟨fx, hTf, hfx⟩, hT0, R9, E9, x4, x7, hGX⟩ := id hLX
  obtain ⟨ou, ho⟩ := id hO
  obtain ⟨h0, ⟨f, hTx⟩, ⟨I, hIx⟩, ⟨lim, rc, ec, wh, hG⟩, ⟨at0, ft, h9⟩, fl, hc⟩ := id hK
  obtain ⟨g1, g24, u, R, Ec, g4, g7, gR, gE, gu, gG⟩ := id hOI
  have hZ := hTx.2.1
  obtain rfl := in_same hIx.2.1 hGb hIx.1 g3
  refine lv_aload_n Bx.1 Bx.2.1 d_Lw_law_210 rfl (lv_at hl 3 rfl) ?_
  refine lv_aload_n Bx.1 Bx.2.1 d_Lw_law_211 rfl (lv_at hl 4 rfl) ?_
  refine lv_iload Bx.1 Bx.2.1 d_Lw_law_212 (lv_at hl 0 rfl) ?_
  refine lv_iconst (v := 1) Bx.1 Bx.2.1 d_Lw_law_214 (by decide) ?_
  refine lv_iadd Bx.1 Bx.2.1 d_Lw_law_215 ?_
  refine f_sld Bx.1 Bx.2.1 hX hbl hbA hS (4 * t + 1) (nI_add (4 * t) 1) (by omega) (by omega) d_Lw_law_216 ?_
  refine lv_i2l Bx.1 Bx.2.1 d_Lw_law_217 rfl ?_
  refine lv_bipush (v := 32) Bx.1 Bx.2.1 d_Lw_law_218 (by decide) ?_
  refine lv_lshl Bx.1 Bx.2.1 d_Lw_law_220 rfl ?_
  refine lv_aload_n Bx.1 Bx.2.1 d_Lw_law_221 rfl (lv_at hl 4 rfl) ?_
  refine lv_iload Bx.1 Bx.2.1 d_Lw_law_222 (lv_at hl 0 rfl) ?_
  refine lv_iconst (v := 2) Bx.1 Bx.2.1 d_Lw_law_224 (by decide) ?_
  refine lv_iadd Bx.1 Bx.2.1 d_Lw_law_225 ?_
  refine f_sld Bx.1 Bx.2.1 hX hbl hbA hS (4 * t + 2) (nI_add (4 * t) 2) (by omega) (by omega) d_Lw_law_226 ?_
  refine lv_i2l Bx.1 Bx.2.1 d_Lw_law_227 rfl ?_
  refine lv_ldc2 Bx.1 Bx.2.1 Bx.2.2.2.1 (Bx.2.2.1 _ (tb_g kw_914 rfl)) d_Lw_law_228 ?_
  refine lv_land Bx.1 Bx.2.1 d_Lw_law_231 ?_
  refine lv_lor Bx.1 Bx.2.1 d_Lw_law_232 ?_
  refine lv_aload_n Bx.1 Bx.2.1 d_Lw_law_233 rfl (lv_at hl 1 rfl) ?_
  refine f_callL (na := 3) (As := [.ref (ad 0), .long (((xs (4 * t + 1)).toInt64) <<< ((32 : Int32).toInt64 &&& 63) ||| (xs (4 * t + 2)).toInt64 &&& 4294967295), .ref (ad 242)]) (rest := []) Bx hml E hP hD hS (m_Lw_rule l hlt hn ho h0 hGX) kw_502 kw_503 kw_0 kw_504 (by decide +kernel) ⟨rfl, rfl⟩ ⟨Nat.le_of_ble_eq_true rfl, Nat.le_of_ble_eq_true rfl⟩ rfl hl.1 (Nat.le_of_ble_eq_true rfl) d_Lw_law_234 ⟨(show 243 + t + 1 ≤ 601024 by omega), (show 7734 + 6 * t + 6 ≤ 7293034 by omega)⟩ (fun r9 mem9 H locs hq hP hS => ?_)
  have hD : va_D (Az sz) (fw n ad mem9) := fw_D hD
  have hA : ∃ ou9 : Nat → Int64, KI cy ad Z mem9 ∧ mem9 242 = .inl (cy 2, 1, .inr (.inl ou9)) ∧ (∀ i, i ≠ 242 → mem9 i = mem i) ∧ ((r9 = 0 ∧ ∃ i, fdF nm (((xs (4 * t + 1)).toInt64) <<< ((32 : Int32).toInt64 &&& 63) ||| (xs (4 * t + 2)).toInt64 &&& 4294967295) R9 = some i ∧ ou9 0 = (nI i).toInt64) ∨ (r9 = 1 ∧ fdF nm (((xs (4 * t + 1)).toInt64) <<< ((32 : Int32).toInt64 &&& 63) ||| (xs (4 * t + 2)).toInt64 &&& 4294967295) R9 = none)) := by
    rcases hq with ⟨hr, i, ou1, hfs, ho1, hm9⟩ | ⟨hr, hfn, hm9⟩
    · exact ⟨ou1, by rw [hm9]; exact hK.out, by rw [hm9, va_up_self], fun i q => by rw [hm9, va_up_ne _ _ q], Or.inl ⟨hr, i, hfs, ho1⟩⟩
    · exact ⟨ou, by rw [hm9]; exact hK, by rw [hm9]; exact ho, fun i _ => by rw [hm9], Or.inr ⟨hr, hfn⟩⟩
  obtain ⟨ou9, hK9, ho9, hf9, hcl⟩ := hA
  have h39 := (hf9 3 (by decide)).trans g3
  have hO9 : LO cy mem9 := ⟨ou9, ho9⟩
  have hM9 : MW cy ad J A nm mem9 mem9 := hM.mv (fun i q1 q2 => hf9 i (by omega))
  have hRb9 : R9 ≤ 12 := by rcases hGX with ⟨_, z, _⟩ | ⟨z, _⟩; exact z.1.1; omega
  refine lv_istore (lv' := [(5, .int (r9)), (4, .int (nI (4 * t))), (3, .ref (ad 242)), (2, .ref (ad 224)), (1, .ref (ad 0)), (0, .ref (b))]) Bx.1 Bx.2.1 d_Lw_law_237 hl (by decide) rfl (fun ls hl => ?_)
  refine lv_aload_n Bx.1 Bx.2.1 d_Lw_law_239 rfl (lv_at hl 3 rfl) ?_
  refine lv_aload_n Bx.1 Bx.2.1 d_Lw_law_240 rfl (lv_at hl 5 rfl) ?_
  refine lv_iload Bx.1 Bx.2.1 d_Lw_law_241 (lv_at hl 1 rfl) ?_
  refine lv_iconst (v := 1) Bx.1 Bx.2.1 d_Lw_law_243 (by decide) ?_
  refine lv_iadd Bx.1 Bx.2.1 d_Lw_law_244 ?_
  refine f_sld Bx.1 Bx.2.1 hX hbl hbA hS (4 * t + 1) (nI_add (4 * t) 1) (by omega) (by omega) d_Lw_law_245 ?_
  refine lv_i2l Bx.1 Bx.2.1 d_Lw_law_246 rfl ?_
  refine lv_bipush (v := 32) Bx.1 Bx.2.1 d_Lw_law_247 (by decide) ?_
  refine lv_lshl Bx.1 Bx.2.1 d_Lw_law_249 rfl ?_
  refine lv_aload_n Bx.1 Bx.2.1 d_Lw_law_250 rfl (lv_at hl 5 rfl) ?_
  refine lv_iload Bx.1 Bx.2.1 d_Lw_law_251 (lv_at hl 1 rfl) ?_
  refine lv_iconst (v := 2) Bx.1 Bx.2.1 d_Lw_law_253 (by decide) ?_
  refine lv_iadd Bx.1 Bx.2.1 d_Lw_law_254 ?_
  refine f_sld Bx.1 Bx.2.1 hX hbl hbA hS (4 * t + 2) (nI_add (4 * t) 2) (by omega) (by omega) d_Lw_law_255 ?_
  refine lv_i2l Bx.1 Bx.2.1 d_Lw_law_256 rfl ?_
  refine lv_ldc2 Bx.1 Bx.2.1 Bx.2.2.2.1 (Bx.2.2.1 _ (tb_g kw_914 rfl)) d_Lw_law_257 ?_
  refine lv_land Bx.1 Bx.2.1 d_Lw_law_260 ?_
  refine lv_lor Bx.1 Bx.2.1 d_Lw_law_261 ?_
  refine f_callVi (na := 1) (As := [.long (((xs (4 * t + 1)).toInt64) <<< ((32 : Int32).toInt64 &&& 63) ||| (xs (4 * t + 2)).toInt64 &&& 4294967295)]) (rest := []) Bx hml E hP hD hS (by omega) hM9.1 rfl (m_Mo_ruleX l (by omega) hM9 x4 hRb9) kw_861 kw_862 kw_863 kw_8 kw_864 (by decide +kernel) ⟨rfl, rfl⟩ ⟨Nat.le_of_ble_eq_true rfl, Nat.le_of_ble_eq_true rfl⟩ rfl hl.1 (Nat.le_of_ble_eq_true rfl) d_Lw_law_262 ⟨(show 243 + t + 1 ≤ 601024 by omega), (show 7734 + 6 * t + 6 ≤ 7293034 by omega)⟩ (fun r1 mem2 H locs hq2 hP hS => ?_)
  have hD : va_D (Az sz) (fw n ad mem2) := fw_D hD
  obtain ⟨J2, hM2, hj2, hcm⟩ := hq2
  have hOI2 : OI Z I J2 A := hOI.keep (fun i q1 _ => hj2 i q1) (fun _ _ => rfl)
  have hag : True ∧ J2 0 = r9 ∧ (r9 = 0 → ou9 0 = (r1).toInt64) := by
    refine ⟨trivial, ?_⟩
    rcases hcl with ⟨c1, i, c2, c3⟩ | ⟨c1, c2⟩
    · rcases hcm with ⟨k, m1, m2, m3⟩ | ⟨m1, m2⟩
      · rw [c2] at m1
        cases m1
        exact ⟨by rw [m3, c1], fun _ => by rw [c3, m2]⟩
      · rw [c2] at m1; cases m1
    · rcases hcm with ⟨k, m1, m2, m3⟩ | ⟨m1, m2⟩
      · rw [c2] at m1; cases m1
      · exact ⟨by rw [m2, c1], fun z => by rw [c1] at z; exact absurd z (by decide)⟩
  refine lv_istore (lv' := [(6, .int (r1)), (5, .int (r9)), (4, .int (nI (4 * t))), (3, .ref (ad 242)), (2, .ref (ad 224)), (1, .ref (ad 0)), (0, .ref (b))]) Bx.1 Bx.2.1 d_Lw_law_265 hl (by decide) rfl (fun ls hl => ?_)
  refine lv_goto Bx.1 Bx.2.1 d_Lw_law_267 rfl ?_
  exact (K (Z) (I) mem2 _ _ _ (LIv.of hK9 h39 hO9 hM2 hOI2 hGb (hLX.qu hK9 (fun i hi => hf9 i (by omega)) (fun i q1 _ => hj2 i q1) (fun _ _ => rfl)) (hLY.fr (fun i q1 q2 => hf9 i (by omega)) (hj2 4 (by decide)) (hj2 7 (by decide)) (hj2 26 (by decide)) (fun _ _ => rfl))) hP hD hS (lv_sub hl [2, 3, 4, 5, 6] rfl))
set_option maxHeartbeats 4000000 in
set_option maxRecDepth 100000 in
theorem k_matches {p : Program} {e : Env} {s : State} {m : MethodId} {below : List Frame} {meth : Method} {c : Code} (l : Launch) {D : va_G} {cy : Nat → ClassId} {sz n b t L Z G : Nat} {ad : Nat → Nat} {mem : Nat → va_E} {xs : Nat → Int32} {H : Heap} {locs : List Loc} {ls : Array Slot} {Q : State → Prop} (hlt : l.stackTraces = false) (Bx : MB p s m #[Value.ref b] c c_Lw_law "AbnfChartLaw" D cy) (hml : c.maxLocals = 7) (E : EV D cy sz s) (hn : 243 ≤ n) (hX : va_X b L xs s s.heap) (hbl : b < s.heap.size) (hbA : ¬ Az sz b) (htt : t < 512) (hLb : 4 * t + 4 ≤ L ∧ L ≤ 2048) (hI : LIv cy ad Z G mem) (hP : va_P D vcl (fw n ad mem) H) (hD : va_D (Az sz) (fw n ad mem)) (hS : va_S (Az sz) s.heap H locs) (hl : lv_has ls 7 [(4, .int (nI (4 * t))), (3, .ref (ad 242)), (2, .ref (ad 224)), (1, .ref (ad 0)), (0, .ref (b))])
    (K : ∀ (Z G : Nat) (mem : Nat → va_E) (ls : Array Slot) (H : Heap) (locs : List Loc), LIv cy ad Z G mem → va_P D vcl (fw n ad mem) H → va_D (Az sz) (fw n ad mem) → va_S (Az sz) s.heap H locs → lv_has ls 7 [(4, .int (nI (4 * t))), (3, .ref (ad 242)), (2, .ref (ad 224)), (1, .ref (ad 0)), (0, .ref (b))] → W p l e room_1 s m #[Value.ref b] below meth c H locs (243 + t + 1) (7734 + 6 * t + 6) Q (F0 m 531 ls [])) : W p l e room_1 s m #[Value.ref b] below meth c H locs (243 + t) (7734 + 6 * t) Q (F0 m 355 ls []) := by
  obtain ⟨hK, g3, hO, J, A, nm, hM, hOI, hGb, hLX, hLY⟩ := hI
  have hng : NoG mem := NoG.of hM.1
  obtain ⟨inp, hYi, hIi, hgy⟩ := id hLY
  obtain ⟨⟨fx, hTf, hfx⟩, hT0, R9, E9, x4, x7, hGX⟩ := id hLX
  obtain ⟨ou, ho⟩ := id hO
  obtain ⟨h0, ⟨f, hTx⟩, ⟨I, hIx⟩, ⟨lim, rc, ec, wh, hG⟩, ⟨at0, ft, h9⟩, fl, hc⟩ := id hK
  obtain ⟨g1, g24, u, R, Ec, g4, g7, gR, gE, gu, gG⟩ := id hOI
  have hZ := hTx.2.1
  obtain rfl := in_same hIx.2.1 hGb hIx.1 g3
  obtain ⟨R8, E8, u8, Bw, ⟨q4, q7, qR, qE, qu, qG⟩, hQ, hx8, hV8, hgg⟩ := qy_of hgy hGX x4 hGb hIi ⟨u, R, Ec, g4, g7, gR, gE, gu, gG⟩
  refine lv_aload_n Bx.1 Bx.2.1 d_Lw_law_355 rfl (lv_at hl 3 rfl) ?_
  refine lv_aload_n Bx.1 Bx.2.1 d_Lw_law_356 rfl (lv_at hl 4 rfl) ?_
  refine lv_iload Bx.1 Bx.2.1 d_Lw_law_357 (lv_at hl 0 rfl) ?_
  refine lv_iconst (v := 1) Bx.1 Bx.2.1 d_Lw_law_359 (by decide) ?_
  refine lv_iadd Bx.1 Bx.2.1 d_Lw_law_360 ?_
  refine f_sld Bx.1 Bx.2.1 hX hbl hbA hS (4 * t + 1) (nI_add (4 * t) 1) (by omega) (by omega) d_Lw_law_361 ?_
  refine lv_aload_n Bx.1 Bx.2.1 d_Lw_law_362 rfl (lv_at hl 4 rfl) ?_
  refine lv_iload Bx.1 Bx.2.1 d_Lw_law_363 (lv_at hl 0 rfl) ?_
  refine lv_iconst (v := 2) Bx.1 Bx.2.1 d_Lw_law_365 (by decide) ?_
  refine lv_iadd Bx.1 Bx.2.1 d_Lw_law_366 ?_
  refine f_sld Bx.1 Bx.2.1 hX hbl hbA hS (4 * t + 2) (nI_add (4 * t) 2) (by omega) (by omega) d_Lw_law_367 ?_
  refine lv_aload_n Bx.1 Bx.2.1 d_Lw_law_368 rfl (lv_at hl 4 rfl) ?_
  refine lv_iload Bx.1 Bx.2.1 d_Lw_law_369 (lv_at hl 0 rfl) ?_
  refine lv_iconst (v := 3) Bx.1 Bx.2.1 d_Lw_law_371 (by decide) ?_
  refine lv_iadd Bx.1 Bx.2.1 d_Lw_law_372 ?_
  refine f_sld Bx.1 Bx.2.1 hX hbl hbA hS (4 * t + 3) (nI_add (4 * t) 3) (by omega) (by omega) d_Lw_law_373 ?_
  refine lv_aload_n Bx.1 Bx.2.1 d_Lw_law_374 rfl (lv_at hl 1 rfl) ?_
  refine f_callL (na := 5) (As := [.ref (ad 0), .int (xs (4 * t + 1)), .int (xs (4 * t + 2)), .int (xs (4 * t + 3)), .ref (ad 242)]) (rest := []) Bx hml E hP hD hS (m_Lw_matches l hlt hn ho h0 hYi hQ) kw_540 kw_541 kw_0 kw_542 (by decide +kernel) ⟨rfl, rfl⟩ ⟨Nat.le_of_ble_eq_true rfl, Nat.le_of_ble_eq_true rfl⟩ rfl hl.1 (Nat.le_of_ble_eq_true rfl) d_Lw_law_375 ⟨(show 243 + t + 1 ≤ 601024 by omega), (show 7734 + 6 * t + 6 ≤ 7293034 by omega)⟩ (fun r9 mem9 H locs hq hP hS => ?_)
  have hD : va_D (Az sz) (fw n ad mem9) := fw_D hD
  have hA : ∃ ou9 : Nat → Int64, KI cy ad Z mem9 ∧ mem9 242 = .inl (cy 2, 1, .inr (.inl ou9)) ∧ (∀ i, i ≠ 223 → i ≠ 242 → i < 20 ∨ 222 ≤ i → mem9 i = mem i) ∧ IY cy ad I inp mem9 ∧ (CY cy ad R8 E8 I Bw inp mem9 ∨ ∀ i, i ≠ 242 → mem9 i = mem i) ∧ ((r9 = 0 ∧ ∃ r0 i0 j0 : Nat, (r0 < R8 ∧ i0 ≤ j0 ∧ j0 ≤ I ∧ (xs (4 * t + 1)) = nI r0 ∧ (xs (4 * t + 2)) = nI i0 ∧ (xs (4 * t + 3)) = nI j0) ∧ ou9 0 = (if (VV Bw inp I E8 r0 i0 >>> (nI j0 &&& 31)) &&& 1 = 1 then 1 else 0)) ∨ (r9 = 1 ∧ ¬ RK R8 (xs (4 * t + 1))) ∨ (r9 = 2 ∧ RK R8 (xs (4 * t + 1)) ∧ ¬ PK I (xs (4 * t + 2)) (xs (4 * t + 3)))) := by
    rcases hq with ⟨hr, r0, i0, j0, ou1, hC1, hf1, ho1, hv1⟩ | ⟨hr, hm9, hk9⟩ | ⟨hr, hm9, hk9, hp9⟩
    · exact ⟨ou1, hK.ofCY hC1 hf1, ho1, hf1, hYi.fr (fun i hi => hf1 i (by omega) (by omega) (by omega)), Or.inl hC1, Or.inl ⟨hr, r0, i0, j0, hv1⟩⟩
    · exact ⟨ou, by rw [hm9]; exact hK, by rw [hm9]; exact ho, fun i _ _ _ => by rw [hm9], by rw [hm9]; exact hYi, Or.inr (fun i _ => by rw [hm9]), Or.inr (Or.inl ⟨hr, hk9⟩)⟩
    · exact ⟨ou, by rw [hm9]; exact hK, by rw [hm9]; exact ho, fun i _ _ _ => by rw [hm9], by rw [hm9]; exact hYi, Or.inr (fun i _ => by rw [hm9]), Or.inr (Or.inr ⟨hr, hk9, hp9⟩)⟩
  obtain ⟨ou9, hK9, ho9, hf9, hY9, hC9, hcl⟩ := hA
  have h39 := (hf9 3 (by omega) (by omega) (by omega)).trans g3
  have hO9 : LO cy mem9 := ⟨ou9, ho9⟩
  have hM9 : MW cy ad J A nm mem9 mem9 := hM.mv (fun i q1 q2 => hf9 i (by omega) (by omega) (by omega))
  refine lv_istore (lv' := [(5, .int (r9)), (4, .int (nI (4 * t))), (3, .ref (ad 242)), (2, .ref (ad 224)), (1, .ref (ad 0)), (0, .ref (b))]) Bx.1 Bx.2.1 d_Lw_law_378 hl (by decide) rfl (fun ls hl => ?_)
  refine lv_aload_n Bx.1 Bx.2.1 d_Lw_law_380 rfl (lv_at hl 3 rfl) ?_
  refine lv_aload_n Bx.1 Bx.2.1 d_Lw_law_381 rfl (lv_at hl 5 rfl) ?_
  refine lv_iload Bx.1 Bx.2.1 d_Lw_law_382 (lv_at hl 1 rfl) ?_
  refine lv_iconst (v := 1) Bx.1 Bx.2.1 d_Lw_law_384 (by decide) ?_
  refine lv_iadd Bx.1 Bx.2.1 d_Lw_law_385 ?_
  refine f_sld Bx.1 Bx.2.1 hX hbl hbA hS (4 * t + 1) (nI_add (4 * t) 1) (by omega) (by omega) d_Lw_law_386 ?_
  refine lv_aload_n Bx.1 Bx.2.1 d_Lw_law_387 rfl (lv_at hl 5 rfl) ?_
  refine lv_iload Bx.1 Bx.2.1 d_Lw_law_388 (lv_at hl 1 rfl) ?_
  refine lv_iconst (v := 2) Bx.1 Bx.2.1 d_Lw_law_390 (by decide) ?_
  refine lv_iadd Bx.1 Bx.2.1 d_Lw_law_391 ?_
  refine f_sld Bx.1 Bx.2.1 hX hbl hbA hS (4 * t + 2) (nI_add (4 * t) 2) (by omega) (by omega) d_Lw_law_392 ?_
  refine lv_aload_n Bx.1 Bx.2.1 d_Lw_law_393 rfl (lv_at hl 5 rfl) ?_
  refine lv_iload Bx.1 Bx.2.1 d_Lw_law_394 (lv_at hl 1 rfl) ?_
  refine lv_iconst (v := 3) Bx.1 Bx.2.1 d_Lw_law_396 (by decide) ?_
  refine lv_iadd Bx.1 Bx.2.1 d_Lw_law_397 ?_
  refine f_sld Bx.1 Bx.2.1 hX hbl hbA hS (4 * t + 3) (nI_add (4 * t) 3) (by omega) (by omega) d_Lw_law_398 ?_
  refine f_callVi (na := 3) (As := [.int (xs (4 * t + 1)), .int (xs (4 * t + 2)), .int (xs (4 * t + 3))]) (rest := []) Bx hml E hP hD hS (by omega) hM9.1 rfl (m_Mo_matchesY l (V := VV Bw inp I E8) (by omega) hM9 g24 hGb q4 q7 qE qR qu qG (NoG.of hM9.1) hx8 hV8) kw_874 kw_875 kw_876 kw_8 kw_877 (by decide +kernel) ⟨rfl, rfl⟩ ⟨Nat.le_of_ble_eq_true rfl, Nat.le_of_ble_eq_true rfl⟩ rfl hl.1 (Nat.le_of_ble_eq_true rfl) d_Lw_law_399 ⟨(show 243 + t + 1 ≤ 601024 by omega), (show 7734 + 6 * t + 6 ≤ 7293034 by omega)⟩ (fun r1 mem2 H locs hq2 hP hS => ?_)
  have hD : va_D (Az sz) (fw n ad mem2) := fw_D hD
  obtain ⟨J2, A2, hM2, hj2, ha2, hx2, hcm⟩ := hq2
  have hOI2 := hOI.keep hj2 ha2
  have hLX9 := hLX.qu hK9 (fun i hi => hf9 i (by omega) (by omega) (by omega)) hj2 ha2
  have hLY9 := LY.ask hIi q4 hY9 hgg hC9 hj2 ha2 hx2
  refine lv_istore (lv' := [(6, .int (r1)), (5, .int (r9)), (4, .int (nI (4 * t))), (3, .ref (ad 242)), (2, .ref (ad 224)), (1, .ref (ad 0)), (0, .ref (b))]) Bx.1 Bx.2.1 d_Lw_law_402 hl (by decide) rfl (fun ls hl => ?_)
  refine lv_goto Bx.1 Bx.2.1 d_Lw_law_404 rfl ?_
  exact (K (Z) (I) mem2 _ _ _ (LIv.of hK9 h39 hO9 hM2 hOI2 hGb hLX9 hLY9) hP hD hS (lv_sub hl [2, 3, 4, 5, 6] rfl))
set_option maxHeartbeats 4000000 in
set_option maxRecDepth 100000 in
theorem k_longest {p : Program} {e : Env} {s : State} {m : MethodId} {below : List Frame} {meth : Method} {c : Code} (l : Launch) {D : va_G} {cy : Nat → ClassId} {sz n b t L Z G : Nat} {ad : Nat → Nat} {mem : Nat → va_E} {xs : Nat → Int32} {H : Heap} {locs : List Loc} {ls : Array Slot} {Q : State → Prop} (hlt : l.stackTraces = false) (Bx : MB p s m #[Value.ref b] c c_Lw_law "AbnfChartLaw" D cy) (hml : c.maxLocals = 7) (E : EV D cy sz s) (hn : 243 ≤ n) (hX : va_X b L xs s s.heap) (hbl : b < s.heap.size) (hbA : ¬ Az sz b) (htt : t < 512) (hLb : 4 * t + 4 ≤ L ∧ L ≤ 2048) (hI : LIv cy ad Z G mem) (hP : va_P D vcl (fw n ad mem) H) (hD : va_D (Az sz) (fw n ad mem)) (hS : va_S (Az sz) s.heap H locs) (hl : lv_has ls 7 [(4, .int (nI (4 * t))), (3, .ref (ad 242)), (2, .ref (ad 224)), (1, .ref (ad 0)), (0, .ref (b))])
    (K : ∀ (Z G : Nat) (mem : Nat → va_E) (ls : Array Slot) (H : Heap) (locs : List Loc), LIv cy ad Z G mem → va_P D vcl (fw n ad mem) H → va_D (Az sz) (fw n ad mem) → va_S (Az sz) s.heap H locs → lv_has ls 7 [(4, .int (nI (4 * t))), (3, .ref (ad 242)), (2, .ref (ad 224)), (1, .ref (ad 0)), (0, .ref (b))] → W p l e room_1 s m #[Value.ref b] below meth c H locs (243 + t + 1) (7734 + 6 * t + 6) Q (F0 m 531 ls [])) : W p l e room_1 s m #[Value.ref b] below meth c H locs (243 + t) (7734 + 6 * t) Q (F0 m 407 ls []) := by
  obtain ⟨hK, g3, hO, J, A, nm, hM, hOI, hGb, hLX, hLY⟩ := hI
  have hng : NoG mem := NoG.of hM.1
  obtain ⟨inp, hYi, hIi, hgy⟩ := id hLY
  obtain ⟨⟨fx, hTf, hfx⟩, hT0, R9, E9, x4, x7, hGX⟩ := id hLX
  obtain ⟨ou, ho⟩ := id hO
  obtain ⟨h0, ⟨f, hTx⟩, ⟨I, hIx⟩, ⟨lim, rc, ec, wh, hG⟩, ⟨at0, ft, h9⟩, fl, hc⟩ := id hK
  obtain ⟨g1, g24, u, R, Ec, g4, g7, gR, gE, gu, gG⟩ := id hOI
  have hZ := hTx.2.1
  obtain rfl := in_same hIx.2.1 hGb hIx.1 g3
  obtain ⟨R8, E8, u8, Bw, ⟨q4, q7, qR, qE, qu, qG⟩, hQ, hx8, hV8, hgg⟩ := qy_of hgy hGX x4 hGb hIi ⟨u, R, Ec, g4, g7, gR, gE, gu, gG⟩
  refine lv_aload_n Bx.1 Bx.2.1 d_Lw_law_407 rfl (lv_at hl 3 rfl) ?_
  refine lv_aload_n Bx.1 Bx.2.1 d_Lw_law_408 rfl (lv_at hl 4 rfl) ?_
  refine lv_iload Bx.1 Bx.2.1 d_Lw_law_409 (lv_at hl 0 rfl) ?_
  refine lv_iconst (v := 1) Bx.1 Bx.2.1 d_Lw_law_411 (by decide) ?_
  refine lv_iadd Bx.1 Bx.2.1 d_Lw_law_412 ?_
  refine f_sld Bx.1 Bx.2.1 hX hbl hbA hS (4 * t + 1) (nI_add (4 * t) 1) (by omega) (by omega) d_Lw_law_413 ?_
  refine lv_aload_n Bx.1 Bx.2.1 d_Lw_law_414 rfl (lv_at hl 4 rfl) ?_
  refine lv_iload Bx.1 Bx.2.1 d_Lw_law_415 (lv_at hl 0 rfl) ?_
  refine lv_iconst (v := 2) Bx.1 Bx.2.1 d_Lw_law_417 (by decide) ?_
  refine lv_iadd Bx.1 Bx.2.1 d_Lw_law_418 ?_
  refine f_sld Bx.1 Bx.2.1 hX hbl hbA hS (4 * t + 2) (nI_add (4 * t) 2) (by omega) (by omega) d_Lw_law_419 ?_
  refine lv_aload_n Bx.1 Bx.2.1 d_Lw_law_420 rfl (lv_at hl 1 rfl) ?_
  refine f_callL (na := 4) (As := [.ref (ad 0), .int (xs (4 * t + 1)), .int (xs (4 * t + 2)), .ref (ad 242)]) (rest := []) Bx hml E hP hD hS (m_Lw_longest l hlt hn ho h0 hYi hQ) kw_613 kw_614 kw_0 kw_615 (by decide +kernel) ⟨rfl, rfl⟩ ⟨Nat.le_of_ble_eq_true rfl, Nat.le_of_ble_eq_true rfl⟩ rfl hl.1 (Nat.le_of_ble_eq_true rfl) d_Lw_law_421 ⟨(show 243 + t + 1 ≤ 601024 by omega), (show 7734 + 6 * t + 6 ≤ 7293034 by omega)⟩ (fun r9 mem9 H locs hq hP hS => ?_)
  have hD : va_D (Az sz) (fw n ad mem9) := fw_D hD
  have hA : ∃ ou9 : Nat → Int64, KI cy ad Z mem9 ∧ mem9 242 = .inl (cy 2, 1, .inr (.inl ou9)) ∧ (∀ i, i ≠ 223 → i ≠ 242 → i < 20 ∨ 222 ≤ i → mem9 i = mem i) ∧ IY cy ad I inp mem9 ∧ (CY cy ad R8 E8 I Bw inp mem9 ∨ ∀ i, i ≠ 242 → mem9 i = mem i) ∧ ((r9 = 0 ∧ ∃ r0 i0 : Nat, (r0 < R8 ∧ i0 ≤ I ∧ (xs (4 * t + 1)) = nI r0 ∧ (xs (4 * t + 2)) = nI i0) ∧ ∃ v : Int32, MX (VV Bw inp I E8 r0 i0) i0 I v ∧ ou9 0 = v.toInt64) ∨ (r9 = 1 ∧ ¬ RK R8 (xs (4 * t + 1))) ∨ (r9 = 2 ∧ RK R8 (xs (4 * t + 1)) ∧ ¬ PK I (xs (4 * t + 2)) (xs (4 * t + 2)))) := by
    rcases hq with ⟨hr, r0, i0, ou1, hC1, hf1, ho1, hv1⟩ | ⟨hr, hm9, hk9⟩ | ⟨hr, hm9, hk9, hp9⟩
    · exact ⟨ou1, hK.ofCY hC1 hf1, ho1, hf1, hYi.fr (fun i hi => hf1 i (by omega) (by omega) (by omega)), Or.inl hC1, Or.inl ⟨hr, r0, i0, hv1⟩⟩
    · exact ⟨ou, by rw [hm9]; exact hK, by rw [hm9]; exact ho, fun i _ _ _ => by rw [hm9], by rw [hm9]; exact hYi, Or.inr (fun i _ => by rw [hm9]), Or.inr (Or.inl ⟨hr, hk9⟩)⟩
    · exact ⟨ou, by rw [hm9]; exact hK, by rw [hm9]; exact ho, fun i _ _ _ => by rw [hm9], by rw [hm9]; exact hYi, Or.inr (fun i _ => by rw [hm9]), Or.inr (Or.inr ⟨hr, hk9, hp9⟩)⟩
  obtain ⟨ou9, hK9, ho9, hf9, hY9, hC9, hcl⟩ := hA
  have h39 := (hf9 3 (by omega) (by omega) (by omega)).trans g3
  have hO9 : LO cy mem9 := ⟨ou9, ho9⟩
  have hM9 : MW cy ad J A nm mem9 mem9 := hM.mv (fun i q1 q2 => hf9 i (by omega) (by omega) (by omega))
  refine lv_istore (lv' := [(5, .int (r9)), (4, .int (nI (4 * t))), (3, .ref (ad 242)), (2, .ref (ad 224)), (1, .ref (ad 0)), (0, .ref (b))]) Bx.1 Bx.2.1 d_Lw_law_424 hl (by decide) rfl (fun ls hl => ?_)
  refine lv_aload_n Bx.1 Bx.2.1 d_Lw_law_426 rfl (lv_at hl 3 rfl) ?_
  refine lv_aload_n Bx.1 Bx.2.1 d_Lw_law_427 rfl (lv_at hl 5 rfl) ?_
  refine lv_iload Bx.1 Bx.2.1 d_Lw_law_428 (lv_at hl 1 rfl) ?_
  refine lv_iconst (v := 1) Bx.1 Bx.2.1 d_Lw_law_430 (by decide) ?_
  refine lv_iadd Bx.1 Bx.2.1 d_Lw_law_431 ?_
  refine f_sld Bx.1 Bx.2.1 hX hbl hbA hS (4 * t + 1) (nI_add (4 * t) 1) (by omega) (by omega) d_Lw_law_432 ?_
  refine lv_aload_n Bx.1 Bx.2.1 d_Lw_law_433 rfl (lv_at hl 5 rfl) ?_
  refine lv_iload Bx.1 Bx.2.1 d_Lw_law_434 (lv_at hl 1 rfl) ?_
  refine lv_iconst (v := 2) Bx.1 Bx.2.1 d_Lw_law_436 (by decide) ?_
  refine lv_iadd Bx.1 Bx.2.1 d_Lw_law_437 ?_
  refine f_sld Bx.1 Bx.2.1 hX hbl hbA hS (4 * t + 2) (nI_add (4 * t) 2) (by omega) (by omega) d_Lw_law_438 ?_
  refine f_callVi (na := 2) (As := [.int (xs (4 * t + 1)), .int (xs (4 * t + 2))]) (rest := []) Bx hml E hP hD hS (by omega) hM9.1 rfl (m_Mo_longestY l (V := VV Bw inp I E8) (by omega) hM9 g24 hGb q4 q7 qE qR qu qG (NoG.of hM9.1) hx8 hV8) kw_902 kw_903 kw_904 kw_8 kw_905 (by decide +kernel) ⟨rfl, rfl⟩ ⟨Nat.le_of_ble_eq_true rfl, Nat.le_of_ble_eq_true rfl⟩ rfl hl.1 (Nat.le_of_ble_eq_true rfl) d_Lw_law_439 ⟨(show 243 + t + 1 ≤ 601024 by omega), (show 7734 + 6 * t + 6 ≤ 7293034 by omega)⟩ (fun r1 mem2 H locs hq2 hP hS => ?_)
  have hD : va_D (Az sz) (fw n ad mem2) := fw_D hD
  obtain ⟨J2, A2, hM2, hj2, ha2, hx2, hcm⟩ := hq2
  have hOI2 := hOI.keep hj2 ha2
  have hLX9 := hLX.qu hK9 (fun i hi => hf9 i (by omega) (by omega) (by omega)) hj2 ha2
  have hLY9 := LY.ask hIi q4 hY9 hgg hC9 hj2 ha2 hx2
  refine lv_istore (lv' := [(6, .int (r1)), (5, .int (r9)), (4, .int (nI (4 * t))), (3, .ref (ad 242)), (2, .ref (ad 224)), (1, .ref (ad 0)), (0, .ref (b))]) Bx.1 Bx.2.1 d_Lw_law_442 hl (by decide) rfl (fun ls hl => ?_)
  refine lv_goto Bx.1 Bx.2.1 d_Lw_law_444 rfl ?_
  exact (K (Z) (I) mem2 _ _ _ (LIv.of hK9 h39 hO9 hM2 hOI2 hGb hLX9 hLY9) hP hD hS (lv_sub hl [2, 3, 4, 5, 6] rfl))
set_option maxHeartbeats 4000000 in
set_option maxRecDepth 100000 in
theorem k_pieces {p : Program} {e : Env} {s : State} {m : MethodId} {below : List Frame} {meth : Method} {c : Code} (l : Launch) {D : va_G} {cy : Nat → ClassId} {sz n b t L Z G : Nat} {ad : Nat → Nat} {mem : Nat → va_E} {xs : Nat → Int32} {H : Heap} {locs : List Loc} {ls : Array Slot} {Q : State → Prop} (hlt : l.stackTraces = false) (Bx : MB p s m #[Value.ref b] c c_Lw_law "AbnfChartLaw" D cy) (hml : c.maxLocals = 7) (E : EV D cy sz s) (hn : 243 ≤ n) (hX : va_X b L xs s s.heap) (hbl : b < s.heap.size) (hbA : ¬ Az sz b) (htt : t < 512) (hLb : 4 * t + 4 ≤ L ∧ L ≤ 2048) (hI : LIv cy ad Z G mem) (hP : va_P D vcl (fw n ad mem) H) (hD : va_D (Az sz) (fw n ad mem)) (hS : va_S (Az sz) s.heap H locs) (hl : lv_has ls 7 [(4, .int (nI (4 * t))), (3, .ref (ad 242)), (2, .ref (ad 224)), (1, .ref (ad 0)), (0, .ref (b))])
    (K : ∀ (Z G : Nat) (mem : Nat → va_E) (ls : Array Slot) (H : Heap) (locs : List Loc), LIv cy ad Z G mem → va_P D vcl (fw n ad mem) H → va_D (Az sz) (fw n ad mem) → va_S (Az sz) s.heap H locs → lv_has ls 7 [(4, .int (nI (4 * t))), (3, .ref (ad 242)), (2, .ref (ad 224)), (1, .ref (ad 0)), (0, .ref (b))] → W p l e room_1 s m #[Value.ref b] below meth c H locs (243 + t + 1) (7734 + 6 * t + 6) Q (F0 m 531 ls [])) : W p l e room_1 s m #[Value.ref b] below meth c H locs (243 + t) (7734 + 6 * t) Q (F0 m 447 ls []) := by
  obtain ⟨hK, g3, hO, J, A, nm, hM, hOI, hGb, hLX, hLY⟩ := hI
  have hng : NoG mem := NoG.of hM.1
  obtain ⟨inp, hYi, hIi, hgy⟩ := id hLY
  obtain ⟨⟨fx, hTf, hfx⟩, hT0, R9, E9, x4, x7, hGX⟩ := id hLX
  obtain ⟨ou, ho⟩ := id hO
  obtain ⟨h0, ⟨f, hTx⟩, ⟨I, hIx⟩, ⟨lim, rc, ec, wh, hG⟩, ⟨at0, ft, h9⟩, fl, hc⟩ := id hK
  obtain ⟨g1, g24, u, R, Ec, g4, g7, gR, gE, gu, gG⟩ := id hOI
  have hZ := hTx.2.1
  obtain rfl := in_same hIx.2.1 hGb hIx.1 g3
  obtain ⟨R8, E8, u8, Bw, ⟨q4, q7, qR, qE, qu, qG⟩, hQ, hx8, hV8, hgg⟩ := qy_of hgy hGX x4 hGb hIi ⟨u, R, Ec, g4, g7, gR, gE, gu, gG⟩
  refine lv_aload_n Bx.1 Bx.2.1 d_Lw_law_447 rfl (lv_at hl 3 rfl) ?_
  refine lv_aload_n Bx.1 Bx.2.1 d_Lw_law_448 rfl (lv_at hl 4 rfl) ?_
  refine lv_iload Bx.1 Bx.2.1 d_Lw_law_449 (lv_at hl 0 rfl) ?_
  refine lv_iconst (v := 1) Bx.1 Bx.2.1 d_Lw_law_451 (by decide) ?_
  refine lv_iadd Bx.1 Bx.2.1 d_Lw_law_452 ?_
  refine f_sld Bx.1 Bx.2.1 hX hbl hbA hS (4 * t + 1) (nI_add (4 * t) 1) (by omega) (by omega) d_Lw_law_453 ?_
  refine lv_aload_n Bx.1 Bx.2.1 d_Lw_law_454 rfl (lv_at hl 1 rfl) ?_
  refine f_callL (na := 3) (As := [.ref (ad 0), .int (xs (4 * t + 1)), .ref (ad 242)]) (rest := []) Bx hml E hP hD hS (m_Lw_pieces l hlt hn ho h0 hYi hQ) kw_620 kw_621 kw_0 kw_622 (by decide +kernel) ⟨rfl, rfl⟩ ⟨Nat.le_of_ble_eq_true rfl, Nat.le_of_ble_eq_true rfl⟩ rfl hl.1 (Nat.le_of_ble_eq_true rfl) d_Lw_law_455 ⟨(show 243 + t + 1 ≤ 601024 by omega), (show 7734 + 6 * t + 6 ≤ 7293034 by omega)⟩ (fun r9 mem9 H locs hq hP hS => ?_)
  have hD : va_D (Az sz) (fw n ad mem9) := fw_D hD
  have hA : ∃ ou9 : Nat → Int64, KI cy ad Z mem9 ∧ mem9 242 = .inl (cy 2, 1, .inr (.inl ou9)) ∧ (∀ i, i ≠ 223 → i ≠ 242 → i < 20 ∨ 222 ≤ i → mem9 i = mem i) ∧ IY cy ad I inp mem9 ∧ (CY cy ad R8 E8 I Bw inp mem9 ∨ ∀ i, i ≠ 242 → mem9 i = mem i) ∧ ((r9 = 0 ∧ ∃ r0 : Nat, (r0 < R8 ∧ (xs (4 * t + 1)) = nI r0) ∧ ∃ v : Int32, v = sumC (VV Bw inp I E8 r0) (I + 1) ∧ ou9 0 = v.toInt64) ∨ (r9 = 1 ∧ ¬ RK R8 (xs (4 * t + 1)))) := by
    rcases hq with ⟨hr, r0, ou1, hC1, hf1, ho1, hv1⟩ | ⟨hr, hm9, hk9⟩
    · exact ⟨ou1, hK.ofCY hC1 hf1, ho1, hf1, hYi.fr (fun i hi => hf1 i (by omega) (by omega) (by omega)), Or.inl hC1, Or.inl ⟨hr, r0, hv1⟩⟩
    · exact ⟨ou, by rw [hm9]; exact hK, by rw [hm9]; exact ho, fun i _ _ _ => by rw [hm9], by rw [hm9]; exact hYi, Or.inr (fun i _ => by rw [hm9]), Or.inr ⟨hr, hk9⟩⟩
  obtain ⟨ou9, hK9, ho9, hf9, hY9, hC9, hcl⟩ := hA
  have h39 := (hf9 3 (by omega) (by omega) (by omega)).trans g3
  have hO9 : LO cy mem9 := ⟨ou9, ho9⟩
  have hM9 : MW cy ad J A nm mem9 mem9 := hM.mv (fun i q1 q2 => hf9 i (by omega) (by omega) (by omega))
  refine lv_istore (lv' := [(5, .int (r9)), (4, .int (nI (4 * t))), (3, .ref (ad 242)), (2, .ref (ad 224)), (1, .ref (ad 0)), (0, .ref (b))]) Bx.1 Bx.2.1 d_Lw_law_458 hl (by decide) rfl (fun ls hl => ?_)
  refine lv_aload_n Bx.1 Bx.2.1 d_Lw_law_460 rfl (lv_at hl 3 rfl) ?_
  refine lv_aload_n Bx.1 Bx.2.1 d_Lw_law_461 rfl (lv_at hl 5 rfl) ?_
  refine lv_iload Bx.1 Bx.2.1 d_Lw_law_462 (lv_at hl 1 rfl) ?_
  refine lv_iconst (v := 1) Bx.1 Bx.2.1 d_Lw_law_464 (by decide) ?_
  refine lv_iadd Bx.1 Bx.2.1 d_Lw_law_465 ?_
  refine f_sld Bx.1 Bx.2.1 hX hbl hbA hS (4 * t + 1) (nI_add (4 * t) 1) (by omega) (by omega) d_Lw_law_466 ?_
  refine f_callVi (na := 1) (As := [.int (xs (4 * t + 1))]) (rest := []) Bx hml E hP hD hS (by omega) hM9.1 rfl (m_Mo_piecesYz l (V := VV Bw inp I E8) (by omega) hM9 g24 hGb q4 q7 qE qR qu qG (NoG.of hM9.1) hx8 hV8 (qy_iz hQ)) kw_906 kw_907 kw_908 kw_8 kw_909 (by decide +kernel) ⟨rfl, rfl⟩ ⟨Nat.le_of_ble_eq_true rfl, Nat.le_of_ble_eq_true rfl⟩ rfl hl.1 (Nat.le_of_ble_eq_true rfl) d_Lw_law_467 ⟨(show 243 + t + 1 ≤ 601024 by omega), (show 7734 + 6 * t + 6 ≤ 7293034 by omega)⟩ (fun r1 mem2 H locs hq2 hP hS => ?_)
  have hD : va_D (Az sz) (fw n ad mem2) := fw_D hD
  obtain ⟨J2, A2, hM2, hj2, ha2, hx2, hcm⟩ := hq2
  have hOI2 := hOI.keep hj2 ha2
  have hLX9 := hLX.qu hK9 (fun i hi => hf9 i (by omega) (by omega) (by omega)) hj2 ha2
  have hLY9 := LY.ask hIi q4 hY9 hgg hC9 hj2 ha2 hx2
  have hag := ag_piece qR hGb hcl hcm
  refine lv_istore (lv' := [(6, .int (r1)), (5, .int (r9)), (4, .int (nI (4 * t))), (3, .ref (ad 242)), (2, .ref (ad 224)), (1, .ref (ad 0)), (0, .ref (b))]) Bx.1 Bx.2.1 d_Lw_law_470 hl (by decide) rfl (fun ls hl => ?_)
  refine lv_aload_n Bx.1 Bx.2.1 d_Lw_law_472 rfl (lv_at hl 4 rfl) ?_
  refine f_callVi (na := 0) (As := []) (rest := []) Bx hml E hP hD hS (by omega) hM2.1 rfl (m_Mo_thrown l (by omega) hM2.1) kw_746 kw_747 kw_748 kw_8 kw_749 (by decide +kernel) ⟨rfl, rfl⟩ ⟨Nat.le_of_ble_eq_true rfl, Nat.le_of_ble_eq_true rfl⟩ rfl hl.1 (Nat.le_of_ble_eq_true rfl) d_Lw_law_473 ⟨(show 243 + t + 1 ≤ 601024 by omega), (show 7734 + 6 * t + 6 ≤ 7293034 by omega)⟩ (fun r3 mem4 H locs hq3 hP hS => ?_)
  have hD : va_D (Az sz) (fw n ad mem4) := fw_D hD
  obtain ⟨hr3, hq3⟩ := hq3
  rw [hq3] at hP hD
  refine lv_iload Bx.1 Bx.2.1 d_Lw_law_476 (lv_at hl 1 rfl) ?_
  refine lv_icmp_eq Bx.1 Bx.2.1 d_Lw_law_478 rfl (fun h => ?_) (fun h => ?_)
  · refine lv_iload Bx.1 Bx.2.1 d_Lw_law_483 (lv_at hl 1 rfl) ?_
    refine lv_if_ne Bx.1 Bx.2.1 d_Lw_law_485 rfl (fun h => ?_) (fun h => ?_)
    · refine lv_goto Bx.1 Bx.2.1 d_Lw_law_500 rfl ?_
      exact (K (Z) (I) mem2 _ _ _ (LIv.of hK9 h39 hO9 hM2 hOI2 hGb hLX9 hLY9) hP hD hS (lv_sub hl [2, 3, 4, 5, 6] rfl))
    · have hz : r9 = 0 := by first | exact h | exact Decidable.of_not_not h
      refine lv_aload_n Bx.1 Bx.2.1 d_Lw_law_488 rfl (lv_at hl 3 rfl) ?_
      refine lv_iconst (v := 0) Bx.1 Bx.2.1 d_Lw_law_489 (by decide) ?_
      refine f_lald (i := 0) Bx hP (by omega) ((hM2.2.2.2.1 242 (by omega)).trans ho9) (vp_in_nI (n := 0) (by decide) (by decide)) d_Lw_law_490 ?_
      refine lv_iload Bx.1 Bx.2.1 d_Lw_law_491 (lv_at hl 0 rfl) ?_
      refine lv_i2l Bx.1 Bx.2.1 d_Lw_law_493 rfl ?_
      refine W.lcmp Bx.1 Bx.2.1 d_Lw_law_494 ?_
      refine lv_if_eq Bx.1 Bx.2.1 d_Lw_law_495 rfl (fun h => ?_) (fun h => ?_)
      · refine lv_goto Bx.1 Bx.2.1 d_Lw_law_500 rfl ?_
        exact (K (Z) (I) mem2 _ _ _ (LIv.of hK9 h39 hO9 hM2 hOI2 hGb hLX9 hLY9) hP hD hS (lv_sub hl [2, 3, 4, 5, 6] rfl))
      · exact absurd ((lg_cmp_eq _ _).mpr (hag.2.2 hz)) h
  · exact absurd (hr3.trans hag.2.1) h
set_option maxHeartbeats 4000000 in
set_option maxRecDepth 100000 in
theorem k_count {p : Program} {e : Env} {s : State} {m : MethodId} {below : List Frame} {meth : Method} {c : Code} (l : Launch) {D : va_G} {cy : Nat → ClassId} {sz n b t L Z G : Nat} {ad : Nat → Nat} {mem : Nat → va_E} {xs : Nat → Int32} {H : Heap} {locs : List Loc} {ls : Array Slot} {Q : State → Prop} (hlt : l.stackTraces = false) (Bx : MB p s m #[Value.ref b] c c_Lw_law "AbnfChartLaw" D cy) (hml : c.maxLocals = 7) (E : EV D cy sz s) (hn : 243 ≤ n) (hX : va_X b L xs s s.heap) (hbl : b < s.heap.size) (hbA : ¬ Az sz b) (htt : t < 512) (hLb : 4 * t + 4 ≤ L ∧ L ≤ 2048) (hI : LIv cy ad Z G mem) (hP : va_P D vcl (fw n ad mem) H) (hD : va_D (Az sz) (fw n ad mem)) (hS : va_S (Az sz) s.heap H locs) (hl : lv_has ls 7 [(4, .int (nI (4 * t))), (3, .ref (ad 242)), (2, .ref (ad 224)), (1, .ref (ad 0)), (0, .ref (b))])
    (K : ∀ (Z G : Nat) (mem : Nat → va_E) (ls : Array Slot) (H : Heap) (locs : List Loc), LIv cy ad Z G mem → va_P D vcl (fw n ad mem) H → va_D (Az sz) (fw n ad mem) → va_S (Az sz) s.heap H locs → lv_has ls 7 [(4, .int (nI (4 * t))), (3, .ref (ad 242)), (2, .ref (ad 224)), (1, .ref (ad 0)), (0, .ref (b))] → W p l e room_1 s m #[Value.ref b] below meth c H locs (243 + t + 1) (7734 + 6 * t + 6) Q (F0 m 531 ls [])) : W p l e room_1 s m #[Value.ref b] below meth c H locs (243 + t) (7734 + 6 * t) Q (F0 m 503 ls []) := by
  obtain ⟨hK, g3, hO, J, A, nm, hM, hOI, hGb, hLX, hLY⟩ := hI
  have hng : NoG mem := NoG.of hM.1
  obtain ⟨inp, hYi, hIi, hgy⟩ := id hLY
  obtain ⟨⟨fx, hTf, hfx⟩, hT0, R9, E9, x4, x7, hGX⟩ := id hLX
  obtain ⟨ou, ho⟩ := id hO
  obtain ⟨h0, ⟨f, hTx⟩, ⟨I, hIx⟩, ⟨lim, rc, ec, wh, hG⟩, ⟨at0, ft, h9⟩, fl, hc⟩ := id hK
  obtain ⟨g1, g24, u, R, Ec, g4, g7, gR, gE, gu, gG⟩ := id hOI
  have hZ := hTx.2.1
  obtain rfl := in_same hIx.2.1 hGb hIx.1 g3
  refine lv_aload_n Bx.1 Bx.2.1 d_Lw_law_503 rfl (lv_at hl 3 rfl) ?_
  refine lv_aload_n Bx.1 Bx.2.1 d_Lw_law_504 rfl (lv_at hl 4 rfl) ?_
  refine lv_iload Bx.1 Bx.2.1 d_Lw_law_505 (lv_at hl 0 rfl) ?_
  refine lv_iconst (v := 1) Bx.1 Bx.2.1 d_Lw_law_507 (by decide) ?_
  refine lv_iadd Bx.1 Bx.2.1 d_Lw_law_508 ?_
  refine f_sld Bx.1 Bx.2.1 hX hbl hbA hS (4 * t + 1) (nI_add (4 * t) 1) (by omega) (by omega) d_Lw_law_509 ?_
  refine lv_aload_n Bx.1 Bx.2.1 d_Lw_law_510 rfl (lv_at hl 1 rfl) ?_
  refine f_callL (na := 3) (As := [.ref (ad 0), .int (xs (4 * t + 1)), .ref (ad 242)]) (rest := []) Bx hml E hP hD hS (m_Lw_count l hlt hn ho h0 hGX) kw_633 kw_634 kw_0 kw_635 (by decide +kernel) ⟨rfl, rfl⟩ ⟨Nat.le_of_ble_eq_true rfl, Nat.le_of_ble_eq_true rfl⟩ rfl hl.1 (Nat.le_of_ble_eq_true rfl) d_Lw_law_511 ⟨(show 243 + t + 1 ≤ 601024 by omega), (show 7734 + 6 * t + 6 ≤ 7293034 by omega)⟩ (fun r9 mem9 H locs hq hP hS => ?_)
  have hD : va_D (Az sz) (fw n ad mem9) := fw_D hD
  have hA : ∃ ou9 : Nat → Int64, KI cy ad Z mem9 ∧ mem9 242 = .inl (cy 2, 1, .inr (.inl ou9)) ∧ (∀ i, i ≠ 242 → mem9 i = mem i) ∧ ((r9 = 0 ∧ ∃ v : Int32, (((xs (4 * t + 1)) = 0 ∧ v = nI R9) ∨ ((xs (4 * t + 1)) = 1 ∧ v = nI E9) ∨ ((xs (4 * t + 1)) = 2 ∧ v = tlN (A 227) R9)) ∧ ou9 0 = v.toInt64) ∨ (r9 = 1 ∧ (¬ (xs (4 * t + 1)) = 0 ∧ ¬ (xs (4 * t + 1)) = 1 ∧ ¬ (xs (4 * t + 1)) = 2))) := by
    rcases hq with ⟨hr, v, ou1, hfs, ho1, hm9⟩ | ⟨hr, hfn, hm9⟩
    · exact ⟨ou1, by rw [hm9]; exact hK.out, by rw [hm9, va_up_self], fun i q => by rw [hm9, va_up_ne _ _ q], Or.inl ⟨hr, v, hfs, ho1⟩⟩
    · exact ⟨ou, by rw [hm9]; exact hK, by rw [hm9]; exact ho, fun i _ => by rw [hm9], Or.inr ⟨hr, hfn⟩⟩
  obtain ⟨ou9, hK9, ho9, hf9, hcl⟩ := hA
  have h39 := (hf9 3 (by decide)).trans g3
  have hO9 : LO cy mem9 := ⟨ou9, ho9⟩
  have hM9 : MW cy ad J A nm mem9 mem9 := hM.mv (fun i q1 q2 => hf9 i (by omega))
  have hRb9 : R9 ≤ 12 := by rcases hGX with ⟨_, z, _⟩ | ⟨z, _⟩; exact z.1.1; omega
  refine lv_istore (lv' := [(5, .int (r9)), (4, .int (nI (4 * t))), (3, .ref (ad 242)), (2, .ref (ad 224)), (1, .ref (ad 0)), (0, .ref (b))]) Bx.1 Bx.2.1 d_Lw_law_514 hl (by decide) rfl (fun ls hl => ?_)
  refine lv_aload_n Bx.1 Bx.2.1 d_Lw_law_516 rfl (lv_at hl 3 rfl) ?_
  refine lv_aload_n Bx.1 Bx.2.1 d_Lw_law_517 rfl (lv_at hl 5 rfl) ?_
  refine lv_iload Bx.1 Bx.2.1 d_Lw_law_518 (lv_at hl 1 rfl) ?_
  refine lv_iconst (v := 1) Bx.1 Bx.2.1 d_Lw_law_520 (by decide) ?_
  refine lv_iadd Bx.1 Bx.2.1 d_Lw_law_521 ?_
  refine f_sld Bx.1 Bx.2.1 hX hbl hbA hS (4 * t + 1) (nI_add (4 * t) 1) (by omega) (by omega) d_Lw_law_522 ?_
  refine f_callVi (na := 1) (As := [.int (xs (4 * t + 1))]) (rest := []) Bx hml E hP hD hS (by omega) hM9.1 rfl (m_Mo_countX l (by omega) hM9 x4 hRb9 x7) kw_910 kw_911 kw_912 kw_8 kw_913 (by decide +kernel) ⟨rfl, rfl⟩ ⟨Nat.le_of_ble_eq_true rfl, Nat.le_of_ble_eq_true rfl⟩ rfl hl.1 (Nat.le_of_ble_eq_true rfl) d_Lw_law_523 ⟨(show 243 + t + 1 ≤ 601024 by omega), (show 7734 + 6 * t + 6 ≤ 7293034 by omega)⟩ (fun r1 mem2 H locs hq2 hP hS => ?_)
  have hD : va_D (Az sz) (fw n ad mem2) := fw_D hD
  obtain ⟨J2, hM2, hj2, hcm⟩ := hq2
  have hOI2 : OI Z I J2 A := hOI.keep (fun i q1 _ => hj2 i q1) (fun _ _ => rfl)
  have hag : True ∧ J2 0 = r9 ∧ (r9 = 0 → ou9 0 = (r1).toInt64) := by
    refine ⟨trivial, ?_⟩
    rcases hcl with ⟨c1, v, c2, c3⟩ | ⟨c1, n0, n1, n2⟩
    · rcases hcm with ⟨m3, m1⟩ | ⟨m3, p0, p1, p2⟩
      · refine ⟨by rw [m3, c1], fun _ => ?_⟩
        rw [c3]
        have hv : v = r1 := by
          rcases c2 with ⟨e, c2⟩ | ⟨e, c2⟩ | ⟨e, c2⟩ <;> rcases m1 with ⟨g, m1⟩ | ⟨g, m1⟩ | ⟨g, m1⟩ <;> first | exact absurd (e.symm.trans g) (by decide) | rw [c2, m1]
        rw [hv]
      · rcases c2 with ⟨e, _⟩ | ⟨e, _⟩ | ⟨e, _⟩
        · exact absurd e p0
        · exact absurd e p1
        · exact absurd e p2
    · rcases hcm with ⟨m3, m1⟩ | ⟨m3, _⟩
      · rcases m1 with ⟨e, _⟩ | ⟨e, _⟩ | ⟨e, _⟩
        · exact absurd e n0
        · exact absurd e n1
        · exact absurd e n2
      · exact ⟨by rw [m3, c1], fun z => by rw [c1] at z; exact absurd z (by decide)⟩
  refine lv_istore (lv' := [(6, .int (r1)), (5, .int (r9)), (4, .int (nI (4 * t))), (3, .ref (ad 242)), (2, .ref (ad 224)), (1, .ref (ad 0)), (0, .ref (b))]) Bx.1 Bx.2.1 d_Lw_law_526 hl (by decide) rfl (fun ls hl => ?_)
  refine lv_goto Bx.1 Bx.2.1 d_Lw_law_528 rfl ?_
  exact (K (Z) (I) mem2 _ _ _ (LIv.of hK9 h39 hO9 hM2 hOI2 hGb (hLX.qu hK9 (fun i hi => hf9 i (by omega)) (fun i q1 _ => hj2 i q1) (fun _ _ => rfl)) (hLY.fr (fun i q1 q2 => hf9 i (by omega)) (hj2 4 (by decide)) (hj2 7 (by decide)) (hj2 26 (by decide)) (fun _ _ => rfl))) hP hD hS (lv_sub hl [2, 3, 4, 5, 6] rfl))
set_option maxHeartbeats 4000000 in
set_option maxRecDepth 100000 in
theorem k_write {p : Program} {e : Env} {s : State} {m : MethodId} {below : List Frame} {meth : Method} {c : Code} (l : Launch) {D : va_G} {cy : Nat → ClassId} {sz n b t L Z G : Nat} {ad : Nat → Nat} {mem : Nat → va_E} {xs : Nat → Int32} {H : Heap} {locs : List Loc} {ls : Array Slot} {Q : State → Prop} (hlt : l.stackTraces = false) (Bx : MB p s m #[Value.ref b] c c_Lw_law "AbnfChartLaw" D cy) (hml : c.maxLocals = 7) (E : EV D cy sz s) (hn : 243 ≤ n) (hX : va_X b L xs s s.heap) (hbl : b < s.heap.size) (hbA : ¬ Az sz b) (htt : t < 512) (hLb : 4 * t + 4 ≤ L ∧ L ≤ 2048) (hI : LIv cy ad Z G mem) (hP : va_P D vcl (fw n ad mem) H) (hD : va_D (Az sz) (fw n ad mem)) (hS : va_S (Az sz) s.heap H locs) (hl : lv_has ls 7 [(4, .int (nI (4 * t))), (3, .ref (ad 242)), (2, .ref (ad 224)), (1, .ref (ad 0)), (0, .ref (b))])
    (K : ∀ (Z G : Nat) (mem : Nat → va_E) (ls : Array Slot) (H : Heap) (locs : List Loc), LIv cy ad Z G mem → va_P D vcl (fw n ad mem) H → va_D (Az sz) (fw n ad mem) → va_S (Az sz) s.heap H locs → lv_has ls 7 [(4, .int (nI (4 * t))), (3, .ref (ad 242)), (2, .ref (ad 224)), (1, .ref (ad 0)), (0, .ref (b))] → W p l e room_1 s m #[Value.ref b] below meth c H locs (243 + t + 1) (7734 + 6 * t + 6) Q (F0 m 531 ls [])) : W p l e room_1 s m #[Value.ref b] below meth c H locs (243 + t) (7734 + 6 * t) Q (F0 m 96 ls []) := by
  obtain ⟨hK, g3, hO, J, A, nm, hM, hOI, hGb, hLX, hLY⟩ := hI
  have hng : NoG mem := NoG.of hM.1
  obtain ⟨inp, hYi, hIi, hgy⟩ := id hLY
  obtain ⟨⟨fx, hTf, hfx⟩, hT0, R9, E9, x4, x7, hGX⟩ := id hLX
  obtain ⟨ou, ho⟩ := id hO
  obtain ⟨h0, ⟨f, hTx⟩, ⟨I, hIx⟩, ⟨lim, rc, ec, wh, hG⟩, ⟨at0, ft, h9⟩, fl, hc⟩ := id hK
  obtain ⟨g1, g24, u, R, Ec, g4, g7, gR, gE, gu, gG⟩ := id hOI
  have hZ := hTx.2.1
  obtain rfl := in_same hIx.2.1 hGb hIx.1 g3
  refine lv_aload_n Bx.1 Bx.2.1 d_Lw_law_96 rfl (lv_at hl 3 rfl) ?_
  refine lv_aload_n Bx.1 Bx.2.1 d_Lw_law_97 rfl (lv_at hl 4 rfl) ?_
  refine lv_iload Bx.1 Bx.2.1 d_Lw_law_98 (lv_at hl 0 rfl) ?_
  refine lv_iconst (v := 1) Bx.1 Bx.2.1 d_Lw_law_100 (by decide) ?_
  refine lv_iadd Bx.1 Bx.2.1 d_Lw_law_101 ?_
  refine f_sld Bx.1 Bx.2.1 hX hbl hbA hS (4 * t + 1) (nI_add (4 * t) 1) (by omega) (by omega) d_Lw_law_102 ?_
  refine lv_i2l Bx.1 Bx.2.1 d_Lw_law_103 rfl ?_
  refine lv_bipush (v := 32) Bx.1 Bx.2.1 d_Lw_law_104 (by decide) ?_
  refine lv_lshl Bx.1 Bx.2.1 d_Lw_law_106 rfl ?_
  refine lv_aload_n Bx.1 Bx.2.1 d_Lw_law_107 rfl (lv_at hl 4 rfl) ?_
  refine lv_iload Bx.1 Bx.2.1 d_Lw_law_108 (lv_at hl 0 rfl) ?_
  refine lv_iconst (v := 2) Bx.1 Bx.2.1 d_Lw_law_110 (by decide) ?_
  refine lv_iadd Bx.1 Bx.2.1 d_Lw_law_111 ?_
  refine f_sld Bx.1 Bx.2.1 hX hbl hbA hS (4 * t + 2) (nI_add (4 * t) 2) (by omega) (by omega) d_Lw_law_112 ?_
  refine lv_i2l Bx.1 Bx.2.1 d_Lw_law_113 rfl ?_
  refine lv_ldc2 Bx.1 Bx.2.1 Bx.2.2.2.1 (Bx.2.2.1 _ (tb_g kw_914 rfl)) d_Lw_law_114 ?_
  refine lv_land Bx.1 Bx.2.1 d_Lw_law_117 ?_
  refine lv_lor Bx.1 Bx.2.1 d_Lw_law_118 ?_
  refine lv_aload_n Bx.1 Bx.2.1 d_Lw_law_119 rfl (lv_at hl 4 rfl) ?_
  refine lv_iload Bx.1 Bx.2.1 d_Lw_law_120 (lv_at hl 0 rfl) ?_
  refine lv_iconst (v := 3) Bx.1 Bx.2.1 d_Lw_law_122 (by decide) ?_
  refine lv_iadd Bx.1 Bx.2.1 d_Lw_law_123 ?_
  refine f_sld Bx.1 Bx.2.1 hX hbl hbA hS (4 * t + 3) (nI_add (4 * t) 3) (by omega) (by omega) d_Lw_law_124 ?_
  refine lv_aload_n Bx.1 Bx.2.1 d_Lw_law_125 rfl (lv_at hl 1 rfl) ?_
  refine f_callL (na := 4) (As := [.ref (ad 0), .long (((xs (4 * t + 1)).toInt64) <<< ((32 : Int32).toInt64 &&& 63) ||| (xs (4 * t + 2)).toInt64 &&& 4294967295), .int (xs (4 * t + 3)), .ref (ad 242)]) (rest := []) Bx hml E hP hD hS (m_Lw_write l hlt hn h0 ho hTf.1 hTf.2.2 hTf.2.1) kw_210 kw_211 kw_0 kw_212 (by decide +kernel) ⟨rfl, rfl⟩ ⟨Nat.le_of_ble_eq_true rfl, Nat.le_of_ble_eq_true rfl⟩ rfl hl.1 (Nat.le_of_ble_eq_true rfl) d_Lw_law_126 ⟨(show 243 + t + 1 ≤ 601024 by omega), (show 7734 + 6 * t + 6 ≤ 7293034 by omega)⟩ (fun r9 mem9 H locs hq hP hS => ?_)
  have hD : va_D (Az sz) (fw n ad mem9) := fw_D hD
  have hA : ∃ (Z1 : Nat) (ou9 : Nat → Int64), KI cy ad Z1 mem9 ∧ mem9 3 = mem 3 ∧ mem9 242 = .inl (cy 2, 1, .inr (.inl ou9)) ∧ (∀ i, 224 ≤ i → i ≠ 242 → mem9 i = mem i) ∧ WrC okT 240 (((xs (4 * t + 1)).toInt64) <<< ((32 : Int32).toInt64 &&& 63) ||| (xs (4 * t + 2)).toInt64 &&& 4294967295) (xs (4 * t + 3)) Z Z1 r9 (ou9 0) ∧ (∀ i, i < 224 → i ≠ 1 → i ≠ 2 → mem9 i = mem i) ∧ ∃ f1, TX cy ad Z1 f1 mem9 ∧ TW fx Z (((xs (4 * t + 1)).toInt64) <<< ((32 : Int32).toInt64 &&& 63) ||| (xs (4 * t + 2)).toInt64 &&& 4294967295) f1 Z1 := by
    rcases hq with ⟨hr, N, hk, hN1, hN8, ha, hroom, hm9⟩ | ⟨hr, hm9, hk⟩ | ⟨hr, hm9, hk⟩
    · refine ⟨Z + N, _, ?_, ?_, by rw [hm9, va_up_self], fun i q1 q2 => ?_, Or.inl ⟨hr, N, hk, hN1, hN8, ha, hroom, rfl, rfl⟩, fun i q1 q2 q3 => ?_, apB fx Z (((xs (4 * t + 1)).toInt64) <<< ((32 : Int32).toInt64 &&& 63) ||| (xs (4 * t + 2)).toInt64 &&& 4294967295) N, ⟨?_, hroom, ?_⟩, Or.inr ⟨N, hN1, hN8, rfl, rfl, ha⟩⟩
      · exact hK.text hroom (f := apB fx Z (((xs (4 * t + 1)).toInt64) <<< ((32 : Int32).toInt64 &&& 63) ||| (xs (4 * t + 2)).toInt64 &&& 4294967295) N) (by rw [hm9]; unfold chM; rw [va_up_ne _ _ (by decide), va_up_self]) (by rw [hm9]; unfold chM; rw [va_up_ne _ _ (by decide), va_up_ne _ _ (by decide), va_up_self]) (fun i q1 q2 q3 => by rw [hm9]; unfold chM; rw [va_up_ne _ _ (by omega), va_up_ne _ _ q2, va_up_ne _ _ q3])
      · rw [hm9]; unfold chM; rw [va_up_ne _ _ (by decide), va_up_ne _ _ (by decide), va_up_ne _ _ (by decide)]
      · rw [hm9]; unfold chM; rw [va_up_ne _ _ q2, va_up_ne _ _ (by omega), va_up_ne _ _ (by omega)]
      · rw [hm9]; unfold chM; rw [va_up_ne _ _ (by omega), va_up_ne _ _ q2, va_up_ne _ _ q3]
      · rw [hm9]; unfold chM; rw [va_up_ne _ _ (by decide), va_up_self]
      · rw [hm9]; unfold chM; rw [va_up_ne _ _ (by decide), va_up_ne _ _ (by decide), va_up_self]
    · exact ⟨Z, ou, by rw [hm9]; exact hK, by rw [hm9], by rw [hm9]; exact ho, fun i _ _ => by rw [hm9], Or.inr (Or.inl ⟨hr, rfl, hk⟩), fun i _ _ _ => by rw [hm9], fx, by rw [hm9]; exact hTf, Or.inl ⟨rfl, rfl⟩⟩
    · exact ⟨Z, ou, by rw [hm9]; exact hK, by rw [hm9], by rw [hm9]; exact ho, fun i _ _ => by rw [hm9], Or.inr (Or.inr ⟨hr, rfl, hk⟩), fun i _ _ _ => by rw [hm9], fx, by rw [hm9]; exact hTf, Or.inl ⟨rfl, rfl⟩⟩
  obtain ⟨Z1, ou9, hK9, h39, ho9, hf9, hwr, hfo, f1, hTX1, htw⟩ := hA
  have h39 := h39.trans g3
  have hO9 : LO cy mem9 := ⟨ou9, ho9⟩
  have hM9 : MW cy ad J A nm mem9 mem9 := hM.mv (fun i q1 q2 => hf9 i q1 (by omega))
  have hng9 : NoG mem9 := NoG.of hM9.1
  refine lv_istore (lv' := [(5, .int (r9)), (4, .int (nI (4 * t))), (3, .ref (ad 242)), (2, .ref (ad 224)), (1, .ref (ad 0)), (0, .ref (b))]) Bx.1 Bx.2.1 d_Lw_law_129 hl (by decide) rfl (fun ls hl => ?_)
  refine lv_aload_n Bx.1 Bx.2.1 d_Lw_law_131 rfl (lv_at hl 3 rfl) ?_
  refine lv_aload_n Bx.1 Bx.2.1 d_Lw_law_132 rfl (lv_at hl 5 rfl) ?_
  refine lv_iload Bx.1 Bx.2.1 d_Lw_law_133 (lv_at hl 1 rfl) ?_
  refine lv_iconst (v := 1) Bx.1 Bx.2.1 d_Lw_law_135 (by decide) ?_
  refine lv_iadd Bx.1 Bx.2.1 d_Lw_law_136 ?_
  refine f_sld Bx.1 Bx.2.1 hX hbl hbA hS (4 * t + 1) (nI_add (4 * t) 1) (by omega) (by omega) d_Lw_law_137 ?_
  refine lv_i2l Bx.1 Bx.2.1 d_Lw_law_138 rfl ?_
  refine lv_bipush (v := 32) Bx.1 Bx.2.1 d_Lw_law_139 (by decide) ?_
  refine lv_lshl Bx.1 Bx.2.1 d_Lw_law_141 rfl ?_
  refine lv_aload_n Bx.1 Bx.2.1 d_Lw_law_142 rfl (lv_at hl 5 rfl) ?_
  refine lv_iload Bx.1 Bx.2.1 d_Lw_law_143 (lv_at hl 1 rfl) ?_
  refine lv_iconst (v := 2) Bx.1 Bx.2.1 d_Lw_law_145 (by decide) ?_
  refine lv_iadd Bx.1 Bx.2.1 d_Lw_law_146 ?_
  refine f_sld Bx.1 Bx.2.1 hX hbl hbA hS (4 * t + 2) (nI_add (4 * t) 2) (by omega) (by omega) d_Lw_law_147 ?_
  refine lv_i2l Bx.1 Bx.2.1 d_Lw_law_148 rfl ?_
  refine lv_ldc2 Bx.1 Bx.2.1 Bx.2.2.2.1 (Bx.2.2.1 _ (tb_g kw_914 rfl)) d_Lw_law_149 ?_
  refine lv_land Bx.1 Bx.2.1 d_Lw_law_152 ?_
  refine lv_lor Bx.1 Bx.2.1 d_Lw_law_153 ?_
  refine lv_aload_n Bx.1 Bx.2.1 d_Lw_law_154 rfl (lv_at hl 5 rfl) ?_
  refine lv_iload Bx.1 Bx.2.1 d_Lw_law_155 (lv_at hl 1 rfl) ?_
  refine lv_iconst (v := 3) Bx.1 Bx.2.1 d_Lw_law_157 (by decide) ?_
  refine lv_iadd Bx.1 Bx.2.1 d_Lw_law_158 ?_
  refine f_sld Bx.1 Bx.2.1 hX hbl hbA hS (4 * t + 3) (nI_add (4 * t) 3) (by omega) (by omega) d_Lw_law_159 ?_
  refine f_callVi (na := 2) (As := [.long (((xs (4 * t + 1)).toInt64) <<< ((32 : Int32).toInt64 &&& 63) ||| (xs (4 * t + 2)).toInt64 &&& 4294967295), .int (xs (4 * t + 3))]) (rest := []) Bx hml E hP hD hS (by omega) hM9.1 rfl (m_Mo_write l (Z := Z) (by omega) hM9.1 g1 hZ (hM9.2.2.1 225 (by decide) (by decide) (by decide))) kw_750 kw_751 kw_752 kw_8 kw_753 (by decide +kernel) ⟨rfl, rfl⟩ ⟨Nat.le_of_ble_eq_true rfl, Nat.le_of_ble_eq_true rfl⟩ rfl hl.1 (Nat.le_of_ble_eq_true rfl) d_Lw_law_160 ⟨(show 243 + t + 1 ≤ 601024 by omega), (show 7734 + 6 * t + 6 ≤ 7293034 by omega)⟩ (fun r1 mem2 H locs hq2 hP hS => ?_)
  have hD : va_D (Az sz) (fw n ad mem2) := fw_D hD
  have hB : ∃ (J2 : Nat → Int32) (A2 : Nat → Nat → Int32) (Z2 : Nat), MW cy ad J2 A2 nm mem9 mem2 ∧ OI Z2 I J2 A2 ∧ WrM okT 240 (((xs (4 * t + 1)).toInt64) <<< ((32 : Int32).toInt64 &&& 63) ||| (xs (4 * t + 2)).toInt64 &&& 4294967295) (xs (4 * t + 3)) Z Z2 r1 (J2 0) ∧ J2 4 = J 4 ∧ J2 7 = J 7 ∧ A2 227 = A 227 ∧ J2 26 = J 26 ∧ (∀ j, j ≠ 225 → A2 j = A j) ∧ TM (A 225) Z (((xs (4 * t + 1)).toInt64) <<< ((32 : Int32).toInt64 &&& 63) ||| (xs (4 * t + 2)).toInt64 &&& 4294967295) (A2 225) Z2 := by
    rcases hq2 with ⟨hk, hr, J', hm', hJ⟩ | ⟨M, hMk, hM1, hM8, ⟨ha, hr, J', hm', hJ⟩ | ⟨ha, hc', hr, J', hm', hJ⟩ | ⟨ha, hc', hr, J', hm', hJ0, hJ1, hJ⟩⟩
    · exact ⟨J', A, Z, by rw [hm']; exact hM9.upG hng9, hOI.len0 ((hJ.2 1 (by decide)).trans g1) (fun i q _ => hJ.2 i q), Or.inl ⟨hk, hr, hJ.1, rfl⟩, hJ.2 4 (by decide), hJ.2 7 (by decide), rfl, hJ.2 26 (by decide), fun _ _ => rfl, Or.inl ⟨rfl, rfl⟩⟩
    · exact ⟨J', A, Z, by rw [hm']; exact hM9.upG hng9, hOI.len0 ((hJ.2 1 (by decide)).trans g1) (fun i q _ => hJ.2 i q), Or.inr ⟨M, hMk, hM1, hM8, Or.inl ⟨ha, hr, hJ.1, rfl⟩⟩, hJ.2 4 (by decide), hJ.2 7 (by decide), rfl, hJ.2 26 (by decide), fun _ _ => rfl, Or.inl ⟨rfl, rfl⟩⟩
    · exact ⟨J', A, Z, by rw [hm']; exact hM9.upG hng9, hOI.len0 ((hJ.2 1 (by decide)).trans g1) (fun i q _ => hJ.2 i q), Or.inr ⟨M, hMk, hM1, hM8, Or.inr (Or.inl ⟨ha, hc', hr, hJ.1, rfl⟩)⟩, hJ.2 4 (by decide), hJ.2 7 (by decide), rfl, hJ.2 26 (by decide), fun _ _ => rfl, Or.inl ⟨rfl, rfl⟩⟩
    · exact ⟨J', va_up A 225 (apM (A 225) Z (((xs (4 * t + 1)).toInt64) <<< ((32 : Int32).toInt64 &&& 63) ||| (xs (4 * t + 2)).toInt64 &&& 4294967295) M), Z + M, by rw [hm']; exact (hM9.upA (j := 225) (by decide) (by decide) (by decide) (Or.inl (by decide))).upG hng9, hOI.len hJ1 hJ, Or.inr ⟨M, hMk, hM1, hM8, Or.inr (Or.inr ⟨ha, hc', hr, hJ0, rfl⟩)⟩, hJ 4 (by decide) (by decide), hJ 7 (by decide) (by decide), rfl, hJ 26 (by decide) (by decide), fun j hj => va_up_ne _ _ hj, Or.inr ⟨M, hM1, hM8, rfl, va_up_self _ _ _⟩⟩
  obtain ⟨J2, A2, Z2, hM2, hOI2, hwm, j4, j7, a7, j26, aj, htm⟩ := hB
  have hag := wr_agree hwr hwm
  obtain rfl := hag.1
  have htx := tw_agree hfx hT0 htw htm
  refine lv_istore (lv' := [(6, .int (r1)), (5, .int (r9)), (4, .int (nI (4 * t))), (3, .ref (ad 242)), (2, .ref (ad 224)), (1, .ref (ad 0)), (0, .ref (b))]) Bx.1 Bx.2.1 d_Lw_law_163 hl (by decide) rfl (fun ls hl => ?_)
  refine lv_goto Bx.1 Bx.2.1 d_Lw_law_165 rfl ?_
  exact (K (Z1) (I) mem2 _ _ _ (LIv.of hK9 h39 hO9 hM2 hOI2 hGb (hLX.txt hTX1 htx.1 htx.2 hfo j4 j7 a7) (hLY.fr (fun i q1 q2 => hfo i (by omega) (by omega) (by omega)) j4 j7 j26 aj)) hP hD hS (lv_sub hl [2, 3, 4, 5, 6] rfl))
set_option maxHeartbeats 4000000 in
set_option maxRecDepth 100000 in
theorem k_give {p : Program} {e : Env} {s : State} {m : MethodId} {below : List Frame} {meth : Method} {c : Code} (l : Launch) {D : va_G} {cy : Nat → ClassId} {sz n b t L Z G : Nat} {ad : Nat → Nat} {mem : Nat → va_E} {xs : Nat → Int32} {H : Heap} {locs : List Loc} {ls : Array Slot} {Q : State → Prop} (hlt : l.stackTraces = false) (Bx : MB p s m #[Value.ref b] c c_Lw_law "AbnfChartLaw" D cy) (hml : c.maxLocals = 7) (E : EV D cy sz s) (hn : 243 ≤ n) (hX : va_X b L xs s s.heap) (hbl : b < s.heap.size) (hbA : ¬ Az sz b) (htt : t < 512) (hLb : 4 * t + 4 ≤ L ∧ L ≤ 2048) (hI : LIv cy ad Z G mem) (hP : va_P D vcl (fw n ad mem) H) (hD : va_D (Az sz) (fw n ad mem)) (hS : va_S (Az sz) s.heap H locs) (hl : lv_has ls 7 [(4, .int (nI (4 * t))), (3, .ref (ad 242)), (2, .ref (ad 224)), (1, .ref (ad 0)), (0, .ref (b))])
    (K : ∀ (Z G : Nat) (mem : Nat → va_E) (ls : Array Slot) (H : Heap) (locs : List Loc), LIv cy ad Z G mem → va_P D vcl (fw n ad mem) H → va_D (Az sz) (fw n ad mem) → va_S (Az sz) s.heap H locs → lv_has ls 7 [(4, .int (nI (4 * t))), (3, .ref (ad 242)), (2, .ref (ad 224)), (1, .ref (ad 0)), (0, .ref (b))] → W p l e room_1 s m #[Value.ref b] below meth c H locs (243 + t + 1) (7734 + 6 * t + 6) Q (F0 m 531 ls [])) : W p l e room_1 s m #[Value.ref b] below meth c H locs (243 + t) (7734 + 6 * t) Q (F0 m 270 ls []) := by
  obtain ⟨hK, g3, hO, J, A, nm, hM, hOI, hGb, hLX, hLY⟩ := hI
  have hng : NoG mem := NoG.of hM.1
  obtain ⟨inp, hYi, hIi, hgy⟩ := id hLY
  obtain ⟨⟨fx, hTf, hfx⟩, hT0, R9, E9, x4, x7, hGX⟩ := id hLX
  obtain ⟨ou, ho⟩ := id hO
  obtain ⟨h0, ⟨f, hTx⟩, ⟨I, hIx⟩, ⟨lim, rc, ec, wh, hG⟩, ⟨at0, ft, h9⟩, fl, hc⟩ := id hK
  obtain ⟨g1, g24, u, R, Ec, g4, g7, gR, gE, gu, gG⟩ := id hOI
  have hZ := hTx.2.1
  obtain rfl := in_same hIx.2.1 hGb hIx.1 g3
  refine lv_aload_n Bx.1 Bx.2.1 d_Lw_law_270 rfl (lv_at hl 3 rfl) ?_
  refine lv_aload_n Bx.1 Bx.2.1 d_Lw_law_271 rfl (lv_at hl 4 rfl) ?_
  refine lv_iload Bx.1 Bx.2.1 d_Lw_law_272 (lv_at hl 0 rfl) ?_
  refine lv_iconst (v := 1) Bx.1 Bx.2.1 d_Lw_law_274 (by decide) ?_
  refine lv_iadd Bx.1 Bx.2.1 d_Lw_law_275 ?_
  refine f_sld Bx.1 Bx.2.1 hX hbl hbA hS (4 * t + 1) (nI_add (4 * t) 1) (by omega) (by omega) d_Lw_law_276 ?_
  refine lv_i2l Bx.1 Bx.2.1 d_Lw_law_277 rfl ?_
  refine lv_bipush (v := 32) Bx.1 Bx.2.1 d_Lw_law_278 (by decide) ?_
  refine lv_lshl Bx.1 Bx.2.1 d_Lw_law_280 rfl ?_
  refine lv_aload_n Bx.1 Bx.2.1 d_Lw_law_281 rfl (lv_at hl 4 rfl) ?_
  refine lv_iload Bx.1 Bx.2.1 d_Lw_law_282 (lv_at hl 0 rfl) ?_
  refine lv_iconst (v := 2) Bx.1 Bx.2.1 d_Lw_law_284 (by decide) ?_
  refine lv_iadd Bx.1 Bx.2.1 d_Lw_law_285 ?_
  refine f_sld Bx.1 Bx.2.1 hX hbl hbA hS (4 * t + 2) (nI_add (4 * t) 2) (by omega) (by omega) d_Lw_law_286 ?_
  refine lv_i2l Bx.1 Bx.2.1 d_Lw_law_287 rfl ?_
  refine lv_ldc2 Bx.1 Bx.2.1 Bx.2.2.2.1 (Bx.2.2.1 _ (tb_g kw_914 rfl)) d_Lw_law_288 ?_
  refine lv_land Bx.1 Bx.2.1 d_Lw_law_291 ?_
  refine lv_lor Bx.1 Bx.2.1 d_Lw_law_292 ?_
  refine lv_aload_n Bx.1 Bx.2.1 d_Lw_law_293 rfl (lv_at hl 4 rfl) ?_
  refine lv_iload Bx.1 Bx.2.1 d_Lw_law_294 (lv_at hl 0 rfl) ?_
  refine lv_iconst (v := 3) Bx.1 Bx.2.1 d_Lw_law_296 (by decide) ?_
  refine lv_iadd Bx.1 Bx.2.1 d_Lw_law_297 ?_
  refine f_sld Bx.1 Bx.2.1 hX hbl hbA hS (4 * t + 3) (nI_add (4 * t) 3) (by omega) (by omega) d_Lw_law_298 ?_
  refine lv_aload_n Bx.1 Bx.2.1 d_Lw_law_299 rfl (lv_at hl 1 rfl) ?_
  have h4i := hYi.2.2
  refine f_callL (na := 4) (As := [.ref (ad 0), .long (((xs (4 * t + 1)).toInt64) <<< ((32 : Int32).toInt64 &&& 63) ||| (xs (4 * t + 2)).toInt64 &&& 4294967295), .int (xs (4 * t + 3)), .ref (ad 242)]) (rest := []) Bx hml E hP hD hS (m_Lw_give l (Z := I) hlt hn h0 ho hIx.1 h4i hIx.2.1 hc) kw_530 kw_531 kw_0 kw_532 (by decide +kernel) ⟨rfl, rfl⟩ ⟨Nat.le_of_ble_eq_true rfl, Nat.le_of_ble_eq_true rfl⟩ rfl hl.1 (Nat.le_of_ble_eq_true rfl) d_Lw_law_300 ⟨(show 243 + t + 1 ≤ 601024 by omega), (show 7734 + 6 * t + 6 ≤ 7293034 by omega)⟩ (fun r9 mem9 H locs hq hP hS => ?_)
  have hD : va_D (Az sz) (fw n ad mem9) := fw_D hD
  have hA : ∃ (G1 : Nat) (ou9 : Nat → Int64), KI cy ad Z mem9 ∧ mem9 3 = .inr (0, [.ref (ad 4), .int (nI G1)]) ∧ mem9 242 = .inl (cy 2, 1, .inr (.inl ou9)) ∧ (∀ i, 224 ≤ i → i ≠ 242 → mem9 i = mem i) ∧ WrC okI 24 (((xs (4 * t + 1)).toInt64) <<< ((32 : Int32).toInt64 &&& 63) ||| (xs (4 * t + 2)).toInt64 &&& 4294967295) (xs (4 * t + 3)) I G1 r9 (ou9 0) ∧ (∀ i, i < 223 → i ≠ 3 → i ≠ 4 → mem9 i = mem i) ∧ ∃ inp1, IY cy ad G1 inp1 mem9 ∧ TWi inp I (((xs (4 * t + 1)).toInt64) <<< ((32 : Int32).toInt64 &&& 63) ||| (xs (4 * t + 2)).toInt64 &&& 4294967295) inp1 G1 ∧ ((mem9 223 = ctC ad 0 ∧ G1 ≠ I) ∨ (G1 = I ∧ inp1 = inp ∧ ∀ i, i < 224 → mem9 i = mem i)) := by
    rcases hq with ⟨hr, N, hk, hN1, hN8, ha, hroom, hm9⟩ | ⟨hr, hm9, hk⟩ | ⟨hr, hm9, hk⟩
    · have h3n : mem9 3 = .inr (0, [.ref (ad 4), .int (nI (I + N))]) := by rw [hm9]; unfold chM; rw [va_up_ne _ _ (by decide), va_up_self]
      refine ⟨I + N, _, ?_, h3n, by rw [hm9, va_up_self], fun i q1 q2 => ?_, Or.inl ⟨hr, N, hk, hN1, hN8, ha, hroom, rfl, rfl⟩, fun i q1 q2 q3 => ?_, apB inp I (((xs (4 * t + 1)).toInt64) <<< ((32 : Int32).toInt64 &&& 63) ||| (xs (4 * t + 2)).toInt64 &&& 4294967295) N, ⟨h3n, hroom, ?_⟩, Or.inr ⟨N, hN1, hN8, rfl, rfl, ha⟩, Or.inl ⟨?_, by omega⟩⟩
      · exact hK.input hroom (f := apB inp I (((xs (4 * t + 1)).toInt64) <<< ((32 : Int32).toInt64 &&& 63) ||| (xs (4 * t + 2)).toInt64 &&& 4294967295) N) (fl := 0) h3n (by rw [hm9]; unfold chM; rw [va_up_ne _ _ (by decide), va_up_ne _ _ (by decide), va_up_self]) (by rw [hm9]; unfold chM; rw [va_up_ne _ _ (by decide), va_up_ne _ _ (by decide), va_up_ne _ _ (by decide), va_up_self]) (fun i q1 q2 q3 => by rw [hm9]; unfold chM; rw [va_up_ne _ _ (by omega), va_up_ne _ _ q2, va_up_ne _ _ q3, va_up_ne _ _ (by omega)])
      · rw [hm9]; unfold chM; rw [va_up_ne _ _ q2, va_up_ne _ _ (by omega), va_up_ne _ _ (by omega), va_up_ne _ _ (by omega)]
      · rw [hm9]; unfold chM; rw [va_up_ne _ _ (by omega), va_up_ne _ _ q2, va_up_ne _ _ q3, va_up_ne _ _ (by omega)]
      · rw [hm9]; unfold chM; rw [va_up_ne _ _ (by decide), va_up_ne _ _ (by decide), va_up_self]
      · rw [hm9]; unfold chM; rw [va_up_ne _ _ (by decide), va_up_ne _ _ (by decide), va_up_ne _ _ (by decide), va_up_self]
    · exact ⟨I, ou, by rw [hm9]; exact hK, by rw [hm9]; exact g3, by rw [hm9]; exact ho, fun i _ _ => by rw [hm9], Or.inr (Or.inl ⟨hr, rfl, hk⟩), fun i _ _ _ => by rw [hm9], inp, by rw [hm9]; exact hYi, Or.inl ⟨rfl, rfl⟩, Or.inr ⟨rfl, rfl, fun i _ => by rw [hm9]⟩⟩
    · exact ⟨I, ou, by rw [hm9]; exact hK, by rw [hm9]; exact g3, by rw [hm9]; exact ho, fun i _ _ => by rw [hm9], Or.inr (Or.inr ⟨hr, rfl, hk⟩), fun i _ _ _ => by rw [hm9], inp, by rw [hm9]; exact hYi, Or.inl ⟨rfl, rfl⟩, Or.inr ⟨rfl, rfl, fun i _ => by rw [hm9]⟩⟩
  obtain ⟨G1, ou9, hK9, h39, ho9, hf9, hwr, hfo, inp1, hY1, hti, hch⟩ := hA
  have hO9 : LO cy mem9 := ⟨ou9, ho9⟩
  have hM9 : MW cy ad J A nm mem9 mem9 := hM.mv (fun i q1 q2 => hf9 i q1 (by omega))
  have hng9 : NoG mem9 := NoG.of hM9.1
  refine lv_istore (lv' := [(5, .int (r9)), (4, .int (nI (4 * t))), (3, .ref (ad 242)), (2, .ref (ad 224)), (1, .ref (ad 0)), (0, .ref (b))]) Bx.1 Bx.2.1 d_Lw_law_303 hl (by decide) rfl (fun ls hl => ?_)
  refine lv_aload_n Bx.1 Bx.2.1 d_Lw_law_305 rfl (lv_at hl 3 rfl) ?_
  refine lv_aload_n Bx.1 Bx.2.1 d_Lw_law_306 rfl (lv_at hl 5 rfl) ?_
  refine lv_iload Bx.1 Bx.2.1 d_Lw_law_307 (lv_at hl 1 rfl) ?_
  refine lv_iconst (v := 1) Bx.1 Bx.2.1 d_Lw_law_309 (by decide) ?_
  refine lv_iadd Bx.1 Bx.2.1 d_Lw_law_310 ?_
  refine f_sld Bx.1 Bx.2.1 hX hbl hbA hS (4 * t + 1) (nI_add (4 * t) 1) (by omega) (by omega) d_Lw_law_311 ?_
  refine lv_i2l Bx.1 Bx.2.1 d_Lw_law_312 rfl ?_
  refine lv_bipush (v := 32) Bx.1 Bx.2.1 d_Lw_law_313 (by decide) ?_
  refine lv_lshl Bx.1 Bx.2.1 d_Lw_law_315 rfl ?_
  refine lv_aload_n Bx.1 Bx.2.1 d_Lw_law_316 rfl (lv_at hl 5 rfl) ?_
  refine lv_iload Bx.1 Bx.2.1 d_Lw_law_317 (lv_at hl 1 rfl) ?_
  refine lv_iconst (v := 2) Bx.1 Bx.2.1 d_Lw_law_319 (by decide) ?_
  refine lv_iadd Bx.1 Bx.2.1 d_Lw_law_320 ?_
  refine f_sld Bx.1 Bx.2.1 hX hbl hbA hS (4 * t + 2) (nI_add (4 * t) 2) (by omega) (by omega) d_Lw_law_321 ?_
  refine lv_i2l Bx.1 Bx.2.1 d_Lw_law_322 rfl ?_
  refine lv_ldc2 Bx.1 Bx.2.1 Bx.2.2.2.1 (Bx.2.2.1 _ (tb_g kw_914 rfl)) d_Lw_law_323 ?_
  refine lv_land Bx.1 Bx.2.1 d_Lw_law_326 ?_
  refine lv_lor Bx.1 Bx.2.1 d_Lw_law_327 ?_
  refine lv_aload_n Bx.1 Bx.2.1 d_Lw_law_328 rfl (lv_at hl 5 rfl) ?_
  refine lv_iload Bx.1 Bx.2.1 d_Lw_law_329 (lv_at hl 1 rfl) ?_
  refine lv_iconst (v := 3) Bx.1 Bx.2.1 d_Lw_law_331 (by decide) ?_
  refine lv_iadd Bx.1 Bx.2.1 d_Lw_law_332 ?_
  refine f_sld Bx.1 Bx.2.1 hX hbl hbA hS (4 * t + 3) (nI_add (4 * t) 3) (by omega) (by omega) d_Lw_law_333 ?_
  refine f_callVi (na := 2) (As := [.long (((xs (4 * t + 1)).toInt64) <<< ((32 : Int32).toInt64 &&& 63) ||| (xs (4 * t + 2)).toInt64 &&& 4294967295), .int (xs (4 * t + 3))]) (rest := []) Bx hml E hP hD hS (by omega) hM9.1 rfl (m_Mo_give l (Z := I) (by omega) hM9.1 g24 hGb (hM9.2.2.1 240 (by decide) (by decide) (by decide))) kw_865 kw_866 kw_867 kw_8 kw_868 (by decide +kernel) ⟨rfl, rfl⟩ ⟨Nat.le_of_ble_eq_true rfl, Nat.le_of_ble_eq_true rfl⟩ rfl hl.1 (Nat.le_of_ble_eq_true rfl) d_Lw_law_334 ⟨(show 243 + t + 1 ≤ 601024 by omega), (show 7734 + 6 * t + 6 ≤ 7293034 by omega)⟩ (fun r1 mem2 H locs hq2 hP hS => ?_)
  have hD : va_D (Az sz) (fw n ad mem2) := fw_D hD
  have hB : ∃ (J2 : Nat → Int32) (A2 : Nat → Nat → Int32) (G2 : Nat), MW cy ad J2 A2 nm mem9 mem2 ∧ OI Z G2 J2 A2 ∧ G2 ≤ 24 ∧ WrM okI 24 (((xs (4 * t + 1)).toInt64) <<< ((32 : Int32).toInt64 &&& 63) ||| (xs (4 * t + 2)).toInt64 &&& 4294967295) (xs (4 * t + 3)) I G2 r1 (J2 0) ∧ J2 4 = J 4 ∧ J2 7 = J 7 ∧ A2 225 = A 225 ∧ A2 227 = A 227 ∧ TM (A 240) I (((xs (4 * t + 1)).toInt64) <<< ((32 : Int32).toInt64 &&& 63) ||| (xs (4 * t + 2)).toInt64 &&& 4294967295) (A2 240) G2 ∧ (∀ j, j ≠ 240 → A2 j = A j) ∧ ((J2 26 = 1 ∧ G2 ≠ I) ∨ (J2 26 = J 26 ∧ G2 = I ∧ A2 = A)) := by
    rcases hq2 with ⟨hk, hr, J', hm', hJ⟩ | ⟨M, hMk, hM1, hM8, ⟨ha, hr, J', hm', hJ⟩ | ⟨ha, hc', hr, J', hm', hJ⟩ | ⟨ha, hc', hr, J', hm', hJ0, hJ1, hJ26, hJ⟩⟩
    · exact ⟨J', A, I, by rw [hm']; exact hM9.upG hng9, hOI.giv0 ((hJ.2 24 (by decide)).trans g24) (fun i q _ _ => hJ.2 i q), hGb, Or.inl ⟨hk, hr, hJ.1, rfl⟩, hJ.2 4 (by decide), hJ.2 7 (by decide), rfl, rfl, Or.inl ⟨rfl, rfl⟩, fun _ _ => rfl, Or.inr ⟨hJ.2 26 (by decide), rfl, rfl⟩⟩
    · exact ⟨J', A, I, by rw [hm']; exact hM9.upG hng9, hOI.giv0 ((hJ.2 24 (by decide)).trans g24) (fun i q _ _ => hJ.2 i q), hGb, Or.inr ⟨M, hMk, hM1, hM8, Or.inl ⟨ha, hr, hJ.1, rfl⟩⟩, hJ.2 4 (by decide), hJ.2 7 (by decide), rfl, rfl, Or.inl ⟨rfl, rfl⟩, fun _ _ => rfl, Or.inr ⟨hJ.2 26 (by decide), rfl, rfl⟩⟩
    · exact ⟨J', A, I, by rw [hm']; exact hM9.upG hng9, hOI.giv0 ((hJ.2 24 (by decide)).trans g24) (fun i q _ _ => hJ.2 i q), hGb, Or.inr ⟨M, hMk, hM1, hM8, Or.inr (Or.inl ⟨ha, hc', hr, hJ.1, rfl⟩)⟩, hJ.2 4 (by decide), hJ.2 7 (by decide), rfl, rfl, Or.inl ⟨rfl, rfl⟩, fun _ _ => rfl, Or.inr ⟨hJ.2 26 (by decide), rfl, rfl⟩⟩
    · exact ⟨J', va_up A 240 (apM (A 240) I (((xs (4 * t + 1)).toInt64) <<< ((32 : Int32).toInt64 &&& 63) ||| (xs (4 * t + 2)).toInt64 &&& 4294967295) M), I + M, by rw [hm']; exact (hM9.upA (j := 240) (by decide) (by decide) (by decide) (Or.inr hng9)).upG hng9, hOI.giv hJ1 hJ, hc', Or.inr ⟨M, hMk, hM1, hM8, Or.inr (Or.inr ⟨ha, hc', hr, hJ0, rfl⟩)⟩, hJ 4 (by decide) (by decide) (by decide), hJ 7 (by decide) (by decide) (by decide), rfl, rfl, Or.inr ⟨M, hM1, hM8, rfl, va_up_self _ _ _⟩, fun j hj => va_up_ne _ _ hj, Or.inl ⟨hJ26, by omega⟩⟩
  obtain ⟨J2, A2, G2, hM2, hOI2, hG2, hwm, j4, j7, a5, a7, htm, aj, hst⟩ := hB
  have hag := wr_agree hwr hwm
  obtain rfl := hag.1
  have hLY9 : LY cy ad G1 J2 A2 mem9 := by
    rcases hst with ⟨h26, hne⟩ | ⟨h26, he, ha⟩
    · exact hLY.newin (fun i q1 q2 => hfo i (by omega) (by omega) (by omega)) hY1 (ti_agree hIi hti htm) (hch.resolve_right (fun z => hne z.1)).1 j4 j7 h26 aj
    · rcases hch with hch | ⟨-, hi1, hsm⟩
      · exact absurd he hch.2
      · subst he ha
        exact hLY.fr (fun i q1 q2 => hsm i (by omega)) j4 j7 h26 (fun _ _ => rfl)
  refine lv_istore (lv' := [(6, .int (r1)), (5, .int (r9)), (4, .int (nI (4 * t))), (3, .ref (ad 242)), (2, .ref (ad 224)), (1, .ref (ad 0)), (0, .ref (b))]) Bx.1 Bx.2.1 d_Lw_law_337 hl (by decide) rfl (fun ls hl => ?_)
  refine lv_goto Bx.1 Bx.2.1 d_Lw_law_339 rfl ?_
  exact (K (Z) (G1) mem2 _ _ _ (LIv.of hK9 h39 hO9 hM2 hOI2 hG2 (hLX.inp hfo j4 j7 a5 a7) hLY9) hP hD hS (lv_sub hl [2, 3, 4, 5, 6] rfl))
set_option maxHeartbeats 4000000 in
set_option maxRecDepth 100000 in
theorem k_erase {p : Program} {e : Env} {s : State} {m : MethodId} {below : List Frame} {meth : Method} {c : Code} (l : Launch) {D : va_G} {cy : Nat → ClassId} {sz n b t L Z G : Nat} {ad : Nat → Nat} {mem : Nat → va_E} {xs : Nat → Int32} {H : Heap} {locs : List Loc} {ls : Array Slot} {Q : State → Prop} (hlt : l.stackTraces = false) (Bx : MB p s m #[Value.ref b] c c_Lw_law "AbnfChartLaw" D cy) (hml : c.maxLocals = 7) (E : EV D cy sz s) (hn : 243 ≤ n) (hX : va_X b L xs s s.heap) (hbl : b < s.heap.size) (hbA : ¬ Az sz b) (htt : t < 512) (hLb : 4 * t + 4 ≤ L ∧ L ≤ 2048) (hI : LIv cy ad Z G mem) (hP : va_P D vcl (fw n ad mem) H) (hD : va_D (Az sz) (fw n ad mem)) (hS : va_S (Az sz) s.heap H locs) (hl : lv_has ls 7 [(4, .int (nI (4 * t))), (3, .ref (ad 242)), (2, .ref (ad 224)), (1, .ref (ad 0)), (0, .ref (b))])
    (K : ∀ (Z G : Nat) (mem : Nat → va_E) (ls : Array Slot) (H : Heap) (locs : List Loc), LIv cy ad Z G mem → va_P D vcl (fw n ad mem) H → va_D (Az sz) (fw n ad mem) → va_S (Az sz) s.heap H locs → lv_has ls 7 [(4, .int (nI (4 * t))), (3, .ref (ad 242)), (2, .ref (ad 224)), (1, .ref (ad 0)), (0, .ref (b))] → W p l e room_1 s m #[Value.ref b] below meth c H locs (243 + t + 1) (7734 + 6 * t + 6) Q (F0 m 531 ls [])) : W p l e room_1 s m #[Value.ref b] below meth c H locs (243 + t) (7734 + 6 * t) Q (F0 m 168 ls []) := by
  obtain ⟨hK, g3, hO, J, A, nm, hM, hOI, hGb, hLX, hLY⟩ := hI
  have hng : NoG mem := NoG.of hM.1
  obtain ⟨inp, hYi, hIi, hgy⟩ := id hLY
  obtain ⟨⟨fx, hTf, hfx⟩, hT0, R9, E9, x4, x7, hGX⟩ := id hLX
  obtain ⟨ou, ho⟩ := id hO
  obtain ⟨h0, ⟨f, hTx⟩, ⟨I, hIx⟩, ⟨lim, rc, ec, wh, hG⟩, ⟨at0, ft, h9⟩, fl, hc⟩ := id hK
  obtain ⟨g1, g24, u, R, Ec, g4, g7, gR, gE, gu, gG⟩ := id hOI
  have hZ := hTx.2.1
  obtain rfl := in_same hIx.2.1 hGb hIx.1 g3
  refine lv_aload_n Bx.1 Bx.2.1 d_Lw_law_168 rfl (lv_at hl 3 rfl) ?_
  refine f_callVi (na := 0) (As := []) (rest := []) Bx hml E hP hD hS (by omega) h0 rfl (m_Ab_erase l (by omega) h0 hTx.1) kw_190 kw_191 kw_192 kw_1 kw_193 (by decide +kernel) ⟨rfl, rfl⟩ ⟨Nat.le_of_ble_eq_true rfl, Nat.le_of_ble_eq_true rfl⟩ rfl hl.1 (Nat.le_of_ble_eq_true rfl) d_Lw_law_169 ⟨(show 243 + t ≤ 601024 by omega), (show 7734 + 6 * t ≤ 7293034 by omega)⟩ (fun r1 mem2 H locs hq hP hS => ?_)
  have hD : va_D (Az sz) (fw n ad mem2) := fw_D hD
  obtain ⟨hr9, hm9⟩ := hq
  have hK9 : KI cy ad 0 mem2 := hK.text (by omega) (f := f) (by rw [hm9, va_up_self]; rfl) (by rw [hm9, va_up_ne _ _ (by decide)]; exact hTx.2.2) (fun i q1 q2 q3 => by rw [hm9, va_up_ne _ _ q2])
  have h39 : mem2 3 = .inr (0, [.ref (ad 4), .int (nI I)]) := by rw [hm9, va_up_ne _ _ (by decide)]; exact g3
  have hf9 : ∀ i, 224 ≤ i → mem2 i = mem i := fun i q => by rw [hm9, va_up_ne _ _ (by omega)]
  have hO9 : LO cy mem2 := ⟨ou, (hf9 242 (by omega)).trans ho⟩
  have hM9 : MW cy ad J A nm mem2 mem2 := hM.mv (fun i q1 q2 => hf9 i q1)
  refine lv_pop Bx.1 Bx.2.1 d_Lw_law_172 rfl ?_
  refine lv_aload_n Bx.1 Bx.2.1 d_Lw_law_173 rfl (lv_at hl 2 rfl) ?_
  refine f_callVi (na := 0) (As := []) (rest := []) Bx hml E hP hD hS (by omega) hM9.1 rfl (m_Mo_erase l (by omega) hM9.1) kw_762 kw_763 kw_764 kw_8 kw_765 (by decide +kernel) ⟨rfl, rfl⟩ ⟨Nat.le_of_ble_eq_true rfl, Nat.le_of_ble_eq_true rfl⟩ rfl hl.1 (Nat.le_of_ble_eq_true rfl) d_Lw_law_174 ⟨(show 243 + t ≤ 601024 by omega), (show 7734 + 6 * t ≤ 7293034 by omega)⟩ (fun r3 mem4 H locs hq2 hP hS => ?_)
  have hD : va_D (Az sz) (fw n ad mem4) := fw_D hD
  obtain ⟨hr2, hm2⟩ := hq2
  have hM2 : MW cy ad (va_up (va_up J 0 0) 1 0) A nm mem2 mem4 := by rw [hm2]; exact hM9.upG (NoG.of hM9.1)
  have hOI2 : OI 0 I (va_up (va_up J 0 0) 1 0) A := hOI.len0 (Z' := 0) rfl (fun i q1 q2 => by rw [va_up_ne _ _ q2, va_up_ne _ _ q1])
  refine lv_pop Bx.1 Bx.2.1 d_Lw_law_177 rfl ?_
  refine lv_goto Bx.1 Bx.2.1 d_Lw_law_178 rfl ?_
  exact W.widen (by omega) (by omega) (K (0) (I) mem4 _ _ _ (LIv.of hK9 h39 hO9 hM2 hOI2 hGb (hLX.txt (Z' := 0) (f' := fx) (mem' := mem2) ⟨by rw [hm9, va_up_self]; rfl, by omega, by rw [hm9, va_up_ne _ _ (by decide)]; exact hTf.2.2⟩ (fun k hk => by omega) (fun k hk => by omega) (fun i q1 q2 q3 => by rw [hm9, va_up_ne _ _ q2]) rfl rfl rfl) (hLY.fr (mem' := mem2) (fun i q1 q2 => by rw [hm9, va_up_ne _ _ (by omega)]) rfl rfl rfl (fun _ _ => rfl))) hP hD hS (lv_sub hl [0, 1, 2, 3, 4] rfl))
set_option maxHeartbeats 4000000 in
set_option maxRecDepth 100000 in
theorem k_place {p : Program} {e : Env} {s : State} {m : MethodId} {below : List Frame} {meth : Method} {c : Code} (l : Launch) {D : va_G} {cy : Nat → ClassId} {sz n b t L Z G : Nat} {ad : Nat → Nat} {mem : Nat → va_E} {xs : Nat → Int32} {H : Heap} {locs : List Loc} {ls : Array Slot} {Q : State → Prop} (hlt : l.stackTraces = false) (Bx : MB p s m #[Value.ref b] c c_Lw_law "AbnfChartLaw" D cy) (hml : c.maxLocals = 7) (E : EV D cy sz s) (hn : 243 ≤ n) (hX : va_X b L xs s s.heap) (hbl : b < s.heap.size) (hbA : ¬ Az sz b) (htt : t < 512) (hLb : 4 * t + 4 ≤ L ∧ L ≤ 2048) (hI : LIv cy ad Z G mem) (hP : va_P D vcl (fw n ad mem) H) (hD : va_D (Az sz) (fw n ad mem)) (hS : va_S (Az sz) s.heap H locs) (hl : lv_has ls 7 [(4, .int (nI (4 * t))), (3, .ref (ad 242)), (2, .ref (ad 224)), (1, .ref (ad 0)), (0, .ref (b))])
    (K : ∀ (Z G : Nat) (mem : Nat → va_E) (ls : Array Slot) (H : Heap) (locs : List Loc), LIv cy ad Z G mem → va_P D vcl (fw n ad mem) H → va_D (Az sz) (fw n ad mem) → va_S (Az sz) s.heap H locs → lv_has ls 7 [(4, .int (nI (4 * t))), (3, .ref (ad 242)), (2, .ref (ad 224)), (1, .ref (ad 0)), (0, .ref (b))] → W p l e room_1 s m #[Value.ref b] below meth c H locs (243 + t + 1) (7734 + 6 * t + 6) Q (F0 m 531 ls [])) : W p l e room_1 s m #[Value.ref b] below meth c H locs (243 + t) (7734 + 6 * t) Q (F0 m 197 ls []) := by
  obtain ⟨hK, g3, hO, J, A, nm, hM, hOI, hGb, hLX, hLY⟩ := hI
  have hng : NoG mem := NoG.of hM.1
  obtain ⟨inp, hYi, hIi, hgy⟩ := id hLY
  obtain ⟨⟨fx, hTf, hfx⟩, hT0, R9, E9, x4, x7, hGX⟩ := id hLX
  obtain ⟨ou, ho⟩ := id hO
  obtain ⟨h0, ⟨f, hTx⟩, ⟨I, hIx⟩, ⟨lim, rc, ec, wh, hG⟩, ⟨at0, ft, h9⟩, fl, hc⟩ := id hK
  obtain ⟨g1, g24, u, R, Ec, g4, g7, gR, gE, gu, gG⟩ := id hOI
  have hZ := hTx.2.1
  obtain rfl := in_same hIx.2.1 hGb hIx.1 g3
  refine lv_aload_n Bx.1 Bx.2.1 d_Lw_law_197 rfl (lv_at hl 3 rfl) ?_
  refine f_callVi (na := 0) (As := []) (rest := []) Bx hml E hP hD hS (by omega) h0 rfl (m_Ab_place l (by omega) h0 h9) kw_198 kw_199 kw_200 kw_1 kw_201 (by decide +kernel) ⟨rfl, rfl⟩ ⟨Nat.le_of_ble_eq_true rfl, Nat.le_of_ble_eq_true rfl⟩ rfl hl.1 (Nat.le_of_ble_eq_true rfl) d_Lw_law_198 ⟨(show 243 + t ≤ 601024 by omega), (show 7734 + 6 * t ≤ 7293034 by omega)⟩ (fun r1 mem2 H locs hq hP hS => ?_)
  have hD : va_D (Az sz) (fw n ad mem2) := fw_D hD
  obtain ⟨hr9, hm9⟩ := hq
  have hK9 : KI cy ad Z mem2 := by rw [hm9]; exact hK
  have h39 : mem2 3 = .inr (0, [.ref (ad 4), .int (nI I)]) := by rw [hm9]; exact g3
  have hf9 : ∀ i, 224 ≤ i → mem2 i = mem i := fun i q => by rw [hm9]
  have hO9 : LO cy mem2 := ⟨ou, (hf9 242 (by omega)).trans ho⟩
  have hM9 : MW cy ad J A nm mem2 mem2 := hM.mv (fun i q1 q2 => hf9 i q1)
  refine lv_pop Bx.1 Bx.2.1 d_Lw_law_201 rfl ?_
  refine lv_aload_n Bx.1 Bx.2.1 d_Lw_law_202 rfl (lv_at hl 2 rfl) ?_
  refine f_callVi (na := 0) (As := []) (rest := []) Bx hml E hP hD hS (by omega) hM9.1 rfl (m_Mo_place l (by omega) hM9.1) kw_857 kw_858 kw_859 kw_8 kw_860 (by decide +kernel) ⟨rfl, rfl⟩ ⟨Nat.le_of_ble_eq_true rfl, Nat.le_of_ble_eq_true rfl⟩ rfl hl.1 (Nat.le_of_ble_eq_true rfl) d_Lw_law_203 ⟨(show 243 + t ≤ 601024 by omega), (show 7734 + 6 * t ≤ 7293034 by omega)⟩ (fun r3 mem4 H locs hq2 hP hS => ?_)
  have hD : va_D (Az sz) (fw n ad mem4) := fw_D hD
  obtain ⟨hr2, hm2⟩ := hq2
  have hM2 : MW cy ad (va_up J 0 0) A nm mem2 mem4 := by rw [hm2]; exact hM9.upG (NoG.of hM9.1)
  have hOI2 : OI Z I (va_up J 0 0) A := hOI.keep (fun i q1 q2 => va_up_ne _ _ q1) (fun _ _ => rfl)
  refine lv_pop Bx.1 Bx.2.1 d_Lw_law_206 rfl ?_
  refine lv_goto Bx.1 Bx.2.1 d_Lw_law_207 rfl ?_
  exact W.widen (by omega) (by omega) (K (Z) (I) mem4 _ _ _ (LIv.of hK9 h39 hO9 hM2 hOI2 hGb (hLX.inp (mem' := mem2) (fun i _ _ _ => by rw [hm9]) rfl rfl rfl rfl) (hLY.fr (mem' := mem2) (fun i _ _ => by rw [hm9]) rfl rfl rfl (fun _ _ => rfl))) hP hD hS (lv_sub hl [0, 1, 2, 3, 4] rfl))
set_option maxHeartbeats 4000000 in
set_option maxRecDepth 100000 in
theorem k_drop {p : Program} {e : Env} {s : State} {m : MethodId} {below : List Frame} {meth : Method} {c : Code} (l : Launch) {D : va_G} {cy : Nat → ClassId} {sz n b t L Z G : Nat} {ad : Nat → Nat} {mem : Nat → va_E} {xs : Nat → Int32} {H : Heap} {locs : List Loc} {ls : Array Slot} {Q : State → Prop} (hlt : l.stackTraces = false) (Bx : MB p s m #[Value.ref b] c c_Lw_law "AbnfChartLaw" D cy) (hml : c.maxLocals = 7) (E : EV D cy sz s) (hn : 243 ≤ n) (hX : va_X b L xs s s.heap) (hbl : b < s.heap.size) (hbA : ¬ Az sz b) (htt : t < 512) (hLb : 4 * t + 4 ≤ L ∧ L ≤ 2048) (hI : LIv cy ad Z G mem) (hP : va_P D vcl (fw n ad mem) H) (hD : va_D (Az sz) (fw n ad mem)) (hS : va_S (Az sz) s.heap H locs) (hl : lv_has ls 7 [(4, .int (nI (4 * t))), (3, .ref (ad 242)), (2, .ref (ad 224)), (1, .ref (ad 0)), (0, .ref (b))])
    (K : ∀ (Z G : Nat) (mem : Nat → va_E) (ls : Array Slot) (H : Heap) (locs : List Loc), LIv cy ad Z G mem → va_P D vcl (fw n ad mem) H → va_D (Az sz) (fw n ad mem) → va_S (Az sz) s.heap H locs → lv_has ls 7 [(4, .int (nI (4 * t))), (3, .ref (ad 242)), (2, .ref (ad 224)), (1, .ref (ad 0)), (0, .ref (b))] → W p l e room_1 s m #[Value.ref b] below meth c H locs (243 + t + 1) (7734 + 6 * t + 6) Q (F0 m 531 ls [])) : W p l e room_1 s m #[Value.ref b] below meth c H locs (243 + t) (7734 + 6 * t) Q (F0 m 342 ls []) := by
  obtain ⟨hK, g3, hO, J, A, nm, hM, hOI, hGb, hLX, hLY⟩ := hI
  have hng : NoG mem := NoG.of hM.1
  obtain ⟨inp, hYi, hIi, hgy⟩ := id hLY
  obtain ⟨⟨fx, hTf, hfx⟩, hT0, R9, E9, x4, x7, hGX⟩ := id hLX
  obtain ⟨ou, ho⟩ := id hO
  obtain ⟨h0, ⟨f, hTx⟩, ⟨I, hIx⟩, ⟨lim, rc, ec, wh, hG⟩, ⟨at0, ft, h9⟩, fl, hc⟩ := id hK
  obtain ⟨g1, g24, u, R, Ec, g4, g7, gR, gE, gu, gG⟩ := id hOI
  have hZ := hTx.2.1
  obtain rfl := in_same hIx.2.1 hGb hIx.1 g3
  refine lv_aload_n Bx.1 Bx.2.1 d_Lw_law_342 rfl (lv_at hl 3 rfl) ?_
  refine f_callVi (na := 0) (As := []) (rest := []) Bx hml E hP hD hS (by omega) h0 rfl (m_Ab_drop l (by omega) h0 hIx.1 hc) kw_202 kw_203 kw_204 kw_1 kw_205 (by decide +kernel) ⟨rfl, rfl⟩ ⟨Nat.le_of_ble_eq_true rfl, Nat.le_of_ble_eq_true rfl⟩ rfl hl.1 (Nat.le_of_ble_eq_true rfl) d_Lw_law_343 ⟨(show 243 + t ≤ 601024 by omega), (show 7734 + 6 * t ≤ 7293034 by omega)⟩ (fun r1 mem2 H locs hq hP hS => ?_)
  have hD : va_D (Az sz) (fw n ad mem2) := fw_D hD
  obtain ⟨hr9, hm9⟩ := hq
  obtain ⟨gi, h4i⟩ := hIx.2.2
  have h39 : mem2 3 = .inr (0, [.ref (ad 4), .int (nI 0)]) := by rw [hm9, va_up_self]; rfl
  have hK9 : KI cy ad Z mem2 := hK.input (I' := 0) (by omega) (f := gi) (fl := 0) h39 (by rw [hm9, va_up_ne _ _ (by decide), va_up_ne _ _ (by decide)]; exact h4i) (by rw [hm9, va_up_ne _ _ (by decide), va_up_self]) (fun i q1 q2 q3 => by rw [hm9, va_up_ne _ _ q2, va_up_ne _ _ (by omega)])
  have hf9 : ∀ i, 224 ≤ i → mem2 i = mem i := fun i q => by rw [hm9, va_up_ne _ _ (by omega), va_up_ne _ _ (by omega)]
  have hO9 : LO cy mem2 := ⟨ou, (hf9 242 (by omega)).trans ho⟩
  have hM9 : MW cy ad J A nm mem2 mem2 := hM.mv (fun i q1 q2 => hf9 i q1)
  refine lv_pop Bx.1 Bx.2.1 d_Lw_law_346 rfl ?_
  refine lv_aload_n Bx.1 Bx.2.1 d_Lw_law_347 rfl (lv_at hl 2 rfl) ?_
  refine f_callVi (na := 0) (As := []) (rest := []) Bx hml E hP hD hS (by omega) hM9.1 rfl (m_Mo_drop l (by omega) hM9.1) kw_870 kw_871 kw_872 kw_8 kw_873 (by decide +kernel) ⟨rfl, rfl⟩ ⟨Nat.le_of_ble_eq_true rfl, Nat.le_of_ble_eq_true rfl⟩ rfl hl.1 (Nat.le_of_ble_eq_true rfl) d_Lw_law_348 ⟨(show 243 + t ≤ 601024 by omega), (show 7734 + 6 * t ≤ 7293034 by omega)⟩ (fun r3 mem4 H locs hq2 hP hS => ?_)
  have hD : va_D (Az sz) (fw n ad mem4) := fw_D hD
  obtain ⟨hr2, hm2⟩ := hq2
  have hM2 : MW cy ad (va_up (va_up (va_up J 0 0) 24 0) 26 1) A nm mem2 mem4 := by rw [hm2]; exact hM9.upG (NoG.of hM9.1)
  have hOI2 : OI Z 0 (va_up (va_up (va_up J 0 0) 24 0) 26 1) A := hOI.giv0 (G' := 0) rfl (fun i q1 q2 q3 => by rw [va_up_ne _ _ q3, va_up_ne _ _ q2, va_up_ne _ _ q1])
  refine lv_pop Bx.1 Bx.2.1 d_Lw_law_351 rfl ?_
  refine lv_goto Bx.1 Bx.2.1 d_Lw_law_352 rfl ?_
  exact W.widen (by omega) (by omega) (K (Z) (0) mem4 _ _ _ (LIv.of hK9 h39 hO9 hM2 hOI2 (Nat.zero_le 24) (hLX.inp (mem' := mem2) (fun i q1 q2 q3 => by rw [hm9, va_up_ne _ _ q2, va_up_ne _ _ (by omega)]) rfl rfl rfl rfl) (hLY.newin (mem' := mem2) (inp' := inp) (fun i q1 q2 => by rw [hm9, va_up_ne _ _ (by omega), va_up_ne _ _ (by omega)]) ⟨h39, by omega, by rw [hm9, va_up_ne _ _ (by decide), va_up_ne _ _ (by decide)]; exact hYi.2.2⟩ (fun m hm => by omega) (by rw [hm9, va_up_ne _ _ (by decide), va_up_self]) rfl rfl rfl (fun _ _ => rfl))) hP hD hS (lv_sub hl [0, 1, 2, 3, 4] rfl))
