theorem dL_law_0 : decode cL_law 0 = .ok (.new 11, 3) := by decide +kernel
theorem dL_law_3 : decode cL_law 3 = .ok (.dup, 1) := by decide +kernel
theorem dL_law_4 : decode cL_law 4 = .ok (.invokespecial 237, 3) := by decide +kernel
theorem dL_law_7 : decode cL_law 7 = .ok (.astore_n 1, 1) := by decide +kernel
theorem dL_law_8 : decode cL_law 8 = .ok (.bipush 20, 2) := by decide +kernel
theorem dL_law_10 : decode cL_law 10 = .ok (.newarray .int, 2) := by decide +kernel
theorem dL_law_12 : decode cL_law 12 = .ok (.astore_n 2, 1) := by decide +kernel
theorem dL_law_13 : decode cL_law 13 = .ok (.bipush 9, 2) := by decide +kernel
theorem dL_law_15 : decode cL_law 15 = .ok (.newarray .int, 2) := by decide +kernel
theorem dL_law_17 : decode cL_law 17 = .ok (.astore_n 3, 1) := by decide +kernel
theorem dL_law_18 : decode cL_law 18 = .ok (.bipush 41, 2) := by decide +kernel
theorem dL_law_20 : decode cL_law 20 = .ok (.newarray .int, 2) := by decide +kernel
theorem dL_law_22 : decode cL_law 22 = .ok (.astore 4, 2) := by decide +kernel
theorem dL_law_24 : decode cL_law 24 = .ok (.bipush 41, 2) := by decide +kernel
theorem dL_law_26 : decode cL_law 26 = .ok (.newarray .int, 2) := by decide +kernel
theorem dL_law_28 : decode cL_law 28 = .ok (.astore 5, 2) := by decide +kernel
theorem dL_law_30 : decode cL_law 30 = .ok (.bipush 41, 2) := by decide +kernel
theorem dL_law_32 : decode cL_law 32 = .ok (.newarray .int, 2) := by decide +kernel
theorem dL_law_34 : decode cL_law 34 = .ok (.astore 6, 2) := by decide +kernel
theorem dL_law_36 : decode cL_law 36 = .ok (.bipush 41, 2) := by decide +kernel
theorem dL_law_38 : decode cL_law 38 = .ok (.newarray .int, 2) := by decide +kernel
theorem dL_law_40 : decode cL_law 40 = .ok (.astore 7, 2) := by decide +kernel
theorem dL_law_42 : decode cL_law 42 = .ok (.bipush 41, 2) := by decide +kernel
theorem dL_law_44 : decode cL_law 44 = .ok (.newarray .int, 2) := by decide +kernel
theorem dL_law_46 : decode cL_law 46 = .ok (.astore 8, 2) := by decide +kernel
theorem dL_law_48 : decode cL_law 48 = .ok (.bipush 41, 2) := by decide +kernel
theorem dL_law_50 : decode cL_law 50 = .ok (.newarray .long, 2) := by decide +kernel
theorem dL_law_52 : decode cL_law 52 = .ok (.astore 9, 2) := by decide +kernel
theorem dL_law_54 : decode cL_law 54 = .ok (.bipush 64, 2) := by decide +kernel
theorem dL_law_56 : decode cL_law 56 = .ok (.newarray .int, 2) := by decide +kernel
theorem dL_law_58 : decode cL_law 58 = .ok (.astore 10, 2) := by decide +kernel
theorem dL_law_60 : decode cL_law 60 = .ok (.bipush 36, 2) := by decide +kernel
theorem dL_law_62 : decode cL_law 62 = .ok (.newarray .int, 2) := by decide +kernel
theorem dL_law_64 : decode cL_law 64 = .ok (.astore 11, 2) := by decide +kernel
theorem dL_law_66 : decode cL_law 66 = .ok (.bipush 36, 2) := by decide +kernel
theorem dL_law_68 : decode cL_law 68 = .ok (.newarray .long, 2) := by decide +kernel
theorem dL_law_70 : decode cL_law 70 = .ok (.astore 12, 2) := by decide +kernel
theorem dL_law_72 : decode cL_law 72 = .ok (.iconst 4, 1) := by decide +kernel
theorem dL_law_73 : decode cL_law 73 = .ok (.newarray .int, 2) := by decide +kernel
theorem dL_law_75 : decode cL_law 75 = .ok (.astore 13, 2) := by decide +kernel
theorem dL_law_77 : decode cL_law 77 = .ok (.bipush 64, 2) := by decide +kernel
theorem dL_law_79 : decode cL_law 79 = .ok (.newarray .int, 2) := by decide +kernel
theorem dL_law_81 : decode cL_law 81 = .ok (.astore 14, 2) := by decide +kernel
theorem dL_law_83 : decode cL_law 83 = .ok (.aload_n 2, 1) := by decide +kernel
theorem dL_law_84 : decode cL_law 84 = .ok (.iconst 0, 1) := by decide +kernel
theorem dL_law_85 : decode cL_law 85 = .ok (.iconst 1, 1) := by decide +kernel
theorem dL_law_86 : decode cL_law 86 = .ok (.iastore, 1) := by decide +kernel
theorem dL_law_87 : decode cL_law 87 = .ok (.iconst 0, 1) := by decide +kernel
theorem dL_law_88 : decode cL_law 88 = .ok (.istore 15, 2) := by decide +kernel
theorem dL_law_90 : decode cL_law 90 = .ok (.iload 15, 2) := by decide +kernel
theorem dL_law_92 : decode cL_law 92 = .ok (.iconst 3, 1) := by decide +kernel
theorem dL_law_93 : decode cL_law 93 = .ok (.if_icmp .ge 103, 3) := by decide +kernel
theorem dL_law_96 : decode cL_law 96 = .ok (.aload_n 0, 1) := by decide +kernel
theorem dL_law_97 : decode cL_law 97 = .ok (.iload 15, 2) := by decide +kernel
theorem dL_law_99 : decode cL_law 99 = .ok (.invokestatic 238, 3) := by decide +kernel
theorem dL_law_102 : decode cL_law 102 = .ok (.istore 16, 2) := by decide +kernel
theorem dL_law_104 : decode cL_law 104 = .ok (.aload_n 2, 1) := by decide +kernel
theorem dL_law_105 : decode cL_law 105 = .ok (.bipush 13, 2) := by decide +kernel
theorem dL_law_107 : decode cL_law 107 = .ok (.iload 15, 2) := by decide +kernel
theorem dL_law_109 : decode cL_law 109 = .ok (.iadd, 1) := by decide +kernel
theorem dL_law_110 : decode cL_law 110 = .ok (.iload 16, 2) := by decide +kernel
theorem dL_law_112 : decode cL_law 112 = .ok (.iconst 4, 1) := by decide +kernel
theorem dL_law_113 : decode cL_law 113 = .ok (.invokestatic 119, 3) := by decide +kernel
theorem dL_law_116 : decode cL_law 116 = .ok (.iastore, 1) := by decide +kernel
theorem dL_law_117 : decode cL_law 117 = .ok (.aload_n 3, 1) := by decide +kernel
theorem dL_law_118 : decode cL_law 118 = .ok (.iconst 3, 1) := by decide +kernel
theorem dL_law_119 : decode cL_law 119 = .ok (.iload 15, 2) := by decide +kernel
theorem dL_law_121 : decode cL_law 121 = .ok (.imul, 1) := by decide +kernel
theorem dL_law_122 : decode cL_law 122 = .ok (.iload 15, 2) := by decide +kernel
theorem dL_law_124 : decode cL_law 124 = .ok (.ifCond .ne 7, 3) := by decide +kernel
theorem dL_law_127 : decode cL_law 127 = .ok (.iconst (-1), 1) := by decide +kernel
theorem dL_law_128 : decode cL_law 128 = .ok (.goto 16, 3) := by decide +kernel
theorem dL_law_131 : decode cL_law 131 = .ok (.iload 16, 2) := by decide +kernel
theorem dL_law_133 : decode cL_law 133 = .ok (.iconst 2, 1) := by decide +kernel
theorem dL_law_134 : decode cL_law 134 = .ok (.ishr, 1) := by decide +kernel
theorem dL_law_135 : decode cL_law 135 = .ok (.iload 15, 2) := by decide +kernel
theorem dL_law_137 : decode cL_law 137 = .ok (.iconst 1, 1) := by decide +kernel
theorem dL_law_138 : decode cL_law 138 = .ok (.iadd, 1) := by decide +kernel
theorem dL_law_139 : decode cL_law 139 = .ok (.invokestatic 119, 3) := by decide +kernel
theorem dL_law_142 : decode cL_law 142 = .ok (.iconst 1, 1) := by decide +kernel
theorem dL_law_143 : decode cL_law 143 = .ok (.isub, 1) := by decide +kernel
theorem dL_law_144 : decode cL_law 144 = .ok (.iastore, 1) := by decide +kernel
theorem dL_law_145 : decode cL_law 145 = .ok (.aload_n 1, 1) := by decide +kernel
theorem dL_law_146 : decode cL_law 146 = .ok (.aload_n 2, 1) := by decide +kernel
theorem dL_law_147 : decode cL_law 147 = .ok (.bipush 13, 2) := by decide +kernel
theorem dL_law_149 : decode cL_law 149 = .ok (.iload 15, 2) := by decide +kernel
theorem dL_law_151 : decode cL_law 151 = .ok (.iadd, 1) := by decide +kernel
theorem dL_law_152 : decode cL_law 152 = .ok (.iaload, 1) := by decide +kernel
theorem dL_law_153 : decode cL_law 153 = .ok (.iconst 2, 1) := by decide +kernel
theorem dL_law_154 : decode cL_law 154 = .ok (.irem, 1) := by decide +kernel
theorem dL_law_155 : decode cL_law 155 = .ok (.iconst 1, 1) := by decide +kernel
theorem dL_law_156 : decode cL_law 156 = .ok (.if_icmp .ne 7, 3) := by decide +kernel
theorem dL_law_159 : decode cL_law 159 = .ok (.iconst 1, 1) := by decide +kernel
theorem dL_law_160 : decode cL_law 160 = .ok (.goto 4, 3) := by decide +kernel
theorem dL_law_163 : decode cL_law 163 = .ok (.iconst 0, 1) := by decide +kernel
theorem dL_law_164 : decode cL_law 164 = .ok (.aload_n 2, 1) := by decide +kernel
theorem dL_law_165 : decode cL_law 165 = .ok (.bipush 13, 2) := by decide +kernel
theorem dL_law_167 : decode cL_law 167 = .ok (.iload 15, 2) := by decide +kernel
theorem dL_law_169 : decode cL_law 169 = .ok (.iadd, 1) := by decide +kernel
theorem dL_law_170 : decode cL_law 170 = .ok (.iaload, 1) := by decide +kernel
theorem dL_law_171 : decode cL_law 171 = .ok (.iconst 1, 1) := by decide +kernel
theorem dL_law_172 : decode cL_law 172 = .ok (.if_icmp .le 7, 3) := by decide +kernel
theorem dL_law_175 : decode cL_law 175 = .ok (.iconst 1, 1) := by decide +kernel
theorem dL_law_176 : decode cL_law 176 = .ok (.goto 4, 3) := by decide +kernel
theorem dL_law_179 : decode cL_law 179 = .ok (.iconst 0, 1) := by decide +kernel
theorem dL_law_180 : decode cL_law 180 = .ok (.invokevirtual 242, 3) := by decide +kernel
theorem dL_law_183 : decode cL_law 183 = .ok (.iload 15, 2) := by decide +kernel
theorem dL_law_185 : decode cL_law 185 = .ok (.if_icmp .eq 5, 3) := by decide +kernel
theorem dL_law_188 : decode cL_law 188 = .ok (.iconst 0, 1) := by decide +kernel
theorem dL_law_189 : decode cL_law 189 = .ok (.ireturn, 1) := by decide +kernel
theorem dL_law_190 : decode cL_law 190 = .ok (.iinc 15 1, 3) := by decide +kernel
theorem dL_law_193 : decode cL_law 193 = .ok (.goto (-103), 3) := by decide +kernel
theorem dL_law_196 : decode cL_law 196 = .ok (.aload_n 2, 1) := by decide +kernel
theorem dL_law_197 : decode cL_law 197 = .ok (.iconst 2, 1) := by decide +kernel
theorem dL_law_198 : decode cL_law 198 = .ok (.iconst 3, 1) := by decide +kernel
theorem dL_law_199 : decode cL_law 199 = .ok (.iastore, 1) := by decide +kernel
theorem dL_law_200 : decode cL_law 200 = .ok (.iconst 0, 1) := by decide +kernel
theorem dL_law_201 : decode cL_law 201 = .ok (.istore 15, 2) := by decide +kernel
theorem dL_law_203 : decode cL_law 203 = .ok (.iload 15, 2) := by decide +kernel
theorem dL_law_205 : decode cL_law 205 = .ok (.iconst 3, 1) := by decide +kernel
theorem dL_law_206 : decode cL_law 206 = .ok (.if_icmp .ge 100, 3) := by decide +kernel
theorem dL_law_209 : decode cL_law 209 = .ok (.aload_n 0, 1) := by decide +kernel
theorem dL_law_210 : decode cL_law 210 = .ok (.iconst 3, 1) := by decide +kernel
theorem dL_law_211 : decode cL_law 211 = .ok (.iload 15, 2) := by decide +kernel
theorem dL_law_213 : decode cL_law 213 = .ok (.iadd, 1) := by decide +kernel
theorem dL_law_214 : decode cL_law 214 = .ok (.invokestatic 238, 3) := by decide +kernel
theorem dL_law_217 : decode cL_law 217 = .ok (.istore 16, 2) := by decide +kernel
theorem dL_law_219 : decode cL_law 219 = .ok (.aload_n 3, 1) := by decide +kernel
theorem dL_law_220 : decode cL_law 220 = .ok (.iconst 3, 1) := by decide +kernel
theorem dL_law_221 : decode cL_law 221 = .ok (.iload 15, 2) := by decide +kernel
theorem dL_law_223 : decode cL_law 223 = .ok (.imul, 1) := by decide +kernel
theorem dL_law_224 : decode cL_law 224 = .ok (.iconst 1, 1) := by decide +kernel
theorem dL_law_225 : decode cL_law 225 = .ok (.iadd, 1) := by decide +kernel
theorem dL_law_226 : decode cL_law 226 = .ok (.iload 16, 2) := by decide +kernel
theorem dL_law_228 : decode cL_law 228 = .ok (.iconst 3, 1) := by decide +kernel
theorem dL_law_229 : decode cL_law 229 = .ok (.invokestatic 119, 3) := by decide +kernel
theorem dL_law_232 : decode cL_law 232 = .ok (.ifCond .ne 16, 3) := by decide +kernel
theorem dL_law_235 : decode cL_law 235 = .ok (.iconst 1, 1) := by decide +kernel
theorem dL_law_236 : decode cL_law 236 = .ok (.iload 16, 2) := by decide +kernel
theorem dL_law_238 : decode cL_law 238 = .ok (.iconst 2, 1) := by decide +kernel
theorem dL_law_239 : decode cL_law 239 = .ok (.ishr, 1) := by decide +kernel
theorem dL_law_240 : decode cL_law 240 = .ok (.iconst 3, 1) := by decide +kernel
theorem dL_law_241 : decode cL_law 241 = .ok (.invokestatic 119, 3) := by decide +kernel
theorem dL_law_244 : decode cL_law 244 = .ok (.ishl, 1) := by decide +kernel
theorem dL_law_245 : decode cL_law 245 = .ok (.goto 4, 3) := by decide +kernel
theorem dL_law_248 : decode cL_law 248 = .ok (.iconst 0, 1) := by decide +kernel
theorem dL_law_249 : decode cL_law 249 = .ok (.iastore, 1) := by decide +kernel
theorem dL_law_250 : decode cL_law 250 = .ok (.aload_n 3, 1) := by decide +kernel
theorem dL_law_251 : decode cL_law 251 = .ok (.iconst 3, 1) := by decide +kernel
theorem dL_law_252 : decode cL_law 252 = .ok (.iload 15, 2) := by decide +kernel
theorem dL_law_254 : decode cL_law 254 = .ok (.imul, 1) := by decide +kernel
theorem dL_law_255 : decode cL_law 255 = .ok (.iconst 2, 1) := by decide +kernel
theorem dL_law_256 : decode cL_law 256 = .ok (.iadd, 1) := by decide +kernel
theorem dL_law_257 : decode cL_law 257 = .ok (.iload 16, 2) := by decide +kernel
theorem dL_law_259 : decode cL_law 259 = .ok (.iconst 4, 1) := by decide +kernel
theorem dL_law_260 : decode cL_law 260 = .ok (.ishr, 1) := by decide +kernel
theorem dL_law_261 : decode cL_law 261 = .ok (.bipush 8, 2) := by decide +kernel
theorem dL_law_263 : decode cL_law 263 = .ok (.invokestatic 119, 3) := by decide +kernel
theorem dL_law_266 : decode cL_law 266 = .ok (.iastore, 1) := by decide +kernel
theorem dL_law_267 : decode cL_law 267 = .ok (.aload_n 1, 1) := by decide +kernel
theorem dL_law_268 : decode cL_law 268 = .ok (.aload_n 3, 1) := by decide +kernel
theorem dL_law_269 : decode cL_law 269 = .ok (.iconst 3, 1) := by decide +kernel
theorem dL_law_270 : decode cL_law 270 = .ok (.iload 15, 2) := by decide +kernel
theorem dL_law_272 : decode cL_law 272 = .ok (.imul, 1) := by decide +kernel
theorem dL_law_273 : decode cL_law 273 = .ok (.iaload, 1) := by decide +kernel
theorem dL_law_274 : decode cL_law 274 = .ok (.aload_n 3, 1) := by decide +kernel
theorem dL_law_275 : decode cL_law 275 = .ok (.iconst 3, 1) := by decide +kernel
theorem dL_law_276 : decode cL_law 276 = .ok (.iload 15, 2) := by decide +kernel
theorem dL_law_278 : decode cL_law 278 = .ok (.imul, 1) := by decide +kernel
theorem dL_law_279 : decode cL_law 279 = .ok (.iconst 1, 1) := by decide +kernel
theorem dL_law_280 : decode cL_law 280 = .ok (.iadd, 1) := by decide +kernel
theorem dL_law_281 : decode cL_law 281 = .ok (.iaload, 1) := by decide +kernel
theorem dL_law_282 : decode cL_law 282 = .ok (.aload_n 3, 1) := by decide +kernel
theorem dL_law_283 : decode cL_law 283 = .ok (.iconst 3, 1) := by decide +kernel
theorem dL_law_284 : decode cL_law 284 = .ok (.iload 15, 2) := by decide +kernel
theorem dL_law_286 : decode cL_law 286 = .ok (.imul, 1) := by decide +kernel
theorem dL_law_287 : decode cL_law 287 = .ok (.iconst 2, 1) := by decide +kernel
theorem dL_law_288 : decode cL_law 288 = .ok (.iadd, 1) := by decide +kernel
theorem dL_law_289 : decode cL_law 289 = .ok (.iaload, 1) := by decide +kernel
theorem dL_law_290 : decode cL_law 290 = .ok (.invokevirtual 246, 3) := by decide +kernel
theorem dL_law_293 : decode cL_law 293 = .ok (.iload 15, 2) := by decide +kernel
theorem dL_law_295 : decode cL_law 295 = .ok (.if_icmp .eq 5, 3) := by decide +kernel
theorem dL_law_298 : decode cL_law 298 = .ok (.iconst 0, 1) := by decide +kernel
theorem dL_law_299 : decode cL_law 299 = .ok (.ireturn, 1) := by decide +kernel
theorem dL_law_300 : decode cL_law 300 = .ok (.iinc 15 1, 3) := by decide +kernel
theorem dL_law_303 : decode cL_law 303 = .ok (.goto (-100), 3) := by decide +kernel
theorem dL_law_306 : decode cL_law 306 = .ok (.aload_n 2, 1) := by decide +kernel
theorem dL_law_307 : decode cL_law 307 = .ok (.iconst 3, 1) := by decide +kernel
theorem dL_law_308 : decode cL_law 308 = .ok (.iconst 3, 1) := by decide +kernel
theorem dL_law_309 : decode cL_law 309 = .ok (.iastore, 1) := by decide +kernel
theorem dL_law_310 : decode cL_law 310 = .ok (.bipush 6, 2) := by decide +kernel
theorem dL_law_312 : decode cL_law 312 = .ok (.istore 15, 2) := by decide +kernel
theorem dL_law_314 : decode cL_law 314 = .ok (.iload 15, 2) := by decide +kernel
theorem dL_law_316 : decode cL_law 316 = .ok (.bipush 76, 2) := by decide +kernel
theorem dL_law_318 : decode cL_law 318 = .ok (.if_icmp .ge 922, 3) := by decide +kernel
theorem dL_law_321 : decode cL_law 321 = .ok (.aload_n 0, 1) := by decide +kernel
theorem dL_law_322 : decode cL_law 322 = .ok (.iload 15, 2) := by decide +kernel
theorem dL_law_324 : decode cL_law 324 = .ok (.invokestatic 238, 3) := by decide +kernel
theorem dL_law_327 : decode cL_law 327 = .ok (.istore 16, 2) := by decide +kernel
theorem dL_law_329 : decode cL_law 329 = .ok (.iload 16, 2) := by decide +kernel
theorem dL_law_331 : decode cL_law 331 = .ok (.bipush 34, 2) := by decide +kernel
theorem dL_law_333 : decode cL_law 333 = .ok (.invokestatic 119, 3) := by decide +kernel
theorem dL_law_336 : decode cL_law 336 = .ok (.istore 17, 2) := by decide +kernel
theorem dL_law_338 : decode cL_law 338 = .ok (.iload 16, 2) := by decide +kernel
theorem dL_law_340 : decode cL_law 340 = .ok (.iconst 5, 1) := by decide +kernel
theorem dL_law_341 : decode cL_law 341 = .ok (.ishr, 1) := by decide +kernel
theorem dL_law_342 : decode cL_law 342 = .ok (.iload 16, 2) := by decide +kernel
theorem dL_law_344 : decode cL_law 344 = .ok (.bipush 16, 2) := by decide +kernel
theorem dL_law_346 : decode cL_law 346 = .ok (.ishr, 1) := by decide +kernel
theorem dL_law_347 : decode cL_law 347 = .ok (.iconst 2, 1) := by decide +kernel
theorem dL_law_348 : decode cL_law 348 = .ok (.invokestatic 119, 3) := by decide +kernel
theorem dL_law_351 : decode cL_law 351 = .ok (.ifCond .ne 7, 3) := by decide +kernel
theorem dL_law_354 : decode cL_law 354 = .ok (.iconst 4, 1) := by decide +kernel
theorem dL_law_355 : decode cL_law 355 = .ok (.goto 4, 3) := by decide +kernel
theorem dL_law_358 : decode cL_law 358 = .ok (.iconst 2, 1) := by decide +kernel
theorem dL_law_359 : decode cL_law 359 = .ok (.invokestatic 119, 3) := by decide +kernel
theorem dL_law_362 : decode cL_law 362 = .ok (.istore 18, 2) := by decide +kernel
theorem dL_law_364 : decode cL_law 364 = .ok (.iconst 1, 1) := by decide +kernel
theorem dL_law_365 : decode cL_law 365 = .ok (.istore 19, 2) := by decide +kernel
theorem dL_law_367 : decode cL_law 367 = .ok (.aload_n 2, 1) := by decide +kernel
theorem dL_law_368 : decode cL_law 368 = .ok (.iconst 1, 1) := by decide +kernel
theorem dL_law_369 : decode cL_law 369 = .ok (.iaload, 1) := by decide +kernel
theorem dL_law_370 : decode cL_law 370 = .ok (.bipush 40, 2) := by decide +kernel
theorem dL_law_372 : decode cL_law 372 = .ok (.if_icmp .ge 7, 3) := by decide +kernel
theorem dL_law_375 : decode cL_law 375 = .ok (.iconst 1, 1) := by decide +kernel
theorem dL_law_376 : decode cL_law 376 = .ok (.goto 4, 3) := by decide +kernel
theorem dL_law_379 : decode cL_law 379 = .ok (.iconst 0, 1) := by decide +kernel
theorem dL_law_380 : decode cL_law 380 = .ok (.istore 20, 2) := by decide +kernel
theorem dL_law_382 : decode cL_law 382 = .ok (.iload 18, 2) := by decide +kernel
theorem dL_law_384 : decode cL_law 384 = .ok (.aload_n 2, 1) := by decide +kernel
theorem dL_law_385 : decode cL_law 385 = .ok (.aload 4, 2) := by decide +kernel
theorem dL_law_387 : decode cL_law 387 = .ok (.aload 5, 2) := by decide +kernel
theorem dL_law_389 : decode cL_law 389 = .ok (.aload 6, 2) := by decide +kernel
theorem dL_law_391 : decode cL_law 391 = .ok (.aload 7, 2) := by decide +kernel
theorem dL_law_393 : decode cL_law 393 = .ok (.aload 8, 2) := by decide +kernel
theorem dL_law_395 : decode cL_law 395 = .ok (.aload 9, 2) := by decide +kernel
theorem dL_law_397 : decode cL_law 397 = .ok (.aload 10, 2) := by decide +kernel
theorem dL_law_399 : decode cL_law 399 = .ok (.aload 11, 2) := by decide +kernel
theorem dL_law_401 : decode cL_law 401 = .ok (.aload 12, 2) := by decide +kernel
theorem dL_law_403 : decode cL_law 403 = .ok (.invokestatic 197, 3) := by decide +kernel
theorem dL_law_406 : decode cL_law 406 = .ok (.iload 17, 2) := by decide +kernel
theorem dL_law_408 : decode cL_law 408 = .ok (.bipush 8, 2) := by decide +kernel
theorem dL_law_410 : decode cL_law 410 = .ok (.if_icmp .ge 52, 3) := by decide +kernel
theorem dL_law_413 : decode cL_law 413 = .ok (.aload_n 2, 1) := by decide +kernel
theorem dL_law_414 : decode cL_law 414 = .ok (.iconst 0, 1) := by decide +kernel
theorem dL_law_415 : decode cL_law 415 = .ok (.iaload, 1) := by decide +kernel
theorem dL_law_416 : decode cL_law 416 = .ok (.bipush 12, 2) := by decide +kernel
theorem dL_law_418 : decode cL_law 418 = .ok (.if_icmp .ge 44, 3) := by decide +kernel
theorem dL_law_421 : decode cL_law 421 = .ok (.iload 20, 2) := by decide +kernel
theorem dL_law_423 : decode cL_law 423 = .ok (.ifCond .eq 39, 3) := by decide +kernel
theorem dL_law_426 : decode cL_law 426 = .ok (.aload_n 1, 1) := by decide +kernel
theorem dL_law_427 : decode cL_law 427 = .ok (.iload 18, 2) := by decide +kernel
theorem dL_law_429 : decode cL_law 429 = .ok (.iload 16, 2) := by decide +kernel
theorem dL_law_431 : decode cL_law 431 = .ok (.bipush 7, 2) := by decide +kernel
theorem dL_law_433 : decode cL_law 433 = .ok (.ishr, 1) := by decide +kernel
theorem dL_law_434 : decode cL_law 434 = .ok (.aload_n 2, 1) := by decide +kernel
theorem dL_law_435 : decode cL_law 435 = .ok (.aload_n 3, 1) := by decide +kernel
theorem dL_law_436 : decode cL_law 436 = .ok (.aload 4, 2) := by decide +kernel
theorem dL_law_438 : decode cL_law 438 = .ok (.aload 5, 2) := by decide +kernel
theorem dL_law_440 : decode cL_law 440 = .ok (.aload 6, 2) := by decide +kernel
theorem dL_law_442 : decode cL_law 442 = .ok (.aload 7, 2) := by decide +kernel
theorem dL_law_444 : decode cL_law 444 = .ok (.aload 8, 2) := by decide +kernel
theorem dL_law_446 : decode cL_law 446 = .ok (.aload 9, 2) := by decide +kernel
theorem dL_law_448 : decode cL_law 448 = .ok (.aload 10, 2) := by decide +kernel
theorem dL_law_450 : decode cL_law 450 = .ok (.aload 11, 2) := by decide +kernel
theorem dL_law_452 : decode cL_law 452 = .ok (.aload 12, 2) := by decide +kernel
theorem dL_law_454 : decode cL_law 454 = .ok (.invokestatic 249, 3) := by decide +kernel
theorem dL_law_457 : decode cL_law 457 = .ok (.istore 19, 2) := by decide +kernel
theorem dL_law_459 : decode cL_law 459 = .ok (.goto 658, 3) := by decide +kernel
theorem dL_law_462 : decode cL_law 462 = .ok (.iload 17, 2) := by decide +kernel
theorem dL_law_464 : decode cL_law 464 = .ok (.bipush 11, 2) := by decide +kernel
theorem dL_law_466 : decode cL_law 466 = .ok (.if_icmp .ge 84, 3) := by decide +kernel
theorem dL_law_469 : decode cL_law 469 = .ok (.aload_n 2, 1) := by decide +kernel
theorem dL_law_470 : decode cL_law 470 = .ok (.bipush 8, 2) := by decide +kernel
theorem dL_law_472 : decode cL_law 472 = .ok (.iaload, 1) := by decide +kernel
theorem dL_law_473 : decode cL_law 473 = .ok (.iconst 4, 1) := by decide +kernel
theorem dL_law_474 : decode cL_law 474 = .ok (.if_icmp .ge 76, 3) := by decide +kernel
theorem dL_law_477 : decode cL_law 477 = .ok (.iload 16, 2) := by decide +kernel
theorem dL_law_479 : decode cL_law 479 = .ok (.bipush 7, 2) := by decide +kernel
theorem dL_law_481 : decode cL_law 481 = .ok (.ishr, 1) := by decide +kernel
theorem dL_law_482 : decode cL_law 482 = .ok (.iconst 3, 1) := by decide +kernel
theorem dL_law_483 : decode cL_law 483 = .ok (.invokestatic 119, 3) := by decide +kernel
theorem dL_law_486 : decode cL_law 486 = .ok (.istore 21, 2) := by decide +kernel
theorem dL_law_488 : decode cL_law 488 = .ok (.iload 16, 2) := by decide +kernel
theorem dL_law_490 : decode cL_law 490 = .ok (.bipush 9, 2) := by decide +kernel
theorem dL_law_492 : decode cL_law 492 = .ok (.ishr, 1) := by decide +kernel
theorem dL_law_493 : decode cL_law 493 = .ok (.bipush 60, 2) := by decide +kernel
theorem dL_law_495 : decode cL_law 495 = .ok (.invokestatic 119, 3) := by decide +kernel
theorem dL_law_498 : decode cL_law 498 = .ok (.istore 22, 2) := by decide +kernel
theorem dL_law_500 : decode cL_law 500 = .ok (.aload_n 2, 1) := by decide +kernel
theorem dL_law_501 : decode cL_law 501 = .ok (.bipush 9, 2) := by decide +kernel
theorem dL_law_503 : decode cL_law 503 = .ok (.aload_n 2, 1) := by decide +kernel
theorem dL_law_504 : decode cL_law 504 = .ok (.bipush 8, 2) := by decide +kernel
theorem dL_law_506 : decode cL_law 506 = .ok (.iaload, 1) := by decide +kernel
theorem dL_law_507 : decode cL_law 507 = .ok (.iadd, 1) := by decide +kernel
theorem dL_law_508 : decode cL_law 508 = .ok (.bipush 100, 2) := by decide +kernel
theorem dL_law_510 : decode cL_law 510 = .ok (.iload 21, 2) := by decide +kernel
theorem dL_law_512 : decode cL_law 512 = .ok (.imul, 1) := by decide +kernel
theorem dL_law_513 : decode cL_law 513 = .ok (.iload 22, 2) := by decide +kernel
theorem dL_law_515 : decode cL_law 515 = .ok (.iadd, 1) := by decide +kernel
theorem dL_law_516 : decode cL_law 516 = .ok (.iastore, 1) := by decide +kernel
theorem dL_law_517 : decode cL_law 517 = .ok (.aload_n 2, 1) := by decide +kernel
theorem dL_law_518 : decode cL_law 518 = .ok (.bipush 8, 2) := by decide +kernel
theorem dL_law_520 : decode cL_law 520 = .ok (.dup2, 1) := by decide +kernel
theorem dL_law_521 : decode cL_law 521 = .ok (.iaload, 1) := by decide +kernel
theorem dL_law_522 : decode cL_law 522 = .ok (.iconst 1, 1) := by decide +kernel
theorem dL_law_523 : decode cL_law 523 = .ok (.iadd, 1) := by decide +kernel
theorem dL_law_524 : decode cL_law 524 = .ok (.iastore, 1) := by decide +kernel
theorem dL_law_525 : decode cL_law 525 = .ok (.aload_n 1, 1) := by decide +kernel
theorem dL_law_526 : decode cL_law 526 = .ok (.iload 21, 2) := by decide +kernel
theorem dL_law_528 : decode cL_law 528 = .ok (.iload 22, 2) := by decide +kernel
theorem dL_law_530 : decode cL_law 530 = .ok (.invokevirtual 253, 3) := by decide +kernel
theorem dL_law_533 : decode cL_law 533 = .ok (.aload_n 2, 1) := by decide +kernel
theorem dL_law_534 : decode cL_law 534 = .ok (.bipush 8, 2) := by decide +kernel
theorem dL_law_536 : decode cL_law 536 = .ok (.iaload, 1) := by decide +kernel
theorem dL_law_537 : decode cL_law 537 = .ok (.if_icmp .ne 7, 3) := by decide +kernel
theorem dL_law_540 : decode cL_law 540 = .ok (.iconst 1, 1) := by decide +kernel
theorem dL_law_541 : decode cL_law 541 = .ok (.goto 4, 3) := by decide +kernel
theorem dL_law_544 : decode cL_law 544 = .ok (.iconst 0, 1) := by decide +kernel
theorem dL_law_545 : decode cL_law 545 = .ok (.istore 19, 2) := by decide +kernel
theorem dL_law_547 : decode cL_law 547 = .ok (.goto 570, 3) := by decide +kernel
theorem dL_law_550 : decode cL_law 550 = .ok (.iload 17, 2) := by decide +kernel
theorem dL_law_552 : decode cL_law 552 = .ok (.bipush 11, 2) := by decide +kernel
theorem dL_law_554 : decode cL_law 554 = .ok (.if_icmp .ne 29, 3) := by decide +kernel
theorem dL_law_557 : decode cL_law 557 = .ok (.aload_n 1, 1) := by decide +kernel
theorem dL_law_558 : decode cL_law 558 = .ok (.invokevirtual 256, 3) := by decide +kernel
theorem dL_law_561 : decode cL_law 561 = .ok (.aload_n 2, 1) := by decide +kernel
theorem dL_law_562 : decode cL_law 562 = .ok (.bipush 8, 2) := by decide +kernel
theorem dL_law_564 : decode cL_law 564 = .ok (.iaload, 1) := by decide +kernel
theorem dL_law_565 : decode cL_law 565 = .ok (.if_icmp .ne 7, 3) := by decide +kernel
theorem dL_law_568 : decode cL_law 568 = .ok (.iconst 1, 1) := by decide +kernel
theorem dL_law_569 : decode cL_law 569 = .ok (.goto 4, 3) := by decide +kernel
theorem dL_law_572 : decode cL_law 572 = .ok (.iconst 0, 1) := by decide +kernel
theorem dL_law_573 : decode cL_law 573 = .ok (.istore 19, 2) := by decide +kernel
theorem dL_law_575 : decode cL_law 575 = .ok (.aload_n 2, 1) := by decide +kernel
theorem dL_law_576 : decode cL_law 576 = .ok (.bipush 8, 2) := by decide +kernel
theorem dL_law_578 : decode cL_law 578 = .ok (.iconst 0, 1) := by decide +kernel
theorem dL_law_579 : decode cL_law 579 = .ok (.iastore, 1) := by decide +kernel
theorem dL_law_580 : decode cL_law 580 = .ok (.goto 537, 3) := by decide +kernel
theorem dL_law_583 : decode cL_law 583 = .ok (.iload 17, 2) := by decide +kernel
theorem dL_law_585 : decode cL_law 585 = .ok (.bipush 11, 2) := by decide +kernel
theorem dL_law_587 : decode cL_law 587 = .ok (.if_icmp .le 68, 3) := by decide +kernel
theorem dL_law_590 : decode cL_law 590 = .ok (.iload 17, 2) := by decide +kernel
theorem dL_law_592 : decode cL_law 592 = .ok (.bipush 16, 2) := by decide +kernel
theorem dL_law_594 : decode cL_law 594 = .ok (.if_icmp .ge 61, 3) := by decide +kernel
theorem dL_law_597 : decode cL_law 597 = .ok (.iload 20, 2) := by decide +kernel
theorem dL_law_599 : decode cL_law 599 = .ok (.ifCond .eq 56, 3) := by decide +kernel
theorem dL_law_602 : decode cL_law 602 = .ok (.aload_n 1, 1) := by decide +kernel
theorem dL_law_603 : decode cL_law 603 = .ok (.iload 18, 2) := by decide +kernel
theorem dL_law_605 : decode cL_law 605 = .ok (.iload 17, 2) := by decide +kernel
theorem dL_law_607 : decode cL_law 607 = .ok (.bipush 12, 2) := by decide +kernel
theorem dL_law_609 : decode cL_law 609 = .ok (.isub, 1) := by decide +kernel
theorem dL_law_610 : decode cL_law 610 = .ok (.ifCond .ne 7, 3) := by decide +kernel
theorem dL_law_613 : decode cL_law 613 = .ok (.iconst 1, 1) := by decide +kernel
theorem dL_law_614 : decode cL_law 614 = .ok (.goto 8, 3) := by decide +kernel
theorem dL_law_617 : decode cL_law 617 = .ok (.iload 17, 2) := by decide +kernel
theorem dL_law_619 : decode cL_law 619 = .ok (.bipush 12, 2) := by decide +kernel
theorem dL_law_621 : decode cL_law 621 = .ok (.isub, 1) := by decide +kernel
theorem dL_law_622 : decode cL_law 622 = .ok (.iload 16, 2) := by decide +kernel
theorem dL_law_624 : decode cL_law 624 = .ok (.bipush 7, 2) := by decide +kernel
theorem dL_law_626 : decode cL_law 626 = .ok (.ishr, 1) := by decide +kernel
theorem dL_law_627 : decode cL_law 627 = .ok (.aload_n 2, 1) := by decide +kernel
theorem dL_law_628 : decode cL_law 628 = .ok (.aload_n 3, 1) := by decide +kernel
theorem dL_law_629 : decode cL_law 629 = .ok (.aload 4, 2) := by decide +kernel
theorem dL_law_631 : decode cL_law 631 = .ok (.aload 5, 2) := by decide +kernel
theorem dL_law_633 : decode cL_law 633 = .ok (.aload 6, 2) := by decide +kernel
theorem dL_law_635 : decode cL_law 635 = .ok (.aload 7, 2) := by decide +kernel
theorem dL_law_637 : decode cL_law 637 = .ok (.aload 8, 2) := by decide +kernel
theorem dL_law_639 : decode cL_law 639 = .ok (.aload 9, 2) := by decide +kernel
theorem dL_law_641 : decode cL_law 641 = .ok (.aload 10, 2) := by decide +kernel
theorem dL_law_643 : decode cL_law 643 = .ok (.aload 11, 2) := by decide +kernel
theorem dL_law_645 : decode cL_law 645 = .ok (.aload 12, 2) := by decide +kernel
theorem dL_law_647 : decode cL_law 647 = .ok (.invokestatic 259, 3) := by decide +kernel
theorem dL_law_650 : decode cL_law 650 = .ok (.istore 19, 2) := by decide +kernel
theorem dL_law_652 : decode cL_law 652 = .ok (.goto 465, 3) := by decide +kernel
theorem dL_law_655 : decode cL_law 655 = .ok (.iload 17, 2) := by decide +kernel
theorem dL_law_657 : decode cL_law 657 = .ok (.bipush 16, 2) := by decide +kernel
theorem dL_law_659 : decode cL_law 659 = .ok (.if_icmp .ne 43, 3) := by decide +kernel
theorem dL_law_662 : decode cL_law 662 = .ok (.iload 20, 2) := by decide +kernel
theorem dL_law_664 : decode cL_law 664 = .ok (.ifCond .eq 38, 3) := by decide +kernel
theorem dL_law_667 : decode cL_law 667 = .ok (.aload_n 1, 1) := by decide +kernel
theorem dL_law_668 : decode cL_law 668 = .ok (.iload 18, 2) := by decide +kernel
theorem dL_law_670 : decode cL_law 670 = .ok (.iload 16, 2) := by decide +kernel
theorem dL_law_672 : decode cL_law 672 = .ok (.bipush 7, 2) := by decide +kernel
theorem dL_law_674 : decode cL_law 674 = .ok (.ishr, 1) := by decide +kernel
theorem dL_law_675 : decode cL_law 675 = .ok (.aload_n 2, 1) := by decide +kernel
theorem dL_law_676 : decode cL_law 676 = .ok (.aload 4, 2) := by decide +kernel
theorem dL_law_678 : decode cL_law 678 = .ok (.aload 5, 2) := by decide +kernel
theorem dL_law_680 : decode cL_law 680 = .ok (.aload 6, 2) := by decide +kernel
theorem dL_law_682 : decode cL_law 682 = .ok (.aload 7, 2) := by decide +kernel
theorem dL_law_684 : decode cL_law 684 = .ok (.aload 8, 2) := by decide +kernel
theorem dL_law_686 : decode cL_law 686 = .ok (.aload 9, 2) := by decide +kernel
theorem dL_law_688 : decode cL_law 688 = .ok (.aload 10, 2) := by decide +kernel
theorem dL_law_690 : decode cL_law 690 = .ok (.aload 11, 2) := by decide +kernel
theorem dL_law_692 : decode cL_law 692 = .ok (.aload 12, 2) := by decide +kernel
theorem dL_law_694 : decode cL_law 694 = .ok (.invokestatic 263, 3) := by decide +kernel
theorem dL_law_697 : decode cL_law 697 = .ok (.istore 19, 2) := by decide +kernel
theorem dL_law_699 : decode cL_law 699 = .ok (.goto 418, 3) := by decide +kernel
theorem dL_law_702 : decode cL_law 702 = .ok (.iload 17, 2) := by decide +kernel
theorem dL_law_704 : decode cL_law 704 = .ok (.bipush 16, 2) := by decide +kernel
theorem dL_law_706 : decode cL_law 706 = .ok (.if_icmp .le 50, 3) := by decide +kernel
theorem dL_law_709 : decode cL_law 709 = .ok (.iload 17, 2) := by decide +kernel
theorem dL_law_711 : decode cL_law 711 = .ok (.bipush 20, 2) := by decide +kernel
theorem dL_law_713 : decode cL_law 713 = .ok (.if_icmp .ge 43, 3) := by decide +kernel
theorem dL_law_716 : decode cL_law 716 = .ok (.iload 20, 2) := by decide +kernel
theorem dL_law_718 : decode cL_law 718 = .ok (.ifCond .eq 38, 3) := by decide +kernel
theorem dL_law_721 : decode cL_law 721 = .ok (.aload_n 1, 1) := by decide +kernel
theorem dL_law_722 : decode cL_law 722 = .ok (.iload 18, 2) := by decide +kernel
theorem dL_law_724 : decode cL_law 724 = .ok (.iload 16, 2) := by decide +kernel
theorem dL_law_726 : decode cL_law 726 = .ok (.bipush 7, 2) := by decide +kernel
theorem dL_law_728 : decode cL_law 728 = .ok (.ishr, 1) := by decide +kernel
theorem dL_law_729 : decode cL_law 729 = .ok (.aload_n 2, 1) := by decide +kernel
theorem dL_law_730 : decode cL_law 730 = .ok (.aload 4, 2) := by decide +kernel
theorem dL_law_732 : decode cL_law 732 = .ok (.aload 5, 2) := by decide +kernel
theorem dL_law_734 : decode cL_law 734 = .ok (.aload 6, 2) := by decide +kernel
theorem dL_law_736 : decode cL_law 736 = .ok (.aload 7, 2) := by decide +kernel
theorem dL_law_738 : decode cL_law 738 = .ok (.aload 8, 2) := by decide +kernel
theorem dL_law_740 : decode cL_law 740 = .ok (.aload 9, 2) := by decide +kernel
theorem dL_law_742 : decode cL_law 742 = .ok (.aload 10, 2) := by decide +kernel
theorem dL_law_744 : decode cL_law 744 = .ok (.aload 11, 2) := by decide +kernel
theorem dL_law_746 : decode cL_law 746 = .ok (.aload 12, 2) := by decide +kernel
theorem dL_law_748 : decode cL_law 748 = .ok (.invokestatic 267, 3) := by decide +kernel
theorem dL_law_751 : decode cL_law 751 = .ok (.istore 19, 2) := by decide +kernel
theorem dL_law_753 : decode cL_law 753 = .ok (.goto 364, 3) := by decide +kernel
theorem dL_law_756 : decode cL_law 756 = .ok (.iload 17, 2) := by decide +kernel
theorem dL_law_758 : decode cL_law 758 = .ok (.bipush 20, 2) := by decide +kernel
theorem dL_law_760 : decode cL_law 760 = .ok (.if_icmp .ne 43, 3) := by decide +kernel
theorem dL_law_763 : decode cL_law 763 = .ok (.iload 20, 2) := by decide +kernel
theorem dL_law_765 : decode cL_law 765 = .ok (.ifCond .eq 38, 3) := by decide +kernel
theorem dL_law_768 : decode cL_law 768 = .ok (.aload_n 1, 1) := by decide +kernel
theorem dL_law_769 : decode cL_law 769 = .ok (.iload 18, 2) := by decide +kernel
theorem dL_law_771 : decode cL_law 771 = .ok (.iload 16, 2) := by decide +kernel
theorem dL_law_773 : decode cL_law 773 = .ok (.bipush 7, 2) := by decide +kernel
theorem dL_law_775 : decode cL_law 775 = .ok (.ishr, 1) := by decide +kernel
theorem dL_law_776 : decode cL_law 776 = .ok (.aload_n 2, 1) := by decide +kernel
theorem dL_law_777 : decode cL_law 777 = .ok (.aload 4, 2) := by decide +kernel
theorem dL_law_779 : decode cL_law 779 = .ok (.aload 5, 2) := by decide +kernel
theorem dL_law_781 : decode cL_law 781 = .ok (.aload 6, 2) := by decide +kernel
theorem dL_law_783 : decode cL_law 783 = .ok (.aload 7, 2) := by decide +kernel
theorem dL_law_785 : decode cL_law 785 = .ok (.aload 8, 2) := by decide +kernel
theorem dL_law_787 : decode cL_law 787 = .ok (.aload 9, 2) := by decide +kernel
theorem dL_law_789 : decode cL_law 789 = .ok (.aload 10, 2) := by decide +kernel
theorem dL_law_791 : decode cL_law 791 = .ok (.aload 11, 2) := by decide +kernel
theorem dL_law_793 : decode cL_law 793 = .ok (.aload 12, 2) := by decide +kernel
theorem dL_law_795 : decode cL_law 795 = .ok (.invokestatic 270, 3) := by decide +kernel
theorem dL_law_798 : decode cL_law 798 = .ok (.istore 19, 2) := by decide +kernel
theorem dL_law_800 : decode cL_law 800 = .ok (.goto 317, 3) := by decide +kernel
theorem dL_law_803 : decode cL_law 803 = .ok (.iload 17, 2) := by decide +kernel
theorem dL_law_805 : decode cL_law 805 = .ok (.bipush 21, 2) := by decide +kernel
theorem dL_law_807 : decode cL_law 807 = .ok (.if_icmp .ne 43, 3) := by decide +kernel
theorem dL_law_810 : decode cL_law 810 = .ok (.iload 20, 2) := by decide +kernel
theorem dL_law_812 : decode cL_law 812 = .ok (.ifCond .eq 38, 3) := by decide +kernel
theorem dL_law_815 : decode cL_law 815 = .ok (.aload_n 1, 1) := by decide +kernel
theorem dL_law_816 : decode cL_law 816 = .ok (.iload 18, 2) := by decide +kernel
theorem dL_law_818 : decode cL_law 818 = .ok (.iload 16, 2) := by decide +kernel
theorem dL_law_820 : decode cL_law 820 = .ok (.bipush 7, 2) := by decide +kernel
theorem dL_law_822 : decode cL_law 822 = .ok (.ishr, 1) := by decide +kernel
theorem dL_law_823 : decode cL_law 823 = .ok (.aload_n 2, 1) := by decide +kernel
theorem dL_law_824 : decode cL_law 824 = .ok (.aload 4, 2) := by decide +kernel
theorem dL_law_826 : decode cL_law 826 = .ok (.aload 5, 2) := by decide +kernel
theorem dL_law_828 : decode cL_law 828 = .ok (.aload 6, 2) := by decide +kernel
theorem dL_law_830 : decode cL_law 830 = .ok (.aload 7, 2) := by decide +kernel
theorem dL_law_832 : decode cL_law 832 = .ok (.aload 8, 2) := by decide +kernel
theorem dL_law_834 : decode cL_law 834 = .ok (.aload 9, 2) := by decide +kernel
theorem dL_law_836 : decode cL_law 836 = .ok (.aload 10, 2) := by decide +kernel
theorem dL_law_838 : decode cL_law 838 = .ok (.aload 11, 2) := by decide +kernel
theorem dL_law_840 : decode cL_law 840 = .ok (.aload 12, 2) := by decide +kernel
theorem dL_law_842 : decode cL_law 842 = .ok (.invokestatic 273, 3) := by decide +kernel
theorem dL_law_845 : decode cL_law 845 = .ok (.istore 19, 2) := by decide +kernel
theorem dL_law_847 : decode cL_law 847 = .ok (.goto 270, 3) := by decide +kernel
theorem dL_law_850 : decode cL_law 850 = .ok (.iload 17, 2) := by decide +kernel
theorem dL_law_852 : decode cL_law 852 = .ok (.bipush 21, 2) := by decide +kernel
theorem dL_law_854 : decode cL_law 854 = .ok (.if_icmp .le 50, 3) := by decide +kernel
theorem dL_law_857 : decode cL_law 857 = .ok (.iload 17, 2) := by decide +kernel
theorem dL_law_859 : decode cL_law 859 = .ok (.bipush 24, 2) := by decide +kernel
theorem dL_law_861 : decode cL_law 861 = .ok (.if_icmp .ge 43, 3) := by decide +kernel
theorem dL_law_864 : decode cL_law 864 = .ok (.iload 20, 2) := by decide +kernel
theorem dL_law_866 : decode cL_law 866 = .ok (.ifCond .eq 38, 3) := by decide +kernel
theorem dL_law_869 : decode cL_law 869 = .ok (.aload_n 1, 1) := by decide +kernel
theorem dL_law_870 : decode cL_law 870 = .ok (.iload 18, 2) := by decide +kernel
theorem dL_law_872 : decode cL_law 872 = .ok (.iload 16, 2) := by decide +kernel
theorem dL_law_874 : decode cL_law 874 = .ok (.bipush 7, 2) := by decide +kernel
theorem dL_law_876 : decode cL_law 876 = .ok (.ishr, 1) := by decide +kernel
theorem dL_law_877 : decode cL_law 877 = .ok (.aload_n 2, 1) := by decide +kernel
theorem dL_law_878 : decode cL_law 878 = .ok (.aload 4, 2) := by decide +kernel
theorem dL_law_880 : decode cL_law 880 = .ok (.aload 5, 2) := by decide +kernel
theorem dL_law_882 : decode cL_law 882 = .ok (.aload 6, 2) := by decide +kernel
theorem dL_law_884 : decode cL_law 884 = .ok (.aload 7, 2) := by decide +kernel
theorem dL_law_886 : decode cL_law 886 = .ok (.aload 8, 2) := by decide +kernel
theorem dL_law_888 : decode cL_law 888 = .ok (.aload 9, 2) := by decide +kernel
theorem dL_law_890 : decode cL_law 890 = .ok (.aload 10, 2) := by decide +kernel
theorem dL_law_892 : decode cL_law 892 = .ok (.aload 11, 2) := by decide +kernel
theorem dL_law_894 : decode cL_law 894 = .ok (.aload 12, 2) := by decide +kernel
theorem dL_law_896 : decode cL_law 896 = .ok (.invokestatic 276, 3) := by decide +kernel
theorem dL_law_899 : decode cL_law 899 = .ok (.istore 19, 2) := by decide +kernel
theorem dL_law_901 : decode cL_law 901 = .ok (.goto 216, 3) := by decide +kernel
theorem dL_law_904 : decode cL_law 904 = .ok (.iload 17, 2) := by decide +kernel
theorem dL_law_906 : decode cL_law 906 = .ok (.bipush 23, 2) := by decide +kernel
theorem dL_law_908 : decode cL_law 908 = .ok (.if_icmp .le 31, 3) := by decide +kernel
theorem dL_law_911 : decode cL_law 911 = .ok (.iload 17, 2) := by decide +kernel
theorem dL_law_913 : decode cL_law 913 = .ok (.bipush 29, 2) := by decide +kernel
theorem dL_law_915 : decode cL_law 915 = .ok (.if_icmp .ge 24, 3) := by decide +kernel
theorem dL_law_918 : decode cL_law 918 = .ok (.aload_n 1, 1) := by decide +kernel
theorem dL_law_919 : decode cL_law 919 = .ok (.iload 16, 2) := by decide +kernel
theorem dL_law_921 : decode cL_law 921 = .ok (.bipush 7, 2) := by decide +kernel
theorem dL_law_923 : decode cL_law 923 = .ok (.ishr, 1) := by decide +kernel
theorem dL_law_924 : decode cL_law 924 = .ok (.aload_n 2, 1) := by decide +kernel
theorem dL_law_925 : decode cL_law 925 = .ok (.aload 4, 2) := by decide +kernel
theorem dL_law_927 : decode cL_law 927 = .ok (.aload 5, 2) := by decide +kernel
theorem dL_law_929 : decode cL_law 929 = .ok (.aload 10, 2) := by decide +kernel
theorem dL_law_931 : decode cL_law 931 = .ok (.invokestatic 278, 3) := by decide +kernel
theorem dL_law_934 : decode cL_law 934 = .ok (.istore 19, 2) := by decide +kernel
theorem dL_law_936 : decode cL_law 936 = .ok (.goto 181, 3) := by decide +kernel
theorem dL_law_939 : decode cL_law 939 = .ok (.iload 17, 2) := by decide +kernel
theorem dL_law_941 : decode cL_law 941 = .ok (.bipush 29, 2) := by decide +kernel
theorem dL_law_943 : decode cL_law 943 = .ok (.if_icmp .ne 69, 3) := by decide +kernel
theorem dL_law_946 : decode cL_law 946 = .ok (.iload 16, 2) := by decide +kernel
theorem dL_law_948 : decode cL_law 948 = .ok (.bipush 7, 2) := by decide +kernel
theorem dL_law_950 : decode cL_law 950 = .ok (.ishr, 1) := by decide +kernel
theorem dL_law_951 : decode cL_law 951 = .ok (.iload 16, 2) := by decide +kernel
theorem dL_law_953 : decode cL_law 953 = .ok (.bipush 10, 2) := by decide +kernel
theorem dL_law_955 : decode cL_law 955 = .ok (.ishr, 1) := by decide +kernel
theorem dL_law_956 : decode cL_law 956 = .ok (.iconst 2, 1) := by decide +kernel
theorem dL_law_957 : decode cL_law 957 = .ok (.invokestatic 119, 3) := by decide +kernel
theorem dL_law_960 : decode cL_law 960 = .ok (.ifCond .ne 7, 3) := by decide +kernel
theorem dL_law_963 : decode cL_law 963 = .ok (.iconst 4, 1) := by decide +kernel
theorem dL_law_964 : decode cL_law 964 = .ok (.goto 4, 3) := by decide +kernel
theorem dL_law_967 : decode cL_law 967 = .ok (.iconst 1, 1) := by decide +kernel
theorem dL_law_968 : decode cL_law 968 = .ok (.invokestatic 119, 3) := by decide +kernel
theorem dL_law_971 : decode cL_law 971 = .ok (.istore 21, 2) := by decide +kernel
theorem dL_law_973 : decode cL_law 973 = .ok (.aload_n 2, 1) := by decide +kernel
theorem dL_law_974 : decode cL_law 974 = .ok (.iconst 4, 1) := by decide +kernel
theorem dL_law_975 : decode cL_law 975 = .ok (.iload 18, 2) := by decide +kernel
theorem dL_law_977 : decode cL_law 977 = .ok (.iadd, 1) := by decide +kernel
theorem dL_law_978 : decode cL_law 978 = .ok (.iaload, 1) := by decide +kernel
theorem dL_law_979 : decode cL_law 979 = .ok (.istore 22, 2) := by decide +kernel
theorem dL_law_981 : decode cL_law 981 = .ok (.aload_n 2, 1) := by decide +kernel
theorem dL_law_982 : decode cL_law 982 = .ok (.iconst 4, 1) := by decide +kernel
theorem dL_law_983 : decode cL_law 983 = .ok (.iload 18, 2) := by decide +kernel
theorem dL_law_985 : decode cL_law 985 = .ok (.iadd, 1) := by decide +kernel
theorem dL_law_986 : decode cL_law 986 = .ok (.iload 21, 2) := by decide +kernel
theorem dL_law_988 : decode cL_law 988 = .ok (.iastore, 1) := by decide +kernel
theorem dL_law_989 : decode cL_law 989 = .ok (.aload_n 1, 1) := by decide +kernel
theorem dL_law_990 : decode cL_law 990 = .ok (.iload 18, 2) := by decide +kernel
theorem dL_law_992 : decode cL_law 992 = .ok (.iload 21, 2) := by decide +kernel
theorem dL_law_994 : decode cL_law 994 = .ok (.invokevirtual 282, 3) := by decide +kernel
theorem dL_law_997 : decode cL_law 997 = .ok (.iload 22, 2) := by decide +kernel
theorem dL_law_999 : decode cL_law 999 = .ok (.if_icmp .ne 7, 3) := by decide +kernel
theorem dL_law_1002 : decode cL_law 1002 = .ok (.iconst 1, 1) := by decide +kernel
theorem dL_law_1003 : decode cL_law 1003 = .ok (.goto 4, 3) := by decide +kernel
theorem dL_law_1006 : decode cL_law 1006 = .ok (.iconst 0, 1) := by decide +kernel
theorem dL_law_1007 : decode cL_law 1007 = .ok (.istore 19, 2) := by decide +kernel
theorem dL_law_1009 : decode cL_law 1009 = .ok (.goto 108, 3) := by decide +kernel
theorem dL_law_1012 : decode cL_law 1012 = .ok (.iload 17, 2) := by decide +kernel
theorem dL_law_1014 : decode cL_law 1014 = .ok (.bipush 30, 2) := by decide +kernel
theorem dL_law_1016 : decode cL_law 1016 = .ok (.if_icmp .ne 23, 3) := by decide +kernel
theorem dL_law_1019 : decode cL_law 1019 = .ok (.aload_n 1, 1) := by decide +kernel
theorem dL_law_1020 : decode cL_law 1020 = .ok (.iload 18, 2) := by decide +kernel
theorem dL_law_1022 : decode cL_law 1022 = .ok (.aload_n 2, 1) := by decide +kernel
theorem dL_law_1023 : decode cL_law 1023 = .ok (.aload 4, 2) := by decide +kernel
theorem dL_law_1025 : decode cL_law 1025 = .ok (.aload 5, 2) := by decide +kernel
theorem dL_law_1027 : decode cL_law 1027 = .ok (.aload 6, 2) := by decide +kernel
theorem dL_law_1029 : decode cL_law 1029 = .ok (.aload 10, 2) := by decide +kernel
theorem dL_law_1031 : decode cL_law 1031 = .ok (.invokestatic 285, 3) := by decide +kernel
theorem dL_law_1034 : decode cL_law 1034 = .ok (.istore 19, 2) := by decide +kernel
theorem dL_law_1036 : decode cL_law 1036 = .ok (.goto 81, 3) := by decide +kernel
theorem dL_law_1039 : decode cL_law 1039 = .ok (.iload 17, 2) := by decide +kernel
theorem dL_law_1041 : decode cL_law 1041 = .ok (.bipush 31, 2) := by decide +kernel
theorem dL_law_1043 : decode cL_law 1043 = .ok (.if_icmp .ne 43, 3) := by decide +kernel
theorem dL_law_1046 : decode cL_law 1046 = .ok (.aload_n 1, 1) := by decide +kernel
theorem dL_law_1047 : decode cL_law 1047 = .ok (.iload 18, 2) := by decide +kernel
theorem dL_law_1049 : decode cL_law 1049 = .ok (.iload 16, 2) := by decide +kernel
theorem dL_law_1051 : decode cL_law 1051 = .ok (.bipush 7, 2) := by decide +kernel
theorem dL_law_1053 : decode cL_law 1053 = .ok (.ishr, 1) := by decide +kernel
theorem dL_law_1054 : decode cL_law 1054 = .ok (.aload_n 2, 1) := by decide +kernel
theorem dL_law_1055 : decode cL_law 1055 = .ok (.aload_n 3, 1) := by decide +kernel
theorem dL_law_1056 : decode cL_law 1056 = .ok (.aload 4, 2) := by decide +kernel
theorem dL_law_1058 : decode cL_law 1058 = .ok (.aload 5, 2) := by decide +kernel
theorem dL_law_1060 : decode cL_law 1060 = .ok (.aload 6, 2) := by decide +kernel
theorem dL_law_1062 : decode cL_law 1062 = .ok (.aload 7, 2) := by decide +kernel
theorem dL_law_1064 : decode cL_law 1064 = .ok (.aload 8, 2) := by decide +kernel
theorem dL_law_1066 : decode cL_law 1066 = .ok (.aload 9, 2) := by decide +kernel
theorem dL_law_1068 : decode cL_law 1068 = .ok (.aload 10, 2) := by decide +kernel
theorem dL_law_1070 : decode cL_law 1070 = .ok (.aload 11, 2) := by decide +kernel
theorem dL_law_1072 : decode cL_law 1072 = .ok (.aload 12, 2) := by decide +kernel
theorem dL_law_1074 : decode cL_law 1074 = .ok (.aload 13, 2) := by decide +kernel
theorem dL_law_1076 : decode cL_law 1076 = .ok (.aload 14, 2) := by decide +kernel
theorem dL_law_1078 : decode cL_law 1078 = .ok (.invokestatic 289, 3) := by decide +kernel
theorem dL_law_1081 : decode cL_law 1081 = .ok (.istore 19, 2) := by decide +kernel
theorem dL_law_1083 : decode cL_law 1083 = .ok (.goto 34, 3) := by decide +kernel
theorem dL_law_1086 : decode cL_law 1086 = .ok (.aload_n 1, 1) := by decide +kernel
theorem dL_law_1087 : decode cL_law 1087 = .ok (.iload 18, 2) := by decide +kernel
theorem dL_law_1089 : decode cL_law 1089 = .ok (.iload 16, 2) := by decide +kernel
theorem dL_law_1091 : decode cL_law 1091 = .ok (.bipush 7, 2) := by decide +kernel
theorem dL_law_1093 : decode cL_law 1093 = .ok (.ishr, 1) := by decide +kernel
theorem dL_law_1094 : decode cL_law 1094 = .ok (.aload_n 2, 1) := by decide +kernel
theorem dL_law_1095 : decode cL_law 1095 = .ok (.aload_n 3, 1) := by decide +kernel
theorem dL_law_1096 : decode cL_law 1096 = .ok (.aload 4, 2) := by decide +kernel
theorem dL_law_1098 : decode cL_law 1098 = .ok (.aload 5, 2) := by decide +kernel
theorem dL_law_1100 : decode cL_law 1100 = .ok (.aload 6, 2) := by decide +kernel
theorem dL_law_1102 : decode cL_law 1102 = .ok (.aload 7, 2) := by decide +kernel
theorem dL_law_1104 : decode cL_law 1104 = .ok (.aload 8, 2) := by decide +kernel
theorem dL_law_1106 : decode cL_law 1106 = .ok (.aload 10, 2) := by decide +kernel
theorem dL_law_1108 : decode cL_law 1108 = .ok (.aload 11, 2) := by decide +kernel
theorem dL_law_1110 : decode cL_law 1110 = .ok (.aload 12, 2) := by decide +kernel
theorem dL_law_1112 : decode cL_law 1112 = .ok (.invokestatic 293, 3) := by decide +kernel
theorem dL_law_1115 : decode cL_law 1115 = .ok (.istore 19, 2) := by decide +kernel
theorem dL_law_1117 : decode cL_law 1117 = .ok (.iload 16, 2) := by decide +kernel
theorem dL_law_1119 : decode cL_law 1119 = .ok (.bipush 8, 2) := by decide +kernel
theorem dL_law_1121 : decode cL_law 1121 = .ok (.ishr, 1) := by decide +kernel
theorem dL_law_1122 : decode cL_law 1122 = .ok (.iconst 4, 1) := by decide +kernel
theorem dL_law_1123 : decode cL_law 1123 = .ok (.invokestatic 119, 3) := by decide +kernel
theorem dL_law_1126 : decode cL_law 1126 = .ok (.istore 21, 2) := by decide +kernel
theorem dL_law_1128 : decode cL_law 1128 = .ok (.iload 21, 2) := by decide +kernel
theorem dL_law_1130 : decode cL_law 1130 = .ok (.aload_n 2, 1) := by decide +kernel
theorem dL_law_1131 : decode cL_law 1131 = .ok (.aload 4, 2) := by decide +kernel
theorem dL_law_1133 : decode cL_law 1133 = .ok (.aload 5, 2) := by decide +kernel
theorem dL_law_1135 : decode cL_law 1135 = .ok (.aload 6, 2) := by decide +kernel
theorem dL_law_1137 : decode cL_law 1137 = .ok (.aload 7, 2) := by decide +kernel
theorem dL_law_1139 : decode cL_law 1139 = .ok (.aload 8, 2) := by decide +kernel
theorem dL_law_1141 : decode cL_law 1141 = .ok (.aload 9, 2) := by decide +kernel
theorem dL_law_1143 : decode cL_law 1143 = .ok (.aload 10, 2) := by decide +kernel
theorem dL_law_1145 : decode cL_law 1145 = .ok (.aload 11, 2) := by decide +kernel
theorem dL_law_1147 : decode cL_law 1147 = .ok (.aload 12, 2) := by decide +kernel
theorem dL_law_1149 : decode cL_law 1149 = .ok (.invokestatic 197, 3) := by decide +kernel
theorem dL_law_1152 : decode cL_law 1152 = .ok (.iload 19, 2) := by decide +kernel
theorem dL_law_1154 : decode cL_law 1154 = .ok (.ifCond .eq 78, 3) := by decide +kernel
theorem dL_law_1157 : decode cL_law 1157 = .ok (.aload_n 1, 1) := by decide +kernel
theorem dL_law_1158 : decode cL_law 1158 = .ok (.iload 21, 2) := by decide +kernel
theorem dL_law_1160 : decode cL_law 1160 = .ok (.iload 16, 2) := by decide +kernel
theorem dL_law_1162 : decode cL_law 1162 = .ok (.bipush 10, 2) := by decide +kernel
theorem dL_law_1164 : decode cL_law 1164 = .ok (.ishr, 1) := by decide +kernel
theorem dL_law_1165 : decode cL_law 1165 = .ok (.aload_n 2, 1) := by decide +kernel
theorem dL_law_1166 : decode cL_law 1166 = .ok (.aload_n 3, 1) := by decide +kernel
theorem dL_law_1167 : decode cL_law 1167 = .ok (.aload 4, 2) := by decide +kernel
theorem dL_law_1169 : decode cL_law 1169 = .ok (.aload 5, 2) := by decide +kernel
theorem dL_law_1171 : decode cL_law 1171 = .ok (.aload 6, 2) := by decide +kernel
theorem dL_law_1173 : decode cL_law 1173 = .ok (.aload 7, 2) := by decide +kernel
theorem dL_law_1175 : decode cL_law 1175 = .ok (.aload 8, 2) := by decide +kernel
theorem dL_law_1177 : decode cL_law 1177 = .ok (.aload 10, 2) := by decide +kernel
theorem dL_law_1179 : decode cL_law 1179 = .ok (.aload 11, 2) := by decide +kernel
theorem dL_law_1181 : decode cL_law 1181 = .ok (.aload 12, 2) := by decide +kernel
theorem dL_law_1183 : decode cL_law 1183 = .ok (.invokestatic 297, 3) := by decide +kernel
theorem dL_law_1186 : decode cL_law 1186 = .ok (.ifCond .eq 46, 3) := by decide +kernel
theorem dL_law_1189 : decode cL_law 1189 = .ok (.aload_n 1, 1) := by decide +kernel
theorem dL_law_1190 : decode cL_law 1190 = .ok (.iload 21, 2) := by decide +kernel
theorem dL_law_1192 : decode cL_law 1192 = .ok (.iload 16, 2) := by decide +kernel
theorem dL_law_1194 : decode cL_law 1194 = .ok (.bipush 9, 2) := by decide +kernel
theorem dL_law_1196 : decode cL_law 1196 = .ok (.ishr, 1) := by decide +kernel
theorem dL_law_1197 : decode cL_law 1197 = .ok (.aload_n 2, 1) := by decide +kernel
theorem dL_law_1198 : decode cL_law 1198 = .ok (.iconst 0, 1) := by decide +kernel
theorem dL_law_1199 : decode cL_law 1199 = .ok (.iaload, 1) := by decide +kernel
theorem dL_law_1200 : decode cL_law 1200 = .ok (.invokestatic 119, 3) := by decide +kernel
theorem dL_law_1203 : decode cL_law 1203 = .ok (.iload 16, 2) := by decide +kernel
theorem dL_law_1205 : decode cL_law 1205 = .ok (.bipush 12, 2) := by decide +kernel
theorem dL_law_1207 : decode cL_law 1207 = .ok (.ishr, 1) := by decide +kernel
theorem dL_law_1208 : decode cL_law 1208 = .ok (.aload_n 2, 1) := by decide +kernel
theorem dL_law_1209 : decode cL_law 1209 = .ok (.aload_n 3, 1) := by decide +kernel
theorem dL_law_1210 : decode cL_law 1210 = .ok (.aload 4, 2) := by decide +kernel
theorem dL_law_1212 : decode cL_law 1212 = .ok (.aload 5, 2) := by decide +kernel
theorem dL_law_1214 : decode cL_law 1214 = .ok (.aload 6, 2) := by decide +kernel
theorem dL_law_1216 : decode cL_law 1216 = .ok (.aload 7, 2) := by decide +kernel
theorem dL_law_1218 : decode cL_law 1218 = .ok (.aload 8, 2) := by decide +kernel
theorem dL_law_1220 : decode cL_law 1220 = .ok (.aload 10, 2) := by decide +kernel
theorem dL_law_1222 : decode cL_law 1222 = .ok (.aload 11, 2) := by decide +kernel
theorem dL_law_1224 : decode cL_law 1224 = .ok (.aload 12, 2) := by decide +kernel
theorem dL_law_1226 : decode cL_law 1226 = .ok (.invokestatic 300, 3) := by decide +kernel
theorem dL_law_1229 : decode cL_law 1229 = .ok (.ifCond .ne 5, 3) := by decide +kernel
theorem dL_law_1232 : decode cL_law 1232 = .ok (.iconst 0, 1) := by decide +kernel
theorem dL_law_1233 : decode cL_law 1233 = .ok (.ireturn, 1) := by decide +kernel
theorem dL_law_1234 : decode cL_law 1234 = .ok (.iinc 15 1, 3) := by decide +kernel
theorem dL_law_1237 : decode cL_law 1237 = .ok (.goto (-923), 3) := by decide +kernel
theorem dL_law_1240 : decode cL_law 1240 = .ok (.iconst 1, 1) := by decide +kernel
theorem dL_law_1241 : decode cL_law 1241 = .ok (.ireturn, 1) := by decide +kernel
