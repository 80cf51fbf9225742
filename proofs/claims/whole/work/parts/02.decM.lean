theorem dX10_init_0 : decode cX10_init 0 = .ok (.aload_n 0, 1) := by decide +kernel
theorem dX10_init_1 : decode cX10_init 1 = .ok (.invokespecial 1, 3) := by decide +kernel
theorem dX10_init_4 : decode cX10_init 4 = .ok (.aload_n 0, 1) := by decide +kernel
theorem dX10_init_5 : decode cX10_init 5 = .ok (.bipush 10, 2) := by decide +kernel
theorem dX10_init_7 : decode cX10_init 7 = .ok (.newarray .boolean, 2) := by decide +kernel
theorem dX10_init_9 : decode cX10_init 9 = .ok (.putfield 7, 3) := by decide +kernel
theorem dX10_init_12 : decode cX10_init 12 = .ok (.aload_n 0, 1) := by decide +kernel
theorem dX10_init_13 : decode cX10_init 13 = .ok (.bipush 10, 2) := by decide +kernel
theorem dX10_init_15 : decode cX10_init 15 = .ok (.newarray .boolean, 2) := by decide +kernel
theorem dX10_init_17 : decode cX10_init 17 = .ok (.putfield 13, 3) := by decide +kernel
theorem dX10_init_20 : decode cX10_init 20 = .ok (.aload_n 0, 1) := by decide +kernel
theorem dX10_init_21 : decode cX10_init 21 = .ok (.bipush 8, 2) := by decide +kernel
theorem dX10_init_23 : decode cX10_init 23 = .ok (.newarray .int, 2) := by decide +kernel
theorem dX10_init_25 : decode cX10_init 25 = .ok (.putfield 16, 3) := by decide +kernel
theorem dX10_init_28 : decode cX10_init 28 = .ok (.aload_n 0, 1) := by decide +kernel
theorem dX10_init_29 : decode cX10_init 29 = .ok (.bipush 8, 2) := by decide +kernel
theorem dX10_init_31 : decode cX10_init 31 = .ok (.newarray .int, 2) := by decide +kernel
theorem dX10_init_33 : decode cX10_init 33 = .ok (.putfield 20, 3) := by decide +kernel
theorem dX10_init_36 : decode cX10_init 36 = .ok (.aload_n 0, 1) := by decide +kernel
theorem dX10_init_37 : decode cX10_init 37 = .ok (.bipush 8, 2) := by decide +kernel
theorem dX10_init_39 : decode cX10_init 39 = .ok (.newarray .int, 2) := by decide +kernel
theorem dX10_init_41 : decode cX10_init 41 = .ok (.putfield 23, 3) := by decide +kernel
theorem dX10_init_44 : decode cX10_init 44 = .ok (.aload_n 0, 1) := by decide +kernel
theorem dX10_init_45 : decode cX10_init 45 = .ok (.bipush 12, 2) := by decide +kernel
theorem dX10_init_47 : decode cX10_init 47 = .ok (.newarray .int, 2) := by decide +kernel
theorem dX10_init_49 : decode cX10_init 49 = .ok (.putfield 26, 3) := by decide +kernel
theorem dX10_init_52 : decode cX10_init 52 = .ok (.aload_n 0, 1) := by decide +kernel
theorem dX10_init_53 : decode cX10_init 53 = .ok (.bipush 12, 2) := by decide +kernel
theorem dX10_init_55 : decode cX10_init 55 = .ok (.newarray .int, 2) := by decide +kernel
theorem dX10_init_57 : decode cX10_init 57 = .ok (.putfield 29, 3) := by decide +kernel
theorem dX10_init_60 : decode cX10_init 60 = .ok (.aload_n 0, 1) := by decide +kernel
theorem dX10_init_61 : decode cX10_init 61 = .ok (.bipush 15, 2) := by decide +kernel
theorem dX10_init_63 : decode cX10_init 63 = .ok (.newarray .int, 2) := by decide +kernel
theorem dX10_init_65 : decode cX10_init 65 = .ok (.putfield 32, 3) := by decide +kernel
theorem dX10_init_68 : decode cX10_init 68 = .ok (.aload_n 0, 1) := by decide +kernel
theorem dX10_init_69 : decode cX10_init 69 = .ok (.bipush 15, 2) := by decide +kernel
theorem dX10_init_71 : decode cX10_init 71 = .ok (.newarray .int, 2) := by decide +kernel
theorem dX10_init_73 : decode cX10_init 73 = .ok (.putfield 35, 3) := by decide +kernel
theorem dX10_init_76 : decode cX10_init 76 = .ok (.aload_n 0, 1) := by decide +kernel
theorem dX10_init_77 : decode cX10_init 77 = .ok (.bipush 15, 2) := by decide +kernel
theorem dX10_init_79 : decode cX10_init 79 = .ok (.newarray .int, 2) := by decide +kernel
theorem dX10_init_81 : decode cX10_init 81 = .ok (.putfield 38, 3) := by decide +kernel
theorem dX10_init_84 : decode cX10_init 84 = .ok (.aload_n 0, 1) := by decide +kernel
theorem dX10_init_85 : decode cX10_init 85 = .ok (.bipush 15, 2) := by decide +kernel
theorem dX10_init_87 : decode cX10_init 87 = .ok (.newarray .boolean, 2) := by decide +kernel
theorem dX10_init_89 : decode cX10_init 89 = .ok (.putfield 41, 3) := by decide +kernel
theorem dX10_init_92 : decode cX10_init 92 = .ok (.aload_n 0, 1) := by decide +kernel
theorem dX10_init_93 : decode cX10_init 93 = .ok (.bipush 8, 2) := by decide +kernel
theorem dX10_init_95 : decode cX10_init 95 = .ok (.newarray .int, 2) := by decide +kernel
theorem dX10_init_97 : decode cX10_init 97 = .ok (.putfield 44, 3) := by decide +kernel
theorem dX10_init_100 : decode cX10_init 100 = .ok (.aload_n 0, 1) := by decide +kernel
theorem dX10_init_101 : decode cX10_init 101 = .ok (.iconst 4, 1) := by decide +kernel
theorem dX10_init_102 : decode cX10_init 102 = .ok (.newarray .int, 2) := by decide +kernel
theorem dX10_init_104 : decode cX10_init 104 = .ok (.putfield 47, 3) := by decide +kernel
theorem dX10_init_107 : decode cX10_init 107 = .ok (.aload_n 0, 1) := by decide +kernel
theorem dX10_init_108 : decode cX10_init 108 = .ok (.bipush 64, 2) := by decide +kernel
theorem dX10_init_110 : decode cX10_init 110 = .ok (.newarray .int, 2) := by decide +kernel
theorem dX10_init_112 : decode cX10_init 112 = .ok (.putfield 50, 3) := by decide +kernel
theorem dX10_init_115 : decode cX10_init 115 = .ok (.aload_n 0, 1) := by decide +kernel
theorem dX10_init_116 : decode cX10_init 116 = .ok (.sipush 192, 3) := by decide +kernel
theorem dX10_init_119 : decode cX10_init 119 = .ok (.newarray .boolean, 2) := by decide +kernel
theorem dX10_init_121 : decode cX10_init 121 = .ok (.putfield 53, 3) := by decide +kernel
theorem dX10_init_124 : decode cX10_init 124 = .ok (.aload_n 0, 1) := by decide +kernel
theorem dX10_init_125 : decode cX10_init 125 = .ok (.iconst 1, 1) := by decide +kernel
theorem dX10_init_126 : decode cX10_init 126 = .ok (.putfield 56, 3) := by decide +kernel
theorem dX10_init_129 : decode cX10_init 129 = .ok (.aload_n 0, 1) := by decide +kernel
theorem dX10_init_130 : decode cX10_init 130 = .ok (.sipush 250, 3) := by decide +kernel
theorem dX10_init_133 : decode cX10_init 133 = .ok (.newarray .int, 2) := by decide +kernel
theorem dX10_init_135 : decode cX10_init 135 = .ok (.putfield 60, 3) := by decide +kernel
theorem dX10_init_138 : decode cX10_init 138 = .ok (.aload_n 0, 1) := by decide +kernel
theorem dX10_init_139 : decode cX10_init 139 = .ok (.sipush 250, 3) := by decide +kernel
theorem dX10_init_142 : decode cX10_init 142 = .ok (.newarray .int, 2) := by decide +kernel
theorem dX10_init_144 : decode cX10_init 144 = .ok (.putfield 63, 3) := by decide +kernel
theorem dX10_init_147 : decode cX10_init 147 = .ok (.aload_n 0, 1) := by decide +kernel
theorem dX10_init_148 : decode cX10_init 148 = .ok (.sipush 250, 3) := by decide +kernel
theorem dX10_init_151 : decode cX10_init 151 = .ok (.newarray .int, 2) := by decide +kernel
theorem dX10_init_153 : decode cX10_init 153 = .ok (.putfield 66, 3) := by decide +kernel
theorem dX10_init_156 : decode cX10_init 156 = .ok (.aload_n 0, 1) := by decide +kernel
theorem dX10_init_157 : decode cX10_init 157 = .ok (.sipush 250, 3) := by decide +kernel
theorem dX10_init_160 : decode cX10_init 160 = .ok (.newarray .int, 2) := by decide +kernel
theorem dX10_init_162 : decode cX10_init 162 = .ok (.putfield 69, 3) := by decide +kernel
theorem dX10_init_165 : decode cX10_init 165 = .ok (.aload_n 0, 1) := by decide +kernel
theorem dX10_init_166 : decode cX10_init 166 = .ok (.sipush 250, 3) := by decide +kernel
theorem dX10_init_169 : decode cX10_init 169 = .ok (.newarray .int, 2) := by decide +kernel
theorem dX10_init_171 : decode cX10_init 171 = .ok (.putfield 72, 3) := by decide +kernel
theorem dX10_init_174 : decode cX10_init 174 = .ok (.aload_n 0, 1) := by decide +kernel
theorem dX10_init_175 : decode cX10_init 175 = .ok (.sipush 250, 3) := by decide +kernel
theorem dX10_init_178 : decode cX10_init 178 = .ok (.newarray .int, 2) := by decide +kernel
theorem dX10_init_180 : decode cX10_init 180 = .ok (.putfield 75, 3) := by decide +kernel
theorem dX10_init_183 : decode cX10_init 183 = .ok (.aload_n 0, 1) := by decide +kernel
theorem dX10_init_184 : decode cX10_init 184 = .ok (.sipush 250, 3) := by decide +kernel
theorem dX10_init_187 : decode cX10_init 187 = .ok (.newarray .int, 2) := by decide +kernel
theorem dX10_init_189 : decode cX10_init 189 = .ok (.putfield 78, 3) := by decide +kernel
theorem dX10_init_192 : decode cX10_init 192 = .ok (.aload_n 0, 1) := by decide +kernel
theorem dX10_init_193 : decode cX10_init 193 = .ok (.sipush 250, 3) := by decide +kernel
theorem dX10_init_196 : decode cX10_init 196 = .ok (.newarray .int, 2) := by decide +kernel
theorem dX10_init_198 : decode cX10_init 198 = .ok (.putfield 81, 3) := by decide +kernel
theorem dX10_init_201 : decode cX10_init 201 = .ok (.aload_n 0, 1) := by decide +kernel
theorem dX10_init_202 : decode cX10_init 202 = .ok (.sipush 250, 3) := by decide +kernel
theorem dX10_init_205 : decode cX10_init 205 = .ok (.newarray .int, 2) := by decide +kernel
theorem dX10_init_207 : decode cX10_init 207 = .ok (.putfield 84, 3) := by decide +kernel
theorem dX10_init_210 : decode cX10_init 210 = .ok (.aload_n 0, 1) := by decide +kernel
theorem dX10_init_211 : decode cX10_init 211 = .ok (.sipush 250, 3) := by decide +kernel
theorem dX10_init_214 : decode cX10_init 214 = .ok (.newarray .int, 2) := by decide +kernel
theorem dX10_init_216 : decode cX10_init 216 = .ok (.putfield 87, 3) := by decide +kernel
theorem dX10_init_219 : decode cX10_init 219 = .ok (.aload_n 0, 1) := by decide +kernel
theorem dX10_init_220 : decode cX10_init 220 = .ok (.sipush 600, 3) := by decide +kernel
theorem dX10_init_223 : decode cX10_init 223 = .ok (.newarray .int, 2) := by decide +kernel
theorem dX10_init_225 : decode cX10_init 225 = .ok (.putfield 90, 3) := by decide +kernel
theorem dX10_init_228 : decode cX10_init 228 = .ok (.aload_n 0, 1) := by decide +kernel
theorem dX10_init_229 : decode cX10_init 229 = .ok (.sipush 600, 3) := by decide +kernel
theorem dX10_init_232 : decode cX10_init 232 = .ok (.newarray .int, 2) := by decide +kernel
theorem dX10_init_234 : decode cX10_init 234 = .ok (.putfield 93, 3) := by decide +kernel
theorem dX10_init_237 : decode cX10_init 237 = .ok (.aload_n 0, 1) := by decide +kernel
theorem dX10_init_238 : decode cX10_init 238 = .ok (.sipush 250, 3) := by decide +kernel
theorem dX10_init_241 : decode cX10_init 241 = .ok (.newarray .int, 2) := by decide +kernel
theorem dX10_init_243 : decode cX10_init 243 = .ok (.putfield 96, 3) := by decide +kernel
theorem dX10_init_246 : decode cX10_init 246 = .ok (.aload_n 0, 1) := by decide +kernel
theorem dX10_init_247 : decode cX10_init 247 = .ok (.iconst (-1), 1) := by decide +kernel
theorem dX10_init_248 : decode cX10_init 248 = .ok (.putfield 99, 3) := by decide +kernel
theorem dX10_init_251 : decode cX10_init 251 = .ok (.aload_n 0, 1) := by decide +kernel
theorem dX10_init_252 : decode cX10_init 252 = .ok (.bipush 48, 2) := by decide +kernel
theorem dX10_init_254 : decode cX10_init 254 = .ok (.newarray .boolean, 2) := by decide +kernel
theorem dX10_init_256 : decode cX10_init 256 = .ok (.putfield 102, 3) := by decide +kernel
theorem dX10_init_259 : decode cX10_init 259 = .ok (.aload_n 0, 1) := by decide +kernel
theorem dX10_init_260 : decode cX10_init 260 = .ok (.bipush 48, 2) := by decide +kernel
theorem dX10_init_262 : decode cX10_init 262 = .ok (.newarray .boolean, 2) := by decide +kernel
theorem dX10_init_264 : decode cX10_init 264 = .ok (.putfield 105, 3) := by decide +kernel
theorem dX10_init_267 : decode cX10_init 267 = .ok (.aload_n 0, 1) := by decide +kernel
theorem dX10_init_268 : decode cX10_init 268 = .ok (.bipush 48, 2) := by decide +kernel
theorem dX10_init_270 : decode cX10_init 270 = .ok (.newarray .int, 2) := by decide +kernel
theorem dX10_init_272 : decode cX10_init 272 = .ok (.putfield 108, 3) := by decide +kernel
theorem dX10_init_275 : decode cX10_init 275 = .ok (.aload_n 0, 1) := by decide +kernel
theorem dX10_init_276 : decode cX10_init 276 = .ok (.bipush 48, 2) := by decide +kernel
theorem dX10_init_278 : decode cX10_init 278 = .ok (.newarray .int, 2) := by decide +kernel
theorem dX10_init_280 : decode cX10_init 280 = .ok (.putfield 111, 3) := by decide +kernel
theorem dX10_init_283 : decode cX10_init 283 = .ok (.aload_n 0, 1) := by decide +kernel
theorem dX10_init_284 : decode cX10_init 284 = .ok (.bipush 48, 2) := by decide +kernel
theorem dX10_init_286 : decode cX10_init 286 = .ok (.newarray .int, 2) := by decide +kernel
theorem dX10_init_288 : decode cX10_init 288 = .ok (.putfield 114, 3) := by decide +kernel
theorem dX10_init_291 : decode cX10_init 291 = .ok (.aload_n 0, 1) := by decide +kernel
theorem dX10_init_292 : decode cX10_init 292 = .ok (.bipush 48, 2) := by decide +kernel
theorem dX10_init_294 : decode cX10_init 294 = .ok (.newarray .int, 2) := by decide +kernel
theorem dX10_init_296 : decode cX10_init 296 = .ok (.putfield 117, 3) := by decide +kernel
theorem dX10_init_299 : decode cX10_init 299 = .ok (.aload_n 0, 1) := by decide +kernel
theorem dX10_init_300 : decode cX10_init 300 = .ok (.bipush 48, 2) := by decide +kernel
theorem dX10_init_302 : decode cX10_init 302 = .ok (.newarray .int, 2) := by decide +kernel
theorem dX10_init_304 : decode cX10_init 304 = .ok (.putfield 120, 3) := by decide +kernel
theorem dX10_init_307 : decode cX10_init 307 = .ok (.aload_n 0, 1) := by decide +kernel
theorem dX10_init_308 : decode cX10_init 308 = .ok (.bipush 48, 2) := by decide +kernel
theorem dX10_init_310 : decode cX10_init 310 = .ok (.newarray .int, 2) := by decide +kernel
theorem dX10_init_312 : decode cX10_init 312 = .ok (.putfield 123, 3) := by decide +kernel
theorem dX10_init_315 : decode cX10_init 315 = .ok (.aload_n 0, 1) := by decide +kernel
theorem dX10_init_316 : decode cX10_init 316 = .ok (.bipush 48, 2) := by decide +kernel
theorem dX10_init_318 : decode cX10_init 318 = .ok (.newarray .int, 2) := by decide +kernel
theorem dX10_init_320 : decode cX10_init 320 = .ok (.putfield 126, 3) := by decide +kernel
theorem dX10_init_323 : decode cX10_init 323 = .ok (.aload_n 0, 1) := by decide +kernel
theorem dX10_init_324 : decode cX10_init 324 = .ok (.sipush 900, 3) := by decide +kernel
theorem dX10_init_327 : decode cX10_init 327 = .ok (.newarray .int, 2) := by decide +kernel
theorem dX10_init_329 : decode cX10_init 329 = .ok (.putfield 129, 3) := by decide +kernel
theorem dX10_init_332 : decode cX10_init 332 = .ok (.aload_n 0, 1) := by decide +kernel
theorem dX10_init_333 : decode cX10_init 333 = .ok (.sipush 900, 3) := by decide +kernel
theorem dX10_init_336 : decode cX10_init 336 = .ok (.newarray .int, 2) := by decide +kernel
theorem dX10_init_338 : decode cX10_init 338 = .ok (.putfield 132, 3) := by decide +kernel
theorem dX10_init_341 : decode cX10_init 341 = .ok (.aload_n 0, 1) := by decide +kernel
theorem dX10_init_342 : decode cX10_init 342 = .ok (.sipush 900, 3) := by decide +kernel
theorem dX10_init_345 : decode cX10_init 345 = .ok (.newarray .int, 2) := by decide +kernel
theorem dX10_init_347 : decode cX10_init 347 = .ok (.putfield 135, 3) := by decide +kernel
theorem dX10_init_350 : decode cX10_init 350 = .ok (.aload_n 0, 1) := by decide +kernel
theorem dX10_init_351 : decode cX10_init 351 = .ok (.sipush 15840, 3) := by decide +kernel
theorem dX10_init_354 : decode cX10_init 354 = .ok (.newarray .int, 2) := by decide +kernel
theorem dX10_init_356 : decode cX10_init 356 = .ok (.putfield 138, 3) := by decide +kernel
theorem dX10_init_359 : decode cX10_init 359 = .ok (.aload_n 0, 1) := by decide +kernel
theorem dX10_init_360 : decode cX10_init 360 = .ok (.sipush 192, 3) := by decide +kernel
theorem dX10_init_363 : decode cX10_init 363 = .ok (.newarray .int, 2) := by decide +kernel
theorem dX10_init_365 : decode cX10_init 365 = .ok (.putfield 141, 3) := by decide +kernel
theorem dX10_init_368 : decode cX10_init 368 = .ok (.aload_n 0, 1) := by decide +kernel
theorem dX10_init_369 : decode cX10_init 369 = .ok (.sipush 400, 3) := by decide +kernel
theorem dX10_init_372 : decode cX10_init 372 = .ok (.newarray .int, 2) := by decide +kernel
theorem dX10_init_374 : decode cX10_init 374 = .ok (.putfield 144, 3) := by decide +kernel
theorem dX10_init_377 : decode cX10_init 377 = .ok (.aload_n 0, 1) := by decide +kernel
theorem dX10_init_378 : decode cX10_init 378 = .ok (.sipush 192, 3) := by decide +kernel
theorem dX10_init_381 : decode cX10_init 381 = .ok (.newarray .boolean, 2) := by decide +kernel
theorem dX10_init_383 : decode cX10_init 383 = .ok (.putfield 147, 3) := by decide +kernel
theorem dX10_init_386 : decode cX10_init 386 = .ok (.aload_n 0, 1) := by decide +kernel
theorem dX10_init_387 : decode cX10_init 387 = .ok (.bipush 48, 2) := by decide +kernel
theorem dX10_init_389 : decode cX10_init 389 = .ok (.newarray .boolean, 2) := by decide +kernel
theorem dX10_init_391 : decode cX10_init 391 = .ok (.putfield 150, 3) := by decide +kernel
theorem dX10_init_394 : decode cX10_init 394 = .ok (.aload_n 0, 1) := by decide +kernel
theorem dX10_init_395 : decode cX10_init 395 = .ok (.bipush 48, 2) := by decide +kernel
theorem dX10_init_397 : decode cX10_init 397 = .ok (.newarray .int, 2) := by decide +kernel
theorem dX10_init_399 : decode cX10_init 399 = .ok (.putfield 153, 3) := by decide +kernel
theorem dX10_init_402 : decode cX10_init 402 = .ok (.aload_n 0, 1) := by decide +kernel
theorem dX10_init_403 : decode cX10_init 403 = .ok (.bipush 48, 2) := by decide +kernel
theorem dX10_init_405 : decode cX10_init 405 = .ok (.newarray .int, 2) := by decide +kernel
theorem dX10_init_407 : decode cX10_init 407 = .ok (.putfield 156, 3) := by decide +kernel
theorem dX10_init_410 : decode cX10_init 410 = .ok (.aload_n 0, 1) := by decide +kernel
theorem dX10_init_411 : decode cX10_init 411 = .ok (.bipush 48, 2) := by decide +kernel
theorem dX10_init_413 : decode cX10_init 413 = .ok (.newarray .int, 2) := by decide +kernel
theorem dX10_init_415 : decode cX10_init 415 = .ok (.putfield 159, 3) := by decide +kernel
theorem dX10_init_418 : decode cX10_init 418 = .ok (.aload_n 0, 1) := by decide +kernel
theorem dX10_init_419 : decode cX10_init 419 = .ok (.bipush 48, 2) := by decide +kernel
theorem dX10_init_421 : decode cX10_init 421 = .ok (.newarray .int, 2) := by decide +kernel
theorem dX10_init_423 : decode cX10_init 423 = .ok (.putfield 162, 3) := by decide +kernel
theorem dX10_init_426 : decode cX10_init 426 = .ok (.aload_n 0, 1) := by decide +kernel
theorem dX10_init_427 : decode cX10_init 427 = .ok (.sipush 900, 3) := by decide +kernel
theorem dX10_init_430 : decode cX10_init 430 = .ok (.newarray .int, 2) := by decide +kernel
theorem dX10_init_432 : decode cX10_init 432 = .ok (.putfield 165, 3) := by decide +kernel
theorem dX10_init_435 : decode cX10_init 435 = .ok (.aload_n 0, 1) := by decide +kernel
theorem dX10_init_436 : decode cX10_init 436 = .ok (.sipush 900, 3) := by decide +kernel
theorem dX10_init_439 : decode cX10_init 439 = .ok (.newarray .int, 2) := by decide +kernel
theorem dX10_init_441 : decode cX10_init 441 = .ok (.putfield 168, 3) := by decide +kernel
theorem dX10_init_444 : decode cX10_init 444 = .ok (.aload_n 0, 1) := by decide +kernel
theorem dX10_init_445 : decode cX10_init 445 = .ok (.sipush 900, 3) := by decide +kernel
theorem dX10_init_448 : decode cX10_init 448 = .ok (.newarray .int, 2) := by decide +kernel
theorem dX10_init_450 : decode cX10_init 450 = .ok (.putfield 171, 3) := by decide +kernel
theorem dX10_init_453 : decode cX10_init 453 = .ok (.aload_n 0, 1) := by decide +kernel
theorem dX10_init_454 : decode cX10_init 454 = .ok (.sipush 15840, 3) := by decide +kernel
theorem dX10_init_457 : decode cX10_init 457 = .ok (.newarray .int, 2) := by decide +kernel
theorem dX10_init_459 : decode cX10_init 459 = .ok (.putfield 174, 3) := by decide +kernel
theorem dX10_init_462 : decode cX10_init 462 = .ok (.return_, 1) := by decide +kernel
theorem dX10_thrown_0 : decode cX10_thrown 0 = .ok (.aload_n 0, 1) := by decide +kernel
theorem dX10_thrown_1 : decode cX10_thrown 1 = .ok (.getfield 177, 3) := by decide +kernel
theorem dX10_thrown_4 : decode cX10_thrown 4 = .ok (.ireturn, 1) := by decide +kernel
theorem dX10_fails_0 : decode cX10_fails 0 = .ok (.aload_n 0, 1) := by decide +kernel
theorem dX10_fails_1 : decode cX10_fails 1 = .ok (.iload_n 1, 1) := by decide +kernel
theorem dX10_fails_2 : decode cX10_fails 2 = .ok (.putfield 177, 3) := by decide +kernel
theorem dX10_fails_5 : decode cX10_fails 5 = .ok (.iconst 0, 1) := by decide +kernel
theorem dX10_fails_6 : decode cX10_fails 6 = .ok (.ireturn, 1) := by decide +kernel
theorem dX10_in_0 : decode cX10_in 0 = .ok (.iload_n 0, 1) := by decide +kernel
theorem dX10_in_1 : decode cX10_in 1 = .ok (.iload_n 1, 1) := by decide +kernel
theorem dX10_in_2 : decode cX10_in 2 = .ok (.if_icmp .lt 12, 3) := by decide +kernel
theorem dX10_in_5 : decode cX10_in 5 = .ok (.iload_n 0, 1) := by decide +kernel
theorem dX10_in_6 : decode cX10_in 6 = .ok (.iload_n 2, 1) := by decide +kernel
theorem dX10_in_7 : decode cX10_in 7 = .ok (.if_icmp .gt 7, 3) := by decide +kernel
theorem dX10_in_10 : decode cX10_in 10 = .ok (.iconst 1, 1) := by decide +kernel
theorem dX10_in_11 : decode cX10_in 11 = .ok (.goto 4, 3) := by decide +kernel
theorem dX10_in_14 : decode cX10_in 14 = .ok (.iconst 0, 1) := by decide +kernel
theorem dX10_in_15 : decode cX10_in 15 = .ok (.ireturn, 1) := by decide +kernel
theorem dX10_isMaster_0 : decode cX10_isMaster 0 = .ok (.iload_n 0, 1) := by decide +kernel
theorem dX10_isMaster_1 : decode cX10_isMaster 1 = .ok (.iconst 0, 1) := by decide +kernel
theorem dX10_isMaster_2 : decode cX10_isMaster 2 = .ok (.iconst 3, 1) := by decide +kernel
theorem dX10_isMaster_3 : decode cX10_isMaster 3 = .ok (.invokestatic 180, 3) := by decide +kernel
theorem dX10_isMaster_6 : decode cX10_isMaster 6 = .ok (.ireturn, 1) := by decide +kernel
theorem dX10_isAttribute_0 : decode cX10_isAttribute 0 = .ok (.iload_n 1, 1) := by decide +kernel
theorem dX10_isAttribute_1 : decode cX10_isAttribute 1 = .ok (.iconst 0, 1) := by decide +kernel
theorem dX10_isAttribute_2 : decode cX10_isAttribute 2 = .ok (.aload_n 0, 1) := by decide +kernel
theorem dX10_isAttribute_3 : decode cX10_isAttribute 3 = .ok (.getfield 184, 3) := by decide +kernel
theorem dX10_isAttribute_6 : decode cX10_isAttribute 6 = .ok (.iconst 1, 1) := by decide +kernel
theorem dX10_isAttribute_7 : decode cX10_isAttribute 7 = .ok (.isub, 1) := by decide +kernel
theorem dX10_isAttribute_8 : decode cX10_isAttribute 8 = .ok (.invokestatic 180, 3) := by decide +kernel
theorem dX10_isAttribute_11 : decode cX10_isAttribute 11 = .ok (.ireturn, 1) := by decide +kernel
theorem dX10_isClass_0 : decode cX10_isClass 0 = .ok (.iload_n 1, 1) := by decide +kernel
theorem dX10_isClass_1 : decode cX10_isClass 1 = .ok (.iconst 0, 1) := by decide +kernel
theorem dX10_isClass_2 : decode cX10_isClass 2 = .ok (.aload_n 0, 1) := by decide +kernel
theorem dX10_isClass_3 : decode cX10_isClass 3 = .ok (.getfield 187, 3) := by decide +kernel
theorem dX10_isClass_6 : decode cX10_isClass 6 = .ok (.iconst 1, 1) := by decide +kernel
theorem dX10_isClass_7 : decode cX10_isClass 7 = .ok (.isub, 1) := by decide +kernel
theorem dX10_isClass_8 : decode cX10_isClass 8 = .ok (.invokestatic 180, 3) := by decide +kernel
theorem dX10_isClass_11 : decode cX10_isClass 11 = .ok (.ireturn, 1) := by decide +kernel
theorem dX10_isValue_0 : decode cX10_isValue 0 = .ok (.iload_n 0, 1) := by decide +kernel
theorem dX10_isValue_1 : decode cX10_isValue 1 = .ok (.iconst 0, 1) := by decide +kernel
theorem dX10_isValue_2 : decode cX10_isValue 2 = .ok (.sipush 999, 3) := by decide +kernel
theorem dX10_isValue_5 : decode cX10_isValue 5 = .ok (.invokestatic 180, 3) := by decide +kernel
theorem dX10_isValue_8 : decode cX10_isValue 8 = .ok (.ireturn, 1) := by decide +kernel
theorem dX10_key_0 : decode cX10_key 0 = .ok (.aload_n 0, 1) := by decide +kernel
theorem dX10_key_1 : decode cX10_key 1 = .ok (.getfield 13, 3) := by decide +kernel
theorem dX10_key_4 : decode cX10_key 4 = .ok (.iload_n 1, 1) := by decide +kernel
theorem dX10_key_5 : decode cX10_key 5 = .ok (.baload, 1) := by decide +kernel
theorem dX10_key_6 : decode cX10_key 6 = .ok (.ifCond .eq 10, 3) := by decide +kernel
theorem dX10_key_9 : decode cX10_key 9 = .ok (.iload_n 2, 1) := by decide +kernel
theorem dX10_key_10 : decode cX10_key 10 = .ok (.bipush 10, 2) := by decide +kernel
theorem dX10_key_12 : decode cX10_key 12 = .ok (.idiv, 1) := by decide +kernel
theorem dX10_key_13 : decode cX10_key 13 = .ok (.goto 4, 3) := by decide +kernel
theorem dX10_key_16 : decode cX10_key 16 = .ok (.iload_n 2, 1) := by decide +kernel
theorem dX10_key_17 : decode cX10_key 17 = .ok (.ireturn, 1) := by decide +kernel
theorem dX10_isKnown_0 : decode cX10_isKnown 0 = .ok (.aload_n 0, 1) := by decide +kernel
theorem dX10_isKnown_1 : decode cX10_isKnown 1 = .ok (.getfield 66, 3) := by decide +kernel
theorem dX10_isKnown_4 : decode cX10_isKnown 4 = .ok (.iload_n 2, 1) := by decide +kernel
theorem dX10_isKnown_5 : decode cX10_isKnown 5 = .ok (.iaload, 1) := by decide +kernel
theorem dX10_isKnown_6 : decode cX10_isKnown 6 = .ok (.aload_n 0, 1) := by decide +kernel
theorem dX10_isKnown_7 : decode cX10_isKnown 7 = .ok (.getfield 50, 3) := by decide +kernel
theorem dX10_isKnown_10 : decode cX10_isKnown 10 = .ok (.bipush 20, 2) := by decide +kernel
theorem dX10_isKnown_12 : decode cX10_isKnown 12 = .ok (.iload_n 1, 1) := by decide +kernel
theorem dX10_isKnown_13 : decode cX10_isKnown 13 = .ok (.imul, 1) := by decide +kernel
theorem dX10_isKnown_14 : decode cX10_isKnown 14 = .ok (.aload_n 0, 1) := by decide +kernel
theorem dX10_isKnown_15 : decode cX10_isKnown 15 = .ok (.getfield 63, 3) := by decide +kernel
theorem dX10_isKnown_18 : decode cX10_isKnown 18 = .ok (.iload_n 2, 1) := by decide +kernel
theorem dX10_isKnown_19 : decode cX10_isKnown 19 = .ok (.iaload, 1) := by decide +kernel
theorem dX10_isKnown_20 : decode cX10_isKnown 20 = .ok (.iadd, 1) := by decide +kernel
theorem dX10_isKnown_21 : decode cX10_isKnown 21 = .ok (.iaload, 1) := by decide +kernel
theorem dX10_isKnown_22 : decode cX10_isKnown 22 = .ok (.if_icmp .ge 7, 3) := by decide +kernel
theorem dX10_isKnown_25 : decode cX10_isKnown 25 = .ok (.iconst 1, 1) := by decide +kernel
theorem dX10_isKnown_26 : decode cX10_isKnown 26 = .ok (.goto 4, 3) := by decide +kernel
theorem dX10_isKnown_29 : decode cX10_isKnown 29 = .ok (.iconst 0, 1) := by decide +kernel
theorem dX10_isKnown_30 : decode cX10_isKnown 30 = .ok (.ireturn, 1) := by decide +kernel
theorem dX10_drops_0 : decode cX10_drops 0 = .ok (.iconst 0, 1) := by decide +kernel
theorem dX10_drops_1 : decode cX10_drops 1 = .ok (.istore 5, 2) := by decide +kernel
theorem dX10_drops_3 : decode cX10_drops 3 = .ok (.iconst 0, 1) := by decide +kernel
theorem dX10_drops_4 : decode cX10_drops 4 = .ok (.istore 6, 2) := by decide +kernel
theorem dX10_drops_6 : decode cX10_drops 6 = .ok (.iload 6, 2) := by decide +kernel
theorem dX10_drops_8 : decode cX10_drops 8 = .ok (.aload_n 0, 1) := by decide +kernel
theorem dX10_drops_9 : decode cX10_drops 9 = .ok (.getfield 190, 3) := by decide +kernel
theorem dX10_drops_12 : decode cX10_drops 12 = .ok (.if_icmp .ge 121, 3) := by decide +kernel
theorem dX10_drops_15 : decode cX10_drops 15 = .ok (.aload_n 0, 1) := by decide +kernel
theorem dX10_drops_16 : decode cX10_drops 16 = .ok (.getfield 129, 3) := by decide +kernel
theorem dX10_drops_19 : decode cX10_drops 19 = .ok (.iload 6, 2) := by decide +kernel
theorem dX10_drops_21 : decode cX10_drops 21 = .ok (.iaload, 1) := by decide +kernel
theorem dX10_drops_22 : decode cX10_drops 22 = .ok (.iload_n 1, 1) := by decide +kernel
theorem dX10_drops_23 : decode cX10_drops 23 = .ok (.if_icmp .ne 44, 3) := by decide +kernel
theorem dX10_drops_26 : decode cX10_drops 26 = .ok (.aload_n 0, 1) := by decide +kernel
theorem dX10_drops_27 : decode cX10_drops 27 = .ok (.getfield 132, 3) := by decide +kernel
theorem dX10_drops_30 : decode cX10_drops 30 = .ok (.iload 6, 2) := by decide +kernel
theorem dX10_drops_32 : decode cX10_drops 32 = .ok (.iaload, 1) := by decide +kernel
theorem dX10_drops_33 : decode cX10_drops 33 = .ok (.iload_n 2, 1) := by decide +kernel
theorem dX10_drops_34 : decode cX10_drops 34 = .ok (.if_icmp .ne 33, 3) := by decide +kernel
theorem dX10_drops_37 : decode cX10_drops 37 = .ok (.iload_n 3, 1) := by decide +kernel
theorem dX10_drops_38 : decode cX10_drops 38 = .ok (.ifCond .ne 25, 3) := by decide +kernel
theorem dX10_drops_41 : decode cX10_drops 41 = .ok (.aload_n 0, 1) := by decide +kernel
theorem dX10_drops_42 : decode cX10_drops 42 = .ok (.iload_n 2, 1) := by decide +kernel
theorem dX10_drops_43 : decode cX10_drops 43 = .ok (.aload_n 0, 1) := by decide +kernel
theorem dX10_drops_44 : decode cX10_drops 44 = .ok (.getfield 135, 3) := by decide +kernel
theorem dX10_drops_47 : decode cX10_drops 47 = .ok (.iload 6, 2) := by decide +kernel
theorem dX10_drops_49 : decode cX10_drops 49 = .ok (.iaload, 1) := by decide +kernel
theorem dX10_drops_50 : decode cX10_drops 50 = .ok (.invokevirtual 193, 3) := by decide +kernel
theorem dX10_drops_53 : decode cX10_drops 53 = .ok (.aload_n 0, 1) := by decide +kernel
theorem dX10_drops_54 : decode cX10_drops 54 = .ok (.iload_n 2, 1) := by decide +kernel
theorem dX10_drops_55 : decode cX10_drops 55 = .ok (.iload 4, 2) := by decide +kernel
theorem dX10_drops_57 : decode cX10_drops 57 = .ok (.invokevirtual 193, 3) := by decide +kernel
theorem dX10_drops_60 : decode cX10_drops 60 = .ok (.if_icmp .ne 7, 3) := by decide +kernel
theorem dX10_drops_63 : decode cX10_drops 63 = .ok (.iconst 1, 1) := by decide +kernel
theorem dX10_drops_64 : decode cX10_drops 64 = .ok (.goto 4, 3) := by decide +kernel
theorem dX10_drops_67 : decode cX10_drops 67 = .ok (.iconst 0, 1) := by decide +kernel
theorem dX10_drops_68 : decode cX10_drops 68 = .ok (.istore 7, 2) := by decide +kernel
theorem dX10_drops_70 : decode cX10_drops 70 = .ok (.aload_n 0, 1) := by decide +kernel
theorem dX10_drops_71 : decode cX10_drops 71 = .ok (.getfield 129, 3) := by decide +kernel
theorem dX10_drops_74 : decode cX10_drops 74 = .ok (.iload 5, 2) := by decide +kernel
theorem dX10_drops_76 : decode cX10_drops 76 = .ok (.aload_n 0, 1) := by decide +kernel
theorem dX10_drops_77 : decode cX10_drops 77 = .ok (.getfield 129, 3) := by decide +kernel
theorem dX10_drops_80 : decode cX10_drops 80 = .ok (.iload 6, 2) := by decide +kernel
theorem dX10_drops_82 : decode cX10_drops 82 = .ok (.iaload, 1) := by decide +kernel
theorem dX10_drops_83 : decode cX10_drops 83 = .ok (.iastore, 1) := by decide +kernel
theorem dX10_drops_84 : decode cX10_drops 84 = .ok (.aload_n 0, 1) := by decide +kernel
theorem dX10_drops_85 : decode cX10_drops 85 = .ok (.getfield 132, 3) := by decide +kernel
theorem dX10_drops_88 : decode cX10_drops 88 = .ok (.iload 5, 2) := by decide +kernel
theorem dX10_drops_90 : decode cX10_drops 90 = .ok (.aload_n 0, 1) := by decide +kernel
theorem dX10_drops_91 : decode cX10_drops 91 = .ok (.getfield 132, 3) := by decide +kernel
theorem dX10_drops_94 : decode cX10_drops 94 = .ok (.iload 6, 2) := by decide +kernel
theorem dX10_drops_96 : decode cX10_drops 96 = .ok (.iaload, 1) := by decide +kernel
theorem dX10_drops_97 : decode cX10_drops 97 = .ok (.iastore, 1) := by decide +kernel
theorem dX10_drops_98 : decode cX10_drops 98 = .ok (.aload_n 0, 1) := by decide +kernel
theorem dX10_drops_99 : decode cX10_drops 99 = .ok (.getfield 135, 3) := by decide +kernel
theorem dX10_drops_102 : decode cX10_drops 102 = .ok (.iload 5, 2) := by decide +kernel
theorem dX10_drops_104 : decode cX10_drops 104 = .ok (.aload_n 0, 1) := by decide +kernel
theorem dX10_drops_105 : decode cX10_drops 105 = .ok (.getfield 135, 3) := by decide +kernel
theorem dX10_drops_108 : decode cX10_drops 108 = .ok (.iload 6, 2) := by decide +kernel
theorem dX10_drops_110 : decode cX10_drops 110 = .ok (.iaload, 1) := by decide +kernel
theorem dX10_drops_111 : decode cX10_drops 111 = .ok (.iastore, 1) := by decide +kernel
theorem dX10_drops_112 : decode cX10_drops 112 = .ok (.iload 5, 2) := by decide +kernel
theorem dX10_drops_114 : decode cX10_drops 114 = .ok (.iload 7, 2) := by decide +kernel
theorem dX10_drops_116 : decode cX10_drops 116 = .ok (.ifCond .eq 7, 3) := by decide +kernel
theorem dX10_drops_119 : decode cX10_drops 119 = .ok (.iconst 0, 1) := by decide +kernel
theorem dX10_drops_120 : decode cX10_drops 120 = .ok (.goto 4, 3) := by decide +kernel
theorem dX10_drops_123 : decode cX10_drops 123 = .ok (.iconst 1, 1) := by decide +kernel
theorem dX10_drops_124 : decode cX10_drops 124 = .ok (.iadd, 1) := by decide +kernel
theorem dX10_drops_125 : decode cX10_drops 125 = .ok (.istore 5, 2) := by decide +kernel
theorem dX10_drops_127 : decode cX10_drops 127 = .ok (.iinc 6 1, 3) := by decide +kernel
theorem dX10_drops_130 : decode cX10_drops 130 = .ok (.goto (-124), 3) := by decide +kernel
theorem dX10_drops_133 : decode cX10_drops 133 = .ok (.aload_n 0, 1) := by decide +kernel
theorem dX10_drops_134 : decode cX10_drops 134 = .ok (.iload 5, 2) := by decide +kernel
theorem dX10_drops_136 : decode cX10_drops 136 = .ok (.putfield 190, 3) := by decide +kernel
theorem dX10_drops_139 : decode cX10_drops 139 = .ok (.return_, 1) := by decide +kernel
theorem dX10_comes_0 : decode cX10_comes 0 = .ok (.aload_n 0, 1) := by decide +kernel
theorem dX10_comes_1 : decode cX10_comes 1 = .ok (.getfield 129, 3) := by decide +kernel
theorem dX10_comes_4 : decode cX10_comes 4 = .ok (.aload_n 0, 1) := by decide +kernel
theorem dX10_comes_5 : decode cX10_comes 5 = .ok (.getfield 190, 3) := by decide +kernel
theorem dX10_comes_8 : decode cX10_comes 8 = .ok (.iload_n 1, 1) := by decide +kernel
theorem dX10_comes_9 : decode cX10_comes 9 = .ok (.iastore, 1) := by decide +kernel
theorem dX10_comes_10 : decode cX10_comes 10 = .ok (.aload_n 0, 1) := by decide +kernel
theorem dX10_comes_11 : decode cX10_comes 11 = .ok (.getfield 132, 3) := by decide +kernel
theorem dX10_comes_14 : decode cX10_comes 14 = .ok (.aload_n 0, 1) := by decide +kernel
theorem dX10_comes_15 : decode cX10_comes 15 = .ok (.getfield 190, 3) := by decide +kernel
theorem dX10_comes_18 : decode cX10_comes 18 = .ok (.iload_n 2, 1) := by decide +kernel
theorem dX10_comes_19 : decode cX10_comes 19 = .ok (.iastore, 1) := by decide +kernel
theorem dX10_comes_20 : decode cX10_comes 20 = .ok (.aload_n 0, 1) := by decide +kernel
theorem dX10_comes_21 : decode cX10_comes 21 = .ok (.getfield 135, 3) := by decide +kernel
theorem dX10_comes_24 : decode cX10_comes 24 = .ok (.aload_n 0, 1) := by decide +kernel
theorem dX10_comes_25 : decode cX10_comes 25 = .ok (.getfield 190, 3) := by decide +kernel
theorem dX10_comes_28 : decode cX10_comes 28 = .ok (.iload_n 3, 1) := by decide +kernel
theorem dX10_comes_29 : decode cX10_comes 29 = .ok (.iastore, 1) := by decide +kernel
theorem dX10_comes_30 : decode cX10_comes 30 = .ok (.aload_n 0, 1) := by decide +kernel
theorem dX10_comes_31 : decode cX10_comes 31 = .ok (.dup, 1) := by decide +kernel
theorem dX10_comes_32 : decode cX10_comes 32 = .ok (.getfield 190, 3) := by decide +kernel
theorem dX10_comes_35 : decode cX10_comes 35 = .ok (.iconst 1, 1) := by decide +kernel
theorem dX10_comes_36 : decode cX10_comes 36 = .ok (.iadd, 1) := by decide +kernel
theorem dX10_comes_37 : decode cX10_comes 37 = .ok (.putfield 190, 3) := by decide +kernel
theorem dX10_comes_40 : decode cX10_comes 40 = .ok (.return_, 1) := by decide +kernel
theorem dX10_takesValue_0 : decode cX10_takesValue 0 = .ok (.aload_n 0, 1) := by decide +kernel
theorem dX10_takesValue_1 : decode cX10_takesValue 1 = .ok (.iload_n 1, 1) := by decide +kernel
theorem dX10_takesValue_2 : decode cX10_takesValue 2 = .ok (.iload_n 2, 1) := by decide +kernel
theorem dX10_takesValue_3 : decode cX10_takesValue 3 = .ok (.aload_n 0, 1) := by decide +kernel
theorem dX10_takesValue_4 : decode cX10_takesValue 4 = .ok (.getfield 7, 3) := by decide +kernel
theorem dX10_takesValue_7 : decode cX10_takesValue 7 = .ok (.iload_n 2, 1) := by decide +kernel
theorem dX10_takesValue_8 : decode cX10_takesValue 8 = .ok (.baload, 1) := by decide +kernel
theorem dX10_takesValue_9 : decode cX10_takesValue 9 = .ok (.iload_n 3, 1) := by decide +kernel
theorem dX10_takesValue_10 : decode cX10_takesValue 10 = .ok (.invokevirtual 197, 3) := by decide +kernel
theorem dX10_takesValue_13 : decode cX10_takesValue 13 = .ok (.aload_n 0, 1) := by decide +kernel
theorem dX10_takesValue_14 : decode cX10_takesValue 14 = .ok (.iload_n 1, 1) := by decide +kernel
theorem dX10_takesValue_15 : decode cX10_takesValue 15 = .ok (.iload_n 2, 1) := by decide +kernel
theorem dX10_takesValue_16 : decode cX10_takesValue 16 = .ok (.iload_n 3, 1) := by decide +kernel
theorem dX10_takesValue_17 : decode cX10_takesValue 17 = .ok (.invokevirtual 201, 3) := by decide +kernel
theorem dX10_takesValue_20 : decode cX10_takesValue 20 = .ok (.return_, 1) := by decide +kernel
theorem dX10_isUp_0 : decode cX10_isUp 0 = .ok (.iload_n 2, 1) := by decide +kernel
theorem dX10_isUp_1 : decode cX10_isUp 1 = .ok (.istore_n 3, 1) := by decide +kernel
theorem dX10_isUp_2 : decode cX10_isUp 2 = .ok (.iload_n 3, 1) := by decide +kernel
theorem dX10_isUp_3 : decode cX10_isUp 3 = .ok (.iconst (-1), 1) := by decide +kernel
theorem dX10_isUp_4 : decode cX10_isUp 4 = .ok (.if_icmp .eq 18, 3) := by decide +kernel
theorem dX10_isUp_7 : decode cX10_isUp 7 = .ok (.iload_n 3, 1) := by decide +kernel
theorem dX10_isUp_8 : decode cX10_isUp 8 = .ok (.iload_n 1, 1) := by decide +kernel
theorem dX10_isUp_9 : decode cX10_isUp 9 = .ok (.if_icmp .eq 13, 3) := by decide +kernel
theorem dX10_isUp_12 : decode cX10_isUp 12 = .ok (.aload_n 0, 1) := by decide +kernel
theorem dX10_isUp_13 : decode cX10_isUp 13 = .ok (.getfield 111, 3) := by decide +kernel
theorem dX10_isUp_16 : decode cX10_isUp 16 = .ok (.iload_n 3, 1) := by decide +kernel
theorem dX10_isUp_17 : decode cX10_isUp 17 = .ok (.iaload, 1) := by decide +kernel
theorem dX10_isUp_18 : decode cX10_isUp 18 = .ok (.istore_n 3, 1) := by decide +kernel
theorem dX10_isUp_19 : decode cX10_isUp 19 = .ok (.goto (-17), 3) := by decide +kernel
theorem dX10_isUp_22 : decode cX10_isUp 22 = .ok (.iload_n 3, 1) := by decide +kernel
theorem dX10_isUp_23 : decode cX10_isUp 23 = .ok (.iload_n 1, 1) := by decide +kernel
theorem dX10_isUp_24 : decode cX10_isUp 24 = .ok (.if_icmp .ne 7, 3) := by decide +kernel
theorem dX10_isUp_27 : decode cX10_isUp 27 = .ok (.iconst 1, 1) := by decide +kernel
theorem dX10_isUp_28 : decode cX10_isUp 28 = .ok (.goto 4, 3) := by decide +kernel
theorem dX10_isUp_31 : decode cX10_isUp 31 = .ok (.iconst 0, 1) := by decide +kernel
theorem dX10_isUp_32 : decode cX10_isUp 32 = .ok (.ireturn, 1) := by decide +kernel
theorem dX10_does_0 : decode cX10_does 0 = .ok (.aload_n 0, 1) := by decide +kernel
theorem dX10_does_1 : decode cX10_does 1 = .ok (.getfield 72, 3) := by decide +kernel
theorem dX10_does_4 : decode cX10_does 4 = .ok (.iload_n 1, 1) := by decide +kernel
theorem dX10_does_5 : decode cX10_does 5 = .ok (.iaload, 1) := by decide +kernel
theorem dX10_does_6 : decode cX10_does 6 = .ok (.istore_n 3, 1) := by decide +kernel
theorem dX10_does_7 : decode cX10_does 7 = .ok (.aload_n 0, 1) := by decide +kernel
theorem dX10_does_8 : decode cX10_does 8 = .ok (.getfield 69, 3) := by decide +kernel
theorem dX10_does_11 : decode cX10_does 11 = .ok (.iload_n 1, 1) := by decide +kernel
theorem dX10_does_12 : decode cX10_does 12 = .ok (.iaload, 1) := by decide +kernel
theorem dX10_does_13 : decode cX10_does 13 = .ok (.ifCond .ne 100, 3) := by decide +kernel
theorem dX10_does_16 : decode cX10_does 16 = .ok (.aload_n 0, 1) := by decide +kernel
theorem dX10_does_17 : decode cX10_does 17 = .ok (.getfield 102, 3) := by decide +kernel
theorem dX10_does_20 : decode cX10_does 20 = .ok (.iload_n 3, 1) := by decide +kernel
theorem dX10_does_21 : decode cX10_does 21 = .ok (.iconst 1, 1) := by decide +kernel
theorem dX10_does_22 : decode cX10_does 22 = .ok (.bastore, 1) := by decide +kernel
theorem dX10_does_23 : decode cX10_does 23 = .ok (.aload_n 0, 1) := by decide +kernel
theorem dX10_does_24 : decode cX10_does 24 = .ok (.getfield 120, 3) := by decide +kernel
theorem dX10_does_27 : decode cX10_does 27 = .ok (.iload_n 3, 1) := by decide +kernel
theorem dX10_does_28 : decode cX10_does 28 = .ok (.iload_n 2, 1) := by decide +kernel
theorem dX10_does_29 : decode cX10_does 29 = .ok (.iastore, 1) := by decide +kernel
theorem dX10_does_30 : decode cX10_does 30 = .ok (.aload_n 0, 1) := by decide +kernel
theorem dX10_does_31 : decode cX10_does 31 = .ok (.getfield 108, 3) := by decide +kernel
theorem dX10_does_34 : decode cX10_does 34 = .ok (.iload_n 3, 1) := by decide +kernel
theorem dX10_does_35 : decode cX10_does 35 = .ok (.aload_n 0, 1) := by decide +kernel
theorem dX10_does_36 : decode cX10_does 36 = .ok (.getfield 75, 3) := by decide +kernel
theorem dX10_does_39 : decode cX10_does 39 = .ok (.iload_n 1, 1) := by decide +kernel
theorem dX10_does_40 : decode cX10_does 40 = .ok (.iaload, 1) := by decide +kernel
theorem dX10_does_41 : decode cX10_does 41 = .ok (.iastore, 1) := by decide +kernel
theorem dX10_does_42 : decode cX10_does 42 = .ok (.aload_n 0, 1) := by decide +kernel
theorem dX10_does_43 : decode cX10_does 43 = .ok (.getfield 111, 3) := by decide +kernel
theorem dX10_does_46 : decode cX10_does 46 = .ok (.iload_n 3, 1) := by decide +kernel
theorem dX10_does_47 : decode cX10_does 47 = .ok (.aload_n 0, 1) := by decide +kernel
theorem dX10_does_48 : decode cX10_does 48 = .ok (.getfield 78, 3) := by decide +kernel
theorem dX10_does_51 : decode cX10_does 51 = .ok (.iload_n 1, 1) := by decide +kernel
theorem dX10_does_52 : decode cX10_does 52 = .ok (.iaload, 1) := by decide +kernel
theorem dX10_does_53 : decode cX10_does 53 = .ok (.iastore, 1) := by decide +kernel
theorem dX10_does_54 : decode cX10_does 54 = .ok (.aload_n 0, 1) := by decide +kernel
theorem dX10_does_55 : decode cX10_does 55 = .ok (.getfield 114, 3) := by decide +kernel
theorem dX10_does_58 : decode cX10_does 58 = .ok (.iload_n 3, 1) := by decide +kernel
theorem dX10_does_59 : decode cX10_does 59 = .ok (.aload_n 0, 1) := by decide +kernel
theorem dX10_does_60 : decode cX10_does 60 = .ok (.getfield 81, 3) := by decide +kernel
theorem dX10_does_63 : decode cX10_does 63 = .ok (.iload_n 1, 1) := by decide +kernel
theorem dX10_does_64 : decode cX10_does 64 = .ok (.iaload, 1) := by decide +kernel
theorem dX10_does_65 : decode cX10_does 65 = .ok (.iastore, 1) := by decide +kernel
theorem dX10_does_66 : decode cX10_does 66 = .ok (.aload_n 0, 1) := by decide +kernel
theorem dX10_does_67 : decode cX10_does 67 = .ok (.getfield 84, 3) := by decide +kernel
theorem dX10_does_70 : decode cX10_does 70 = .ok (.iload_n 1, 1) := by decide +kernel
theorem dX10_does_71 : decode cX10_does 71 = .ok (.iaload, 1) := by decide +kernel
theorem dX10_does_72 : decode cX10_does 72 = .ok (.istore 4, 2) := by decide +kernel
theorem dX10_does_74 : decode cX10_does 74 = .ok (.iload 4, 2) := by decide +kernel
theorem dX10_does_76 : decode cX10_does 76 = .ok (.aload_n 0, 1) := by decide +kernel
theorem dX10_does_77 : decode cX10_does 77 = .ok (.getfield 87, 3) := by decide +kernel
theorem dX10_does_80 : decode cX10_does 80 = .ok (.iload_n 1, 1) := by decide +kernel
theorem dX10_does_81 : decode cX10_does 81 = .ok (.iaload, 1) := by decide +kernel
theorem dX10_does_82 : decode cX10_does 82 = .ok (.if_icmp .ge 28, 3) := by decide +kernel
theorem dX10_does_85 : decode cX10_does 85 = .ok (.aload_n 0, 1) := by decide +kernel
theorem dX10_does_86 : decode cX10_does 86 = .ok (.iload_n 3, 1) := by decide +kernel
theorem dX10_does_87 : decode cX10_does 87 = .ok (.aload_n 0, 1) := by decide +kernel
theorem dX10_does_88 : decode cX10_does 88 = .ok (.getfield 90, 3) := by decide +kernel
theorem dX10_does_91 : decode cX10_does 91 = .ok (.iload 4, 2) := by decide +kernel
theorem dX10_does_93 : decode cX10_does 93 = .ok (.iaload, 1) := by decide +kernel
theorem dX10_does_94 : decode cX10_does 94 = .ok (.aload_n 0, 1) := by decide +kernel
theorem dX10_does_95 : decode cX10_does 95 = .ok (.getfield 93, 3) := by decide +kernel
theorem dX10_does_98 : decode cX10_does 98 = .ok (.iload 4, 2) := by decide +kernel
theorem dX10_does_100 : decode cX10_does 100 = .ok (.iaload, 1) := by decide +kernel
theorem dX10_does_101 : decode cX10_does 101 = .ok (.invokevirtual 205, 3) := by decide +kernel
theorem dX10_does_104 : decode cX10_does 104 = .ok (.iinc 4 1, 3) := by decide +kernel
theorem dX10_does_107 : decode cX10_does 107 = .ok (.goto (-33), 3) := by decide +kernel
theorem dX10_does_110 : decode cX10_does 110 = .ok (.goto 255, 3) := by decide +kernel
theorem dX10_does_113 : decode cX10_does 113 = .ok (.aload_n 0, 1) := by decide +kernel
theorem dX10_does_114 : decode cX10_does 114 = .ok (.getfield 69, 3) := by decide +kernel
theorem dX10_does_117 : decode cX10_does 117 = .ok (.iload_n 1, 1) := by decide +kernel
theorem dX10_does_118 : decode cX10_does 118 = .ok (.iaload, 1) := by decide +kernel
theorem dX10_does_119 : decode cX10_does 119 = .ok (.iconst 1, 1) := by decide +kernel
theorem dX10_does_120 : decode cX10_does 120 = .ok (.if_icmp .ne 23, 3) := by decide +kernel
theorem dX10_does_123 : decode cX10_does 123 = .ok (.aload_n 0, 1) := by decide +kernel
theorem dX10_does_124 : decode cX10_does 124 = .ok (.iload_n 3, 1) := by decide +kernel
theorem dX10_does_125 : decode cX10_does 125 = .ok (.aload_n 0, 1) := by decide +kernel
theorem dX10_does_126 : decode cX10_does 126 = .ok (.getfield 75, 3) := by decide +kernel
theorem dX10_does_129 : decode cX10_does 129 = .ok (.iload_n 1, 1) := by decide +kernel
theorem dX10_does_130 : decode cX10_does 130 = .ok (.iaload, 1) := by decide +kernel
theorem dX10_does_131 : decode cX10_does 131 = .ok (.aload_n 0, 1) := by decide +kernel
theorem dX10_does_132 : decode cX10_does 132 = .ok (.getfield 78, 3) := by decide +kernel
theorem dX10_does_135 : decode cX10_does 135 = .ok (.iload_n 1, 1) := by decide +kernel
theorem dX10_does_136 : decode cX10_does 136 = .ok (.iaload, 1) := by decide +kernel
theorem dX10_does_137 : decode cX10_does 137 = .ok (.invokevirtual 205, 3) := by decide +kernel
theorem dX10_does_140 : decode cX10_does 140 = .ok (.goto 225, 3) := by decide +kernel
theorem dX10_does_143 : decode cX10_does 143 = .ok (.aload_n 0, 1) := by decide +kernel
theorem dX10_does_144 : decode cX10_does 144 = .ok (.getfield 69, 3) := by decide +kernel
theorem dX10_does_147 : decode cX10_does 147 = .ok (.iload_n 1, 1) := by decide +kernel
theorem dX10_does_148 : decode cX10_does 148 = .ok (.iaload, 1) := by decide +kernel
theorem dX10_does_149 : decode cX10_does 149 = .ok (.iconst 2, 1) := by decide +kernel
theorem dX10_does_150 : decode cX10_does 150 = .ok (.if_icmp .ne 24, 3) := by decide +kernel
theorem dX10_does_153 : decode cX10_does 153 = .ok (.aload_n 0, 1) := by decide +kernel
theorem dX10_does_154 : decode cX10_does 154 = .ok (.iload_n 3, 1) := by decide +kernel
theorem dX10_does_155 : decode cX10_does 155 = .ok (.aload_n 0, 1) := by decide +kernel
theorem dX10_does_156 : decode cX10_does 156 = .ok (.getfield 75, 3) := by decide +kernel
theorem dX10_does_159 : decode cX10_does 159 = .ok (.iload_n 1, 1) := by decide +kernel
theorem dX10_does_160 : decode cX10_does 160 = .ok (.iaload, 1) := by decide +kernel
theorem dX10_does_161 : decode cX10_does 161 = .ok (.iconst 0, 1) := by decide +kernel
theorem dX10_does_162 : decode cX10_does 162 = .ok (.aload_n 0, 1) := by decide +kernel
theorem dX10_does_163 : decode cX10_does 163 = .ok (.getfield 78, 3) := by decide +kernel
theorem dX10_does_166 : decode cX10_does 166 = .ok (.iload_n 1, 1) := by decide +kernel
theorem dX10_does_167 : decode cX10_does 167 = .ok (.iaload, 1) := by decide +kernel
theorem dX10_does_168 : decode cX10_does 168 = .ok (.invokevirtual 197, 3) := by decide +kernel
theorem dX10_does_171 : decode cX10_does 171 = .ok (.goto 194, 3) := by decide +kernel
theorem dX10_does_174 : decode cX10_does 174 = .ok (.aload_n 0, 1) := by decide +kernel
theorem dX10_does_175 : decode cX10_does 175 = .ok (.getfield 69, 3) := by decide +kernel
theorem dX10_does_178 : decode cX10_does 178 = .ok (.iload_n 1, 1) := by decide +kernel
theorem dX10_does_179 : decode cX10_does 179 = .ok (.iaload, 1) := by decide +kernel
theorem dX10_does_180 : decode cX10_does 180 = .ok (.iconst 3, 1) := by decide +kernel
theorem dX10_does_181 : decode cX10_does 181 = .ok (.if_icmp .ne 41, 3) := by decide +kernel
theorem dX10_does_184 : decode cX10_does 184 = .ok (.aload_n 0, 1) := by decide +kernel
theorem dX10_does_185 : decode cX10_does 185 = .ok (.iload_n 3, 1) := by decide +kernel
theorem dX10_does_186 : decode cX10_does 186 = .ok (.aload_n 0, 1) := by decide +kernel
theorem dX10_does_187 : decode cX10_does 187 = .ok (.getfield 75, 3) := by decide +kernel
theorem dX10_does_190 : decode cX10_does 190 = .ok (.iload_n 1, 1) := by decide +kernel
theorem dX10_does_191 : decode cX10_does 191 = .ok (.iaload, 1) := by decide +kernel
theorem dX10_does_192 : decode cX10_does 192 = .ok (.iconst 1, 1) := by decide +kernel
theorem dX10_does_193 : decode cX10_does 193 = .ok (.aload_n 0, 1) := by decide +kernel
theorem dX10_does_194 : decode cX10_does 194 = .ok (.getfield 78, 3) := by decide +kernel
theorem dX10_does_197 : decode cX10_does 197 = .ok (.iload_n 1, 1) := by decide +kernel
theorem dX10_does_198 : decode cX10_does 198 = .ok (.iaload, 1) := by decide +kernel
theorem dX10_does_199 : decode cX10_does 199 = .ok (.invokevirtual 197, 3) := by decide +kernel
theorem dX10_does_202 : decode cX10_does 202 = .ok (.aload_n 0, 1) := by decide +kernel
theorem dX10_does_203 : decode cX10_does 203 = .ok (.iload_n 3, 1) := by decide +kernel
theorem dX10_does_204 : decode cX10_does 204 = .ok (.aload_n 0, 1) := by decide +kernel
theorem dX10_does_205 : decode cX10_does 205 = .ok (.getfield 75, 3) := by decide +kernel
theorem dX10_does_208 : decode cX10_does 208 = .ok (.iload_n 1, 1) := by decide +kernel
theorem dX10_does_209 : decode cX10_does 209 = .ok (.iaload, 1) := by decide +kernel
theorem dX10_does_210 : decode cX10_does 210 = .ok (.aload_n 0, 1) := by decide +kernel
theorem dX10_does_211 : decode cX10_does 211 = .ok (.getfield 78, 3) := by decide +kernel
theorem dX10_does_214 : decode cX10_does 214 = .ok (.iload_n 1, 1) := by decide +kernel
theorem dX10_does_215 : decode cX10_does 215 = .ok (.iaload, 1) := by decide +kernel
theorem dX10_does_216 : decode cX10_does 216 = .ok (.invokevirtual 201, 3) := by decide +kernel
theorem dX10_does_219 : decode cX10_does 219 = .ok (.goto 146, 3) := by decide +kernel
theorem dX10_does_222 : decode cX10_does 222 = .ok (.aload_n 0, 1) := by decide +kernel
theorem dX10_does_223 : decode cX10_does 223 = .ok (.getfield 69, 3) := by decide +kernel
theorem dX10_does_226 : decode cX10_does 226 = .ok (.iload_n 1, 1) := by decide +kernel
theorem dX10_does_227 : decode cX10_does 227 = .ok (.iaload, 1) := by decide +kernel
theorem dX10_does_228 : decode cX10_does 228 = .ok (.iconst 4, 1) := by decide +kernel
theorem dX10_does_229 : decode cX10_does 229 = .ok (.if_icmp .ne 18, 3) := by decide +kernel
theorem dX10_does_232 : decode cX10_does 232 = .ok (.aload_n 0, 1) := by decide +kernel
theorem dX10_does_233 : decode cX10_does 233 = .ok (.getfield 114, 3) := by decide +kernel
theorem dX10_does_236 : decode cX10_does 236 = .ok (.iload_n 3, 1) := by decide +kernel
theorem dX10_does_237 : decode cX10_does 237 = .ok (.aload_n 0, 1) := by decide +kernel
theorem dX10_does_238 : decode cX10_does 238 = .ok (.getfield 75, 3) := by decide +kernel
theorem dX10_does_241 : decode cX10_does 241 = .ok (.iload_n 1, 1) := by decide +kernel
theorem dX10_does_242 : decode cX10_does 242 = .ok (.iaload, 1) := by decide +kernel
theorem dX10_does_243 : decode cX10_does 243 = .ok (.iastore, 1) := by decide +kernel
theorem dX10_does_244 : decode cX10_does 244 = .ok (.goto 121, 3) := by decide +kernel
theorem dX10_does_247 : decode cX10_does 247 = .ok (.aload_n 0, 1) := by decide +kernel
theorem dX10_does_248 : decode cX10_does 248 = .ok (.getfield 69, 3) := by decide +kernel
theorem dX10_does_251 : decode cX10_does 251 = .ok (.iload_n 1, 1) := by decide +kernel
theorem dX10_does_252 : decode cX10_does 252 = .ok (.iaload, 1) := by decide +kernel
theorem dX10_does_253 : decode cX10_does 253 = .ok (.iconst 5, 1) := by decide +kernel
theorem dX10_does_254 : decode cX10_does 254 = .ok (.if_icmp .ne 18, 3) := by decide +kernel
theorem dX10_does_257 : decode cX10_does 257 = .ok (.aload_n 0, 1) := by decide +kernel
theorem dX10_does_258 : decode cX10_does 258 = .ok (.getfield 117, 3) := by decide +kernel
theorem dX10_does_261 : decode cX10_does 261 = .ok (.iload_n 3, 1) := by decide +kernel
theorem dX10_does_262 : decode cX10_does 262 = .ok (.aload_n 0, 1) := by decide +kernel
theorem dX10_does_263 : decode cX10_does 263 = .ok (.getfield 75, 3) := by decide +kernel
theorem dX10_does_266 : decode cX10_does 266 = .ok (.iload_n 1, 1) := by decide +kernel
theorem dX10_does_267 : decode cX10_does 267 = .ok (.iaload, 1) := by decide +kernel
theorem dX10_does_268 : decode cX10_does 268 = .ok (.iastore, 1) := by decide +kernel
theorem dX10_does_269 : decode cX10_does 269 = .ok (.goto 96, 3) := by decide +kernel
theorem dX10_does_272 : decode cX10_does 272 = .ok (.aload_n 0, 1) := by decide +kernel
theorem dX10_does_273 : decode cX10_does 273 = .ok (.getfield 69, 3) := by decide +kernel
theorem dX10_does_276 : decode cX10_does 276 = .ok (.iload_n 1, 1) := by decide +kernel
theorem dX10_does_277 : decode cX10_does 277 = .ok (.iaload, 1) := by decide +kernel
theorem dX10_does_278 : decode cX10_does 278 = .ok (.bipush 6, 2) := by decide +kernel
theorem dX10_does_280 : decode cX10_does 280 = .ok (.if_icmp .ne 29, 3) := by decide +kernel
theorem dX10_does_283 : decode cX10_does 283 = .ok (.aload_n 0, 1) := by decide +kernel
theorem dX10_does_284 : decode cX10_does 284 = .ok (.getfield 138, 3) := by decide +kernel
theorem dX10_does_287 : decode cX10_does 287 = .ok (.sipush 330, 3) := by decide +kernel
theorem dX10_does_290 : decode cX10_does 290 = .ok (.iload_n 3, 1) := by decide +kernel
theorem dX10_does_291 : decode cX10_does 291 = .ok (.imul, 1) := by decide +kernel
theorem dX10_does_292 : decode cX10_does 292 = .ok (.aload_n 0, 1) := by decide +kernel
theorem dX10_does_293 : decode cX10_does 293 = .ok (.getfield 75, 3) := by decide +kernel
theorem dX10_does_296 : decode cX10_does 296 = .ok (.iload_n 1, 1) := by decide +kernel
theorem dX10_does_297 : decode cX10_does 297 = .ok (.iaload, 1) := by decide +kernel
theorem dX10_does_298 : decode cX10_does 298 = .ok (.iadd, 1) := by decide +kernel
theorem dX10_does_299 : decode cX10_does 299 = .ok (.aload_n 0, 1) := by decide +kernel
theorem dX10_does_300 : decode cX10_does 300 = .ok (.getfield 78, 3) := by decide +kernel
theorem dX10_does_303 : decode cX10_does 303 = .ok (.iload_n 1, 1) := by decide +kernel
theorem dX10_does_304 : decode cX10_does 304 = .ok (.iaload, 1) := by decide +kernel
theorem dX10_does_305 : decode cX10_does 305 = .ok (.iastore, 1) := by decide +kernel
theorem dX10_does_306 : decode cX10_does 306 = .ok (.goto 59, 3) := by decide +kernel
theorem dX10_does_309 : decode cX10_does 309 = .ok (.aload_n 0, 1) := by decide +kernel
theorem dX10_does_310 : decode cX10_does 310 = .ok (.getfield 69, 3) := by decide +kernel
theorem dX10_does_313 : decode cX10_does 313 = .ok (.iload_n 1, 1) := by decide +kernel
theorem dX10_does_314 : decode cX10_does 314 = .ok (.iaload, 1) := by decide +kernel
theorem dX10_does_315 : decode cX10_does 315 = .ok (.bipush 7, 2) := by decide +kernel
theorem dX10_does_317 : decode cX10_does 317 = .ok (.if_icmp .ne 41, 3) := by decide +kernel
theorem dX10_does_320 : decode cX10_does 320 = .ok (.aload_n 0, 1) := by decide +kernel
theorem dX10_does_321 : decode cX10_does 321 = .ok (.getfield 111, 3) := by decide +kernel
theorem dX10_does_324 : decode cX10_does 324 = .ok (.iload_n 3, 1) := by decide +kernel
theorem dX10_does_325 : decode cX10_does 325 = .ok (.aload_n 0, 1) := by decide +kernel
theorem dX10_does_326 : decode cX10_does 326 = .ok (.iload_n 3, 1) := by decide +kernel
theorem dX10_does_327 : decode cX10_does 327 = .ok (.aload_n 0, 1) := by decide +kernel
theorem dX10_does_328 : decode cX10_does 328 = .ok (.getfield 75, 3) := by decide +kernel
theorem dX10_does_331 : decode cX10_does 331 = .ok (.iload_n 1, 1) := by decide +kernel
theorem dX10_does_332 : decode cX10_does 332 = .ok (.iaload, 1) := by decide +kernel
theorem dX10_does_333 : decode cX10_does 333 = .ok (.invokevirtual 208, 3) := by decide +kernel
theorem dX10_does_336 : decode cX10_does 336 = .ok (.ifCond .eq 12, 3) := by decide +kernel
theorem dX10_does_339 : decode cX10_does 339 = .ok (.aload_n 0, 1) := by decide +kernel
theorem dX10_does_340 : decode cX10_does 340 = .ok (.getfield 111, 3) := by decide +kernel
theorem dX10_does_343 : decode cX10_does 343 = .ok (.iload_n 3, 1) := by decide +kernel
theorem dX10_does_344 : decode cX10_does 344 = .ok (.iaload, 1) := by decide +kernel
theorem dX10_does_345 : decode cX10_does 345 = .ok (.goto 9, 3) := by decide +kernel
theorem dX10_does_348 : decode cX10_does 348 = .ok (.aload_n 0, 1) := by decide +kernel
theorem dX10_does_349 : decode cX10_does 349 = .ok (.getfield 75, 3) := by decide +kernel
theorem dX10_does_352 : decode cX10_does 352 = .ok (.iload_n 1, 1) := by decide +kernel
theorem dX10_does_353 : decode cX10_does 353 = .ok (.iaload, 1) := by decide +kernel
theorem dX10_does_354 : decode cX10_does 354 = .ok (.iastore, 1) := by decide +kernel
theorem dX10_does_355 : decode cX10_does 355 = .ok (.goto 10, 3) := by decide +kernel
theorem dX10_does_358 : decode cX10_does 358 = .ok (.aload_n 0, 1) := by decide +kernel
theorem dX10_does_359 : decode cX10_does 359 = .ok (.getfield 105, 3) := by decide +kernel
theorem dX10_does_362 : decode cX10_does 362 = .ok (.iload_n 3, 1) := by decide +kernel
theorem dX10_does_363 : decode cX10_does 363 = .ok (.iconst 1, 1) := by decide +kernel
theorem dX10_does_364 : decode cX10_does 364 = .ok (.bastore, 1) := by decide +kernel
theorem dX10_does_365 : decode cX10_does 365 = .ok (.return_, 1) := by decide +kernel
theorem dX10_isLive_0 : decode cX10_isLive 0 = .ok (.iload_n 1, 1) := by decide +kernel
theorem dX10_isLive_1 : decode cX10_isLive 1 = .ok (.iconst 0, 1) := by decide +kernel
theorem dX10_isLive_2 : decode cX10_isLive 2 = .ok (.bipush 47, 2) := by decide +kernel
theorem dX10_isLive_4 : decode cX10_isLive 4 = .ok (.invokestatic 180, 3) := by decide +kernel
theorem dX10_isLive_7 : decode cX10_isLive 7 = .ok (.ifCond .eq 25, 3) := by decide +kernel
theorem dX10_isLive_10 : decode cX10_isLive 10 = .ok (.aload_n 0, 1) := by decide +kernel
theorem dX10_isLive_11 : decode cX10_isLive 11 = .ok (.getfield 102, 3) := by decide +kernel
theorem dX10_isLive_14 : decode cX10_isLive 14 = .ok (.iload_n 1, 1) := by decide +kernel
theorem dX10_isLive_15 : decode cX10_isLive 15 = .ok (.baload, 1) := by decide +kernel
theorem dX10_isLive_16 : decode cX10_isLive 16 = .ok (.ifCond .eq 16, 3) := by decide +kernel
theorem dX10_isLive_19 : decode cX10_isLive 19 = .ok (.aload_n 0, 1) := by decide +kernel
theorem dX10_isLive_20 : decode cX10_isLive 20 = .ok (.getfield 105, 3) := by decide +kernel
theorem dX10_isLive_23 : decode cX10_isLive 23 = .ok (.iload_n 1, 1) := by decide +kernel
theorem dX10_isLive_24 : decode cX10_isLive 24 = .ok (.baload, 1) := by decide +kernel
theorem dX10_isLive_25 : decode cX10_isLive 25 = .ok (.ifCond .ne 7, 3) := by decide +kernel
theorem dX10_isLive_28 : decode cX10_isLive 28 = .ok (.iconst 1, 1) := by decide +kernel
theorem dX10_isLive_29 : decode cX10_isLive 29 = .ok (.goto 4, 3) := by decide +kernel
theorem dX10_isLive_32 : decode cX10_isLive 32 = .ok (.iconst 0, 1) := by decide +kernel
theorem dX10_isLive_33 : decode cX10_isLive 33 = .ok (.ireturn, 1) := by decide +kernel
theorem dX10_lays_0 : decode cX10_lays 0 = .ok (.aload_n 0, 1) := by decide +kernel
theorem dX10_lays_1 : decode cX10_lays 1 = .ok (.getfield 99, 3) := by decide +kernel
theorem dX10_lays_4 : decode cX10_lays 4 = .ok (.iload_n 1, 1) := by decide +kernel
theorem dX10_lays_5 : decode cX10_lays 5 = .ok (.if_icmp .ne 4, 3) := by decide +kernel
theorem dX10_lays_8 : decode cX10_lays 8 = .ok (.return_, 1) := by decide +kernel
theorem dX10_lays_9 : decode cX10_lays 9 = .ok (.aload_n 0, 1) := by decide +kernel
theorem dX10_lays_10 : decode cX10_lays 10 = .ok (.iload_n 1, 1) := by decide +kernel
theorem dX10_lays_11 : decode cX10_lays 11 = .ok (.putfield 99, 3) := by decide +kernel
theorem dX10_lays_14 : decode cX10_lays 14 = .ok (.aload_n 0, 1) := by decide +kernel
theorem dX10_lays_15 : decode cX10_lays 15 = .ok (.iconst 0, 1) := by decide +kernel
theorem dX10_lays_16 : decode cX10_lays 16 = .ok (.putfield 190, 3) := by decide +kernel
theorem dX10_lays_19 : decode cX10_lays 19 = .ok (.iconst 0, 1) := by decide +kernel
theorem dX10_lays_20 : decode cX10_lays 20 = .ok (.istore_n 2, 1) := by decide +kernel
theorem dX10_lays_21 : decode cX10_lays 21 = .ok (.iload_n 2, 1) := by decide +kernel
theorem dX10_lays_22 : decode cX10_lays 22 = .ok (.bipush 48, 2) := by decide +kernel
theorem dX10_lays_24 : decode cX10_lays 24 = .ok (.if_icmp .ge 59, 3) := by decide +kernel
theorem dX10_lays_27 : decode cX10_lays 27 = .ok (.aload_n 0, 1) := by decide +kernel
theorem dX10_lays_28 : decode cX10_lays 28 = .ok (.getfield 102, 3) := by decide +kernel
theorem dX10_lays_31 : decode cX10_lays 31 = .ok (.iload_n 2, 1) := by decide +kernel
theorem dX10_lays_32 : decode cX10_lays 32 = .ok (.iload_n 2, 1) := by decide +kernel
theorem dX10_lays_33 : decode cX10_lays 33 = .ok (.ifCond .ne 7, 3) := by decide +kernel
theorem dX10_lays_36 : decode cX10_lays 36 = .ok (.iconst 1, 1) := by decide +kernel
theorem dX10_lays_37 : decode cX10_lays 37 = .ok (.goto 4, 3) := by decide +kernel
theorem dX10_lays_40 : decode cX10_lays 40 = .ok (.iconst 0, 1) := by decide +kernel
theorem dX10_lays_41 : decode cX10_lays 41 = .ok (.bastore, 1) := by decide +kernel
theorem dX10_lays_42 : decode cX10_lays 42 = .ok (.aload_n 0, 1) := by decide +kernel
theorem dX10_lays_43 : decode cX10_lays 43 = .ok (.getfield 105, 3) := by decide +kernel
theorem dX10_lays_46 : decode cX10_lays 46 = .ok (.iload_n 2, 1) := by decide +kernel
theorem dX10_lays_47 : decode cX10_lays 47 = .ok (.iconst 0, 1) := by decide +kernel
theorem dX10_lays_48 : decode cX10_lays 48 = .ok (.bastore, 1) := by decide +kernel
theorem dX10_lays_49 : decode cX10_lays 49 = .ok (.aload_n 0, 1) := by decide +kernel
theorem dX10_lays_50 : decode cX10_lays 50 = .ok (.getfield 108, 3) := by decide +kernel
theorem dX10_lays_53 : decode cX10_lays 53 = .ok (.iload_n 2, 1) := by decide +kernel
theorem dX10_lays_54 : decode cX10_lays 54 = .ok (.iconst (-1), 1) := by decide +kernel
theorem dX10_lays_55 : decode cX10_lays 55 = .ok (.iastore, 1) := by decide +kernel
theorem dX10_lays_56 : decode cX10_lays 56 = .ok (.aload_n 0, 1) := by decide +kernel
theorem dX10_lays_57 : decode cX10_lays 57 = .ok (.getfield 111, 3) := by decide +kernel
theorem dX10_lays_60 : decode cX10_lays 60 = .ok (.iload_n 2, 1) := by decide +kernel
theorem dX10_lays_61 : decode cX10_lays 61 = .ok (.iconst (-1), 1) := by decide +kernel
theorem dX10_lays_62 : decode cX10_lays 62 = .ok (.iastore, 1) := by decide +kernel
theorem dX10_lays_63 : decode cX10_lays 63 = .ok (.aload_n 0, 1) := by decide +kernel
theorem dX10_lays_64 : decode cX10_lays 64 = .ok (.getfield 114, 3) := by decide +kernel
theorem dX10_lays_67 : decode cX10_lays 67 = .ok (.iload_n 2, 1) := by decide +kernel
theorem dX10_lays_68 : decode cX10_lays 68 = .ok (.iconst 0, 1) := by decide +kernel
theorem dX10_lays_69 : decode cX10_lays 69 = .ok (.iastore, 1) := by decide +kernel
theorem dX10_lays_70 : decode cX10_lays 70 = .ok (.aload_n 0, 1) := by decide +kernel
theorem dX10_lays_71 : decode cX10_lays 71 = .ok (.getfield 117, 3) := by decide +kernel
theorem dX10_lays_74 : decode cX10_lays 74 = .ok (.iload_n 2, 1) := by decide +kernel
theorem dX10_lays_75 : decode cX10_lays 75 = .ok (.iconst (-1), 1) := by decide +kernel
theorem dX10_lays_76 : decode cX10_lays 76 = .ok (.iastore, 1) := by decide +kernel
theorem dX10_lays_77 : decode cX10_lays 77 = .ok (.iinc 2 1, 3) := by decide +kernel
theorem dX10_lays_80 : decode cX10_lays 80 = .ok (.goto (-59), 3) := by decide +kernel
theorem dX10_lays_83 : decode cX10_lays 83 = .ok (.iconst 0, 1) := by decide +kernel
theorem dX10_lays_84 : decode cX10_lays 84 = .ok (.istore_n 2, 1) := by decide +kernel
theorem dX10_lays_85 : decode cX10_lays 85 = .ok (.iload_n 2, 1) := by decide +kernel
theorem dX10_lays_86 : decode cX10_lays 86 = .ok (.sipush 15840, 3) := by decide +kernel
theorem dX10_lays_89 : decode cX10_lays 89 = .ok (.if_icmp .ge 16, 3) := by decide +kernel
theorem dX10_lays_92 : decode cX10_lays 92 = .ok (.aload_n 0, 1) := by decide +kernel
theorem dX10_lays_93 : decode cX10_lays 93 = .ok (.getfield 138, 3) := by decide +kernel
theorem dX10_lays_96 : decode cX10_lays 96 = .ok (.iload_n 2, 1) := by decide +kernel
theorem dX10_lays_97 : decode cX10_lays 97 = .ok (.iconst 0, 1) := by decide +kernel
theorem dX10_lays_98 : decode cX10_lays 98 = .ok (.iastore, 1) := by decide +kernel
theorem dX10_lays_99 : decode cX10_lays 99 = .ok (.iinc 2 1, 3) := by decide +kernel
theorem dX10_lays_102 : decode cX10_lays 102 = .ok (.goto (-17), 3) := by decide +kernel
theorem dX10_lays_105 : decode cX10_lays 105 = .ok (.iconst 0, 1) := by decide +kernel
theorem dX10_lays_106 : decode cX10_lays 106 = .ok (.istore_n 2, 1) := by decide +kernel
theorem dX10_lays_107 : decode cX10_lays 107 = .ok (.iload_n 2, 1) := by decide +kernel
theorem dX10_lays_108 : decode cX10_lays 108 = .ok (.aload_n 0, 1) := by decide +kernel
theorem dX10_lays_109 : decode cX10_lays 109 = .ok (.getfield 212, 3) := by decide +kernel
theorem dX10_lays_112 : decode cX10_lays 112 = .ok (.if_icmp .ge 34, 3) := by decide +kernel
theorem dX10_lays_115 : decode cX10_lays 115 = .ok (.aload_n 0, 1) := by decide +kernel
theorem dX10_lays_116 : decode cX10_lays 116 = .ok (.iload_n 1, 1) := by decide +kernel
theorem dX10_lays_117 : decode cX10_lays 117 = .ok (.aload_n 0, 1) := by decide +kernel
theorem dX10_lays_118 : decode cX10_lays 118 = .ok (.getfield 96, 3) := by decide +kernel
theorem dX10_lays_121 : decode cX10_lays 121 = .ok (.iload_n 2, 1) := by decide +kernel
theorem dX10_lays_122 : decode cX10_lays 122 = .ok (.iaload, 1) := by decide +kernel
theorem dX10_lays_123 : decode cX10_lays 123 = .ok (.invokevirtual 215, 3) := by decide +kernel
theorem dX10_lays_126 : decode cX10_lays 126 = .ok (.ifCond .eq 14, 3) := by decide +kernel
theorem dX10_lays_129 : decode cX10_lays 129 = .ok (.aload_n 0, 1) := by decide +kernel
theorem dX10_lays_130 : decode cX10_lays 130 = .ok (.aload_n 0, 1) := by decide +kernel
theorem dX10_lays_131 : decode cX10_lays 131 = .ok (.getfield 96, 3) := by decide +kernel
theorem dX10_lays_134 : decode cX10_lays 134 = .ok (.iload_n 2, 1) := by decide +kernel
theorem dX10_lays_135 : decode cX10_lays 135 = .ok (.iaload, 1) := by decide +kernel
theorem dX10_lays_136 : decode cX10_lays 136 = .ok (.iload_n 2, 1) := by decide +kernel
theorem dX10_lays_137 : decode cX10_lays 137 = .ok (.invokevirtual 218, 3) := by decide +kernel
theorem dX10_lays_140 : decode cX10_lays 140 = .ok (.iinc 2 1, 3) := by decide +kernel
theorem dX10_lays_143 : decode cX10_lays 143 = .ok (.goto (-36), 3) := by decide +kernel
theorem dX10_lays_146 : decode cX10_lays 146 = .ok (.iconst 0, 1) := by decide +kernel
theorem dX10_lays_147 : decode cX10_lays 147 = .ok (.istore_n 2, 1) := by decide +kernel
theorem dX10_lays_148 : decode cX10_lays 148 = .ok (.iload_n 2, 1) := by decide +kernel
theorem dX10_lays_149 : decode cX10_lays 149 = .ok (.bipush 48, 2) := by decide +kernel
theorem dX10_lays_151 : decode cX10_lays 151 = .ok (.if_icmp .ge 47, 3) := by decide +kernel
theorem dX10_lays_154 : decode cX10_lays 154 = .ok (.aload_n 0, 1) := by decide +kernel
theorem dX10_lays_155 : decode cX10_lays 155 = .ok (.getfield 123, 3) := by decide +kernel
theorem dX10_lays_158 : decode cX10_lays 158 = .ok (.iload_n 2, 1) := by decide +kernel
theorem dX10_lays_159 : decode cX10_lays 159 = .ok (.iload_n 2, 1) := by decide +kernel
theorem dX10_lays_160 : decode cX10_lays 160 = .ok (.ifCond .ne 7, 3) := by decide +kernel
theorem dX10_lays_163 : decode cX10_lays 163 = .ok (.iconst (-1), 1) := by decide +kernel
theorem dX10_lays_164 : decode cX10_lays 164 = .ok (.goto 27, 3) := by decide +kernel
theorem dX10_lays_167 : decode cX10_lays 167 = .ok (.aload_n 0, 1) := by decide +kernel
theorem dX10_lays_168 : decode cX10_lays 168 = .ok (.aload_n 0, 1) := by decide +kernel
theorem dX10_lays_169 : decode cX10_lays 169 = .ok (.getfield 111, 3) := by decide +kernel
theorem dX10_lays_172 : decode cX10_lays 172 = .ok (.iload_n 2, 1) := by decide +kernel
theorem dX10_lays_173 : decode cX10_lays 173 = .ok (.iaload, 1) := by decide +kernel
theorem dX10_lays_174 : decode cX10_lays 174 = .ok (.invokevirtual 222, 3) := by decide +kernel
theorem dX10_lays_177 : decode cX10_lays 177 = .ok (.ifCond .eq 12, 3) := by decide +kernel
theorem dX10_lays_180 : decode cX10_lays 180 = .ok (.aload_n 0, 1) := by decide +kernel
theorem dX10_lays_181 : decode cX10_lays 181 = .ok (.getfield 111, 3) := by decide +kernel
theorem dX10_lays_184 : decode cX10_lays 184 = .ok (.iload_n 2, 1) := by decide +kernel
theorem dX10_lays_185 : decode cX10_lays 185 = .ok (.iaload, 1) := by decide +kernel
theorem dX10_lays_186 : decode cX10_lays 186 = .ok (.goto 5, 3) := by decide +kernel
theorem dX10_lays_189 : decode cX10_lays 189 = .ok (.bipush (-2), 2) := by decide +kernel
theorem dX10_lays_191 : decode cX10_lays 191 = .ok (.iastore, 1) := by decide +kernel
theorem dX10_lays_192 : decode cX10_lays 192 = .ok (.iinc 2 1, 3) := by decide +kernel
theorem dX10_lays_195 : decode cX10_lays 195 = .ok (.goto (-47), 3) := by decide +kernel
theorem dX10_lays_198 : decode cX10_lays 198 = .ok (.iconst 0, 1) := by decide +kernel
theorem dX10_lays_199 : decode cX10_lays 199 = .ok (.istore_n 2, 1) := by decide +kernel
theorem dX10_lays_200 : decode cX10_lays 200 = .ok (.iload_n 2, 1) := by decide +kernel
theorem dX10_lays_201 : decode cX10_lays 201 = .ok (.bipush 48, 2) := by decide +kernel
theorem dX10_lays_203 : decode cX10_lays 203 = .ok (.if_icmp .ge 121, 3) := by decide +kernel
theorem dX10_lays_206 : decode cX10_lays 206 = .ok (.iconst 0, 1) := by decide +kernel
theorem dX10_lays_207 : decode cX10_lays 207 = .ok (.istore_n 3, 1) := by decide +kernel
theorem dX10_lays_208 : decode cX10_lays 208 = .ok (.iconst 1, 1) := by decide +kernel
theorem dX10_lays_209 : decode cX10_lays 209 = .ok (.istore 4, 2) := by decide +kernel
theorem dX10_lays_211 : decode cX10_lays 211 = .ok (.iload 4, 2) := by decide +kernel
theorem dX10_lays_213 : decode cX10_lays 213 = .ok (.bipush 48, 2) := by decide +kernel
theorem dX10_lays_215 : decode cX10_lays 215 = .ok (.if_icmp .ge 80, 3) := by decide +kernel
theorem dX10_lays_218 : decode cX10_lays 218 = .ok (.iload_n 2, 1) := by decide +kernel
theorem dX10_lays_219 : decode cX10_lays 219 = .ok (.ifCond .le 76, 3) := by decide +kernel
theorem dX10_lays_222 : decode cX10_lays 222 = .ok (.iload_n 3, 1) := by decide +kernel
theorem dX10_lays_223 : decode cX10_lays 223 = .ok (.ifCond .ne 60, 3) := by decide +kernel
theorem dX10_lays_226 : decode cX10_lays 226 = .ok (.aload_n 0, 1) := by decide +kernel
theorem dX10_lays_227 : decode cX10_lays 227 = .ok (.iload 4, 2) := by decide +kernel
theorem dX10_lays_229 : decode cX10_lays 229 = .ok (.invokevirtual 222, 3) := by decide +kernel
theorem dX10_lays_232 : decode cX10_lays 232 = .ok (.ifCond .eq 55, 3) := by decide +kernel
theorem dX10_lays_235 : decode cX10_lays 235 = .ok (.aload_n 0, 1) := by decide +kernel
theorem dX10_lays_236 : decode cX10_lays 236 = .ok (.getfield 123, 3) := by decide +kernel
theorem dX10_lays_239 : decode cX10_lays 239 = .ok (.iload 4, 2) := by decide +kernel
theorem dX10_lays_241 : decode cX10_lays 241 = .ok (.iaload, 1) := by decide +kernel
theorem dX10_lays_242 : decode cX10_lays 242 = .ok (.aload_n 0, 1) := by decide +kernel
theorem dX10_lays_243 : decode cX10_lays 243 = .ok (.getfield 123, 3) := by decide +kernel
theorem dX10_lays_246 : decode cX10_lays 246 = .ok (.iload_n 2, 1) := by decide +kernel
theorem dX10_lays_247 : decode cX10_lays 247 = .ok (.iaload, 1) := by decide +kernel
theorem dX10_lays_248 : decode cX10_lays 248 = .ok (.if_icmp .ne 39, 3) := by decide +kernel
theorem dX10_lays_251 : decode cX10_lays 251 = .ok (.aload_n 0, 1) := by decide +kernel
theorem dX10_lays_252 : decode cX10_lays 252 = .ok (.getfield 114, 3) := by decide +kernel
theorem dX10_lays_255 : decode cX10_lays 255 = .ok (.iload 4, 2) := by decide +kernel
theorem dX10_lays_257 : decode cX10_lays 257 = .ok (.iaload, 1) := by decide +kernel
theorem dX10_lays_258 : decode cX10_lays 258 = .ok (.aload_n 0, 1) := by decide +kernel
theorem dX10_lays_259 : decode cX10_lays 259 = .ok (.getfield 114, 3) := by decide +kernel
theorem dX10_lays_262 : decode cX10_lays 262 = .ok (.iload_n 2, 1) := by decide +kernel
theorem dX10_lays_263 : decode cX10_lays 263 = .ok (.iaload, 1) := by decide +kernel
theorem dX10_lays_264 : decode cX10_lays 264 = .ok (.if_icmp .ne 23, 3) := by decide +kernel
theorem dX10_lays_267 : decode cX10_lays 267 = .ok (.aload_n 0, 1) := by decide +kernel
theorem dX10_lays_268 : decode cX10_lays 268 = .ok (.getfield 120, 3) := by decide +kernel
theorem dX10_lays_271 : decode cX10_lays 271 = .ok (.iload 4, 2) := by decide +kernel
theorem dX10_lays_273 : decode cX10_lays 273 = .ok (.iaload, 1) := by decide +kernel
theorem dX10_lays_274 : decode cX10_lays 274 = .ok (.aload_n 0, 1) := by decide +kernel
theorem dX10_lays_275 : decode cX10_lays 275 = .ok (.getfield 120, 3) := by decide +kernel
theorem dX10_lays_278 : decode cX10_lays 278 = .ok (.iload_n 2, 1) := by decide +kernel
theorem dX10_lays_279 : decode cX10_lays 279 = .ok (.iaload, 1) := by decide +kernel
theorem dX10_lays_280 : decode cX10_lays 280 = .ok (.if_icmp .ge 7, 3) := by decide +kernel
theorem dX10_lays_283 : decode cX10_lays 283 = .ok (.iconst 1, 1) := by decide +kernel
theorem dX10_lays_284 : decode cX10_lays 284 = .ok (.goto 4, 3) := by decide +kernel
theorem dX10_lays_287 : decode cX10_lays 287 = .ok (.iconst 0, 1) := by decide +kernel
theorem dX10_lays_288 : decode cX10_lays 288 = .ok (.istore_n 3, 1) := by decide +kernel
theorem dX10_lays_289 : decode cX10_lays 289 = .ok (.iinc 4 1, 3) := by decide +kernel
theorem dX10_lays_292 : decode cX10_lays 292 = .ok (.goto (-81), 3) := by decide +kernel
theorem dX10_lays_295 : decode cX10_lays 295 = .ok (.aload_n 0, 1) := by decide +kernel
theorem dX10_lays_296 : decode cX10_lays 296 = .ok (.getfield 126, 3) := by decide +kernel
theorem dX10_lays_299 : decode cX10_lays 299 = .ok (.iload_n 2, 1) := by decide +kernel
theorem dX10_lays_300 : decode cX10_lays 300 = .ok (.iload_n 3, 1) := by decide +kernel
theorem dX10_lays_301 : decode cX10_lays 301 = .ok (.ifCond .eq 10, 3) := by decide +kernel
theorem dX10_lays_304 : decode cX10_lays 304 = .ok (.bipush 100, 2) := by decide +kernel
theorem dX10_lays_306 : decode cX10_lays 306 = .ok (.iload_n 2, 1) := by decide +kernel
theorem dX10_lays_307 : decode cX10_lays 307 = .ok (.iadd, 1) := by decide +kernel
theorem dX10_lays_308 : decode cX10_lays 308 = .ok (.goto 9, 3) := by decide +kernel
theorem dX10_lays_311 : decode cX10_lays 311 = .ok (.aload_n 0, 1) := by decide +kernel
theorem dX10_lays_312 : decode cX10_lays 312 = .ok (.getfield 114, 3) := by decide +kernel
theorem dX10_lays_315 : decode cX10_lays 315 = .ok (.iload_n 2, 1) := by decide +kernel
theorem dX10_lays_316 : decode cX10_lays 316 = .ok (.iaload, 1) := by decide +kernel
theorem dX10_lays_317 : decode cX10_lays 317 = .ok (.iastore, 1) := by decide +kernel
theorem dX10_lays_318 : decode cX10_lays 318 = .ok (.iinc 2 1, 3) := by decide +kernel
theorem dX10_lays_321 : decode cX10_lays 321 = .ok (.goto (-121), 3) := by decide +kernel
theorem dX10_lays_324 : decode cX10_lays 324 = .ok (.return_, 1) := by decide +kernel
theorem dX10_isAt_0 : decode cX10_isAt 0 = .ok (.iload_n 1, 1) := by decide +kernel
theorem dX10_isAt_1 : decode cX10_isAt 1 = .ok (.invokestatic 226, 3) := by decide +kernel
theorem dX10_isAt_4 : decode cX10_isAt 4 = .ok (.ifCond .ne 5, 3) := by decide +kernel
theorem dX10_isAt_7 : decode cX10_isAt 7 = .ok (.iconst 0, 1) := by decide +kernel
theorem dX10_isAt_8 : decode cX10_isAt 8 = .ok (.ireturn, 1) := by decide +kernel
theorem dX10_isAt_9 : decode cX10_isAt 9 = .ok (.aload_n 0, 1) := by decide +kernel
theorem dX10_isAt_10 : decode cX10_isAt 10 = .ok (.iload_n 1, 1) := by decide +kernel
theorem dX10_isAt_11 : decode cX10_isAt 11 = .ok (.invokevirtual 229, 3) := by decide +kernel
theorem dX10_isAt_14 : decode cX10_isAt 14 = .ok (.aload_n 0, 1) := by decide +kernel
theorem dX10_isAt_15 : decode cX10_isAt 15 = .ok (.iload_n 2, 1) := by decide +kernel
theorem dX10_isAt_16 : decode cX10_isAt 16 = .ok (.invokevirtual 222, 3) := by decide +kernel
theorem dX10_isAt_19 : decode cX10_isAt 19 = .ok (.ireturn, 1) := by decide +kernel
theorem dX10_countOf_0 : decode cX10_countOf 0 = .ok (.iconst 0, 1) := by decide +kernel
theorem dX10_countOf_1 : decode cX10_countOf 1 = .ok (.istore_n 3, 1) := by decide +kernel
theorem dX10_countOf_2 : decode cX10_countOf 2 = .ok (.iconst 0, 1) := by decide +kernel
theorem dX10_countOf_3 : decode cX10_countOf 3 = .ok (.istore 4, 2) := by decide +kernel
theorem dX10_countOf_5 : decode cX10_countOf 5 = .ok (.iload 4, 2) := by decide +kernel
theorem dX10_countOf_7 : decode cX10_countOf 7 = .ok (.aload_n 0, 1) := by decide +kernel
theorem dX10_countOf_8 : decode cX10_countOf 8 = .ok (.getfield 190, 3) := by decide +kernel
theorem dX10_countOf_11 : decode cX10_countOf 11 = .ok (.if_icmp .ge 39, 3) := by decide +kernel
theorem dX10_countOf_14 : decode cX10_countOf 14 = .ok (.iload_n 3, 1) := by decide +kernel
theorem dX10_countOf_15 : decode cX10_countOf 15 = .ok (.aload_n 0, 1) := by decide +kernel
theorem dX10_countOf_16 : decode cX10_countOf 16 = .ok (.getfield 129, 3) := by decide +kernel
theorem dX10_countOf_19 : decode cX10_countOf 19 = .ok (.iload 4, 2) := by decide +kernel
theorem dX10_countOf_21 : decode cX10_countOf 21 = .ok (.iaload, 1) := by decide +kernel
theorem dX10_countOf_22 : decode cX10_countOf 22 = .ok (.iload_n 1, 1) := by decide +kernel
theorem dX10_countOf_23 : decode cX10_countOf 23 = .ok (.if_icmp .ne 18, 3) := by decide +kernel
theorem dX10_countOf_26 : decode cX10_countOf 26 = .ok (.aload_n 0, 1) := by decide +kernel
theorem dX10_countOf_27 : decode cX10_countOf 27 = .ok (.getfield 132, 3) := by decide +kernel
theorem dX10_countOf_30 : decode cX10_countOf 30 = .ok (.iload 4, 2) := by decide +kernel
theorem dX10_countOf_32 : decode cX10_countOf 32 = .ok (.iaload, 1) := by decide +kernel
theorem dX10_countOf_33 : decode cX10_countOf 33 = .ok (.iload_n 2, 1) := by decide +kernel
theorem dX10_countOf_34 : decode cX10_countOf 34 = .ok (.if_icmp .ne 7, 3) := by decide +kernel
theorem dX10_countOf_37 : decode cX10_countOf 37 = .ok (.iconst 1, 1) := by decide +kernel
theorem dX10_countOf_38 : decode cX10_countOf 38 = .ok (.goto 4, 3) := by decide +kernel
theorem dX10_countOf_41 : decode cX10_countOf 41 = .ok (.iconst 0, 1) := by decide +kernel
theorem dX10_countOf_42 : decode cX10_countOf 42 = .ok (.iadd, 1) := by decide +kernel
theorem dX10_countOf_43 : decode cX10_countOf 43 = .ok (.istore_n 3, 1) := by decide +kernel
theorem dX10_countOf_44 : decode cX10_countOf 44 = .ok (.iinc 4 1, 3) := by decide +kernel
theorem dX10_countOf_47 : decode cX10_countOf 47 = .ok (.goto (-42), 3) := by decide +kernel
theorem dX10_countOf_50 : decode cX10_countOf 50 = .ok (.iload_n 3, 1) := by decide +kernel
theorem dX10_countOf_51 : decode cX10_countOf 51 = .ok (.ireturn, 1) := by decide +kernel
theorem dX10_hasMatch_0 : decode cX10_hasMatch 0 = .ok (.iconst 0, 1) := by decide +kernel
theorem dX10_hasMatch_1 : decode cX10_hasMatch 1 = .ok (.istore 4, 2) := by decide +kernel
theorem dX10_hasMatch_3 : decode cX10_hasMatch 3 = .ok (.iconst 0, 1) := by decide +kernel
theorem dX10_hasMatch_4 : decode cX10_hasMatch 4 = .ok (.istore 5, 2) := by decide +kernel
theorem dX10_hasMatch_6 : decode cX10_hasMatch 6 = .ok (.iload 5, 2) := by decide +kernel
theorem dX10_hasMatch_8 : decode cX10_hasMatch 8 = .ok (.aload_n 0, 1) := by decide +kernel
theorem dX10_hasMatch_9 : decode cX10_hasMatch 9 = .ok (.getfield 190, 3) := by decide +kernel
theorem dX10_hasMatch_12 : decode cX10_hasMatch 12 = .ok (.if_icmp .ge 64, 3) := by decide +kernel
theorem dX10_hasMatch_15 : decode cX10_hasMatch 15 = .ok (.iload 4, 2) := by decide +kernel
theorem dX10_hasMatch_17 : decode cX10_hasMatch 17 = .ok (.ifCond .ne 46, 3) := by decide +kernel
theorem dX10_hasMatch_20 : decode cX10_hasMatch 20 = .ok (.aload_n 0, 1) := by decide +kernel
theorem dX10_hasMatch_21 : decode cX10_hasMatch 21 = .ok (.getfield 129, 3) := by decide +kernel
theorem dX10_hasMatch_24 : decode cX10_hasMatch 24 = .ok (.iload 5, 2) := by decide +kernel
theorem dX10_hasMatch_26 : decode cX10_hasMatch 26 = .ok (.iaload, 1) := by decide +kernel
theorem dX10_hasMatch_27 : decode cX10_hasMatch 27 = .ok (.iload_n 1, 1) := by decide +kernel
theorem dX10_hasMatch_28 : decode cX10_hasMatch 28 = .ok (.if_icmp .ne 39, 3) := by decide +kernel
theorem dX10_hasMatch_31 : decode cX10_hasMatch 31 = .ok (.aload_n 0, 1) := by decide +kernel
theorem dX10_hasMatch_32 : decode cX10_hasMatch 32 = .ok (.getfield 132, 3) := by decide +kernel
theorem dX10_hasMatch_35 : decode cX10_hasMatch 35 = .ok (.iload 5, 2) := by decide +kernel
theorem dX10_hasMatch_37 : decode cX10_hasMatch 37 = .ok (.iaload, 1) := by decide +kernel
theorem dX10_hasMatch_38 : decode cX10_hasMatch 38 = .ok (.iload_n 2, 1) := by decide +kernel
theorem dX10_hasMatch_39 : decode cX10_hasMatch 39 = .ok (.if_icmp .ne 28, 3) := by decide +kernel
theorem dX10_hasMatch_42 : decode cX10_hasMatch 42 = .ok (.aload_n 0, 1) := by decide +kernel
theorem dX10_hasMatch_43 : decode cX10_hasMatch 43 = .ok (.iload_n 2, 1) := by decide +kernel
theorem dX10_hasMatch_44 : decode cX10_hasMatch 44 = .ok (.aload_n 0, 1) := by decide +kernel
theorem dX10_hasMatch_45 : decode cX10_hasMatch 45 = .ok (.getfield 135, 3) := by decide +kernel
theorem dX10_hasMatch_48 : decode cX10_hasMatch 48 = .ok (.iload 5, 2) := by decide +kernel
theorem dX10_hasMatch_50 : decode cX10_hasMatch 50 = .ok (.iaload, 1) := by decide +kernel
theorem dX10_hasMatch_51 : decode cX10_hasMatch 51 = .ok (.invokevirtual 193, 3) := by decide +kernel
theorem dX10_hasMatch_54 : decode cX10_hasMatch 54 = .ok (.aload_n 0, 1) := by decide +kernel
theorem dX10_hasMatch_55 : decode cX10_hasMatch 55 = .ok (.iload_n 2, 1) := by decide +kernel
theorem dX10_hasMatch_56 : decode cX10_hasMatch 56 = .ok (.iload_n 3, 1) := by decide +kernel
theorem dX10_hasMatch_57 : decode cX10_hasMatch 57 = .ok (.invokevirtual 193, 3) := by decide +kernel
theorem dX10_hasMatch_60 : decode cX10_hasMatch 60 = .ok (.if_icmp .ne 7, 3) := by decide +kernel
theorem dX10_hasMatch_63 : decode cX10_hasMatch 63 = .ok (.iconst 1, 1) := by decide +kernel
theorem dX10_hasMatch_64 : decode cX10_hasMatch 64 = .ok (.goto 4, 3) := by decide +kernel
theorem dX10_hasMatch_67 : decode cX10_hasMatch 67 = .ok (.iconst 0, 1) := by decide +kernel
theorem dX10_hasMatch_68 : decode cX10_hasMatch 68 = .ok (.istore 4, 2) := by decide +kernel
theorem dX10_hasMatch_70 : decode cX10_hasMatch 70 = .ok (.iinc 5 1, 3) := by decide +kernel
theorem dX10_hasMatch_73 : decode cX10_hasMatch 73 = .ok (.goto (-67), 3) := by decide +kernel
theorem dX10_hasMatch_76 : decode cX10_hasMatch 76 = .ok (.iload 4, 2) := by decide +kernel
theorem dX10_hasMatch_78 : decode cX10_hasMatch 78 = .ok (.ireturn, 1) := by decide +kernel
theorem dX10_isNamed_0 : decode cX10_isNamed 0 = .ok (.iconst 0, 1) := by decide +kernel
theorem dX10_isNamed_1 : decode cX10_isNamed 1 = .ok (.istore 4, 2) := by decide +kernel
theorem dX10_isNamed_3 : decode cX10_isNamed 3 = .ok (.iconst 1, 1) := by decide +kernel
theorem dX10_isNamed_4 : decode cX10_isNamed 4 = .ok (.istore 5, 2) := by decide +kernel
theorem dX10_isNamed_6 : decode cX10_isNamed 6 = .ok (.iload 5, 2) := by decide +kernel
theorem dX10_isNamed_8 : decode cX10_isNamed 8 = .ok (.bipush 48, 2) := by decide +kernel
theorem dX10_isNamed_10 : decode cX10_isNamed 10 = .ok (.if_icmp .ge 58, 3) := by decide +kernel
theorem dX10_isNamed_13 : decode cX10_isNamed 13 = .ok (.iload 4, 2) := by decide +kernel
theorem dX10_isNamed_15 : decode cX10_isNamed 15 = .ok (.ifCond .ne 40, 3) := by decide +kernel
theorem dX10_isNamed_18 : decode cX10_isNamed 18 = .ok (.aload_n 0, 1) := by decide +kernel
theorem dX10_isNamed_19 : decode cX10_isNamed 19 = .ok (.iload 5, 2) := by decide +kernel
theorem dX10_isNamed_21 : decode cX10_isNamed 21 = .ok (.invokevirtual 222, 3) := by decide +kernel
theorem dX10_isNamed_24 : decode cX10_isNamed 24 = .ok (.ifCond .eq 35, 3) := by decide +kernel
theorem dX10_isNamed_27 : decode cX10_isNamed 27 = .ok (.iload 5, 2) := by decide +kernel
theorem dX10_isNamed_29 : decode cX10_isNamed 29 = .ok (.iload_n 2, 1) := by decide +kernel
theorem dX10_isNamed_30 : decode cX10_isNamed 30 = .ok (.if_icmp .eq 29, 3) := by decide +kernel
theorem dX10_isNamed_33 : decode cX10_isNamed 33 = .ok (.aload_n 0, 1) := by decide +kernel
theorem dX10_isNamed_34 : decode cX10_isNamed 34 = .ok (.getfield 123, 3) := by decide +kernel
theorem dX10_isNamed_37 : decode cX10_isNamed 37 = .ok (.iload 5, 2) := by decide +kernel
theorem dX10_isNamed_39 : decode cX10_isNamed 39 = .ok (.iaload, 1) := by decide +kernel
theorem dX10_isNamed_40 : decode cX10_isNamed 40 = .ok (.iload_n 1, 1) := by decide +kernel
theorem dX10_isNamed_41 : decode cX10_isNamed 41 = .ok (.if_icmp .ne 18, 3) := by decide +kernel
theorem dX10_isNamed_44 : decode cX10_isNamed 44 = .ok (.aload_n 0, 1) := by decide +kernel
theorem dX10_isNamed_45 : decode cX10_isNamed 45 = .ok (.getfield 126, 3) := by decide +kernel
theorem dX10_isNamed_48 : decode cX10_isNamed 48 = .ok (.iload 5, 2) := by decide +kernel
theorem dX10_isNamed_50 : decode cX10_isNamed 50 = .ok (.iaload, 1) := by decide +kernel
theorem dX10_isNamed_51 : decode cX10_isNamed 51 = .ok (.iload_n 3, 1) := by decide +kernel
theorem dX10_isNamed_52 : decode cX10_isNamed 52 = .ok (.if_icmp .ne 7, 3) := by decide +kernel
theorem dX10_isNamed_55 : decode cX10_isNamed 55 = .ok (.iconst 1, 1) := by decide +kernel
theorem dX10_isNamed_56 : decode cX10_isNamed 56 = .ok (.goto 4, 3) := by decide +kernel
theorem dX10_isNamed_59 : decode cX10_isNamed 59 = .ok (.iconst 0, 1) := by decide +kernel
theorem dX10_isNamed_60 : decode cX10_isNamed 60 = .ok (.istore 4, 2) := by decide +kernel
theorem dX10_isNamed_62 : decode cX10_isNamed 62 = .ok (.iinc 5 1, 3) := by decide +kernel
theorem dX10_isNamed_65 : decode cX10_isNamed 65 = .ok (.goto (-59), 3) := by decide +kernel
theorem dX10_isNamed_68 : decode cX10_isNamed 68 = .ok (.iload 4, 2) := by decide +kernel
theorem dX10_isNamed_70 : decode cX10_isNamed 70 = .ok (.ireturn, 1) := by decide +kernel
theorem dX10_requiredBy_0 : decode cX10_requiredBy 0 = .ok (.iconst 0, 1) := by decide +kernel
theorem dX10_requiredBy_1 : decode cX10_requiredBy 1 = .ok (.istore_n 2, 1) := by decide +kernel
theorem dX10_requiredBy_2 : decode cX10_requiredBy 2 = .ok (.iload_n 1, 1) := by decide +kernel
theorem dX10_requiredBy_3 : decode cX10_requiredBy 3 = .ok (.istore_n 3, 1) := by decide +kernel
theorem dX10_requiredBy_4 : decode cX10_requiredBy 4 = .ok (.iload_n 3, 1) := by decide +kernel
theorem dX10_requiredBy_5 : decode cX10_requiredBy 5 = .ok (.iconst (-1), 1) := by decide +kernel
theorem dX10_requiredBy_6 : decode cX10_requiredBy 6 = .ok (.if_icmp .eq 22, 3) := by decide +kernel
theorem dX10_requiredBy_9 : decode cX10_requiredBy 9 = .ok (.iload_n 2, 1) := by decide +kernel
theorem dX10_requiredBy_10 : decode cX10_requiredBy 10 = .ok (.aload_n 0, 1) := by decide +kernel
theorem dX10_requiredBy_11 : decode cX10_requiredBy 11 = .ok (.getfield 20, 3) := by decide +kernel
theorem dX10_requiredBy_14 : decode cX10_requiredBy 14 = .ok (.iload_n 3, 1) := by decide +kernel
theorem dX10_requiredBy_15 : decode cX10_requiredBy 15 = .ok (.iaload, 1) := by decide +kernel
theorem dX10_requiredBy_16 : decode cX10_requiredBy 16 = .ok (.ior, 1) := by decide +kernel
theorem dX10_requiredBy_17 : decode cX10_requiredBy 17 = .ok (.istore_n 2, 1) := by decide +kernel
theorem dX10_requiredBy_18 : decode cX10_requiredBy 18 = .ok (.aload_n 0, 1) := by decide +kernel
theorem dX10_requiredBy_19 : decode cX10_requiredBy 19 = .ok (.getfield 16, 3) := by decide +kernel
theorem dX10_requiredBy_22 : decode cX10_requiredBy 22 = .ok (.iload_n 3, 1) := by decide +kernel
theorem dX10_requiredBy_23 : decode cX10_requiredBy 23 = .ok (.iaload, 1) := by decide +kernel
theorem dX10_requiredBy_24 : decode cX10_requiredBy 24 = .ok (.istore_n 3, 1) := by decide +kernel
theorem dX10_requiredBy_25 : decode cX10_requiredBy 25 = .ok (.goto (-21), 3) := by decide +kernel
theorem dX10_requiredBy_28 : decode cX10_requiredBy 28 = .ok (.iload_n 2, 1) := by decide +kernel
theorem dX10_requiredBy_29 : decode cX10_requiredBy 29 = .ok (.ireturn, 1) := by decide +kernel
theorem dX10_allowedBy_0 : decode cX10_allowedBy 0 = .ok (.iconst 0, 1) := by decide +kernel
theorem dX10_allowedBy_1 : decode cX10_allowedBy 1 = .ok (.istore_n 2, 1) := by decide +kernel
theorem dX10_allowedBy_2 : decode cX10_allowedBy 2 = .ok (.iload_n 1, 1) := by decide +kernel
theorem dX10_allowedBy_3 : decode cX10_allowedBy 3 = .ok (.istore_n 3, 1) := by decide +kernel
theorem dX10_allowedBy_4 : decode cX10_allowedBy 4 = .ok (.iload_n 3, 1) := by decide +kernel
theorem dX10_allowedBy_5 : decode cX10_allowedBy 5 = .ok (.iconst (-1), 1) := by decide +kernel
theorem dX10_allowedBy_6 : decode cX10_allowedBy 6 = .ok (.if_icmp .eq 29, 3) := by decide +kernel
theorem dX10_allowedBy_9 : decode cX10_allowedBy 9 = .ok (.iload_n 2, 1) := by decide +kernel
theorem dX10_allowedBy_10 : decode cX10_allowedBy 10 = .ok (.aload_n 0, 1) := by decide +kernel
theorem dX10_allowedBy_11 : decode cX10_allowedBy 11 = .ok (.getfield 20, 3) := by decide +kernel
theorem dX10_allowedBy_14 : decode cX10_allowedBy 14 = .ok (.iload_n 3, 1) := by decide +kernel
theorem dX10_allowedBy_15 : decode cX10_allowedBy 15 = .ok (.iaload, 1) := by decide +kernel
theorem dX10_allowedBy_16 : decode cX10_allowedBy 16 = .ok (.aload_n 0, 1) := by decide +kernel
theorem dX10_allowedBy_17 : decode cX10_allowedBy 17 = .ok (.getfield 23, 3) := by decide +kernel
theorem dX10_allowedBy_20 : decode cX10_allowedBy 20 = .ok (.iload_n 3, 1) := by decide +kernel
theorem dX10_allowedBy_21 : decode cX10_allowedBy 21 = .ok (.iaload, 1) := by decide +kernel
theorem dX10_allowedBy_22 : decode cX10_allowedBy 22 = .ok (.ior, 1) := by decide +kernel
theorem dX10_allowedBy_23 : decode cX10_allowedBy 23 = .ok (.ior, 1) := by decide +kernel
theorem dX10_allowedBy_24 : decode cX10_allowedBy 24 = .ok (.istore_n 2, 1) := by decide +kernel
theorem dX10_allowedBy_25 : decode cX10_allowedBy 25 = .ok (.aload_n 0, 1) := by decide +kernel
theorem dX10_allowedBy_26 : decode cX10_allowedBy 26 = .ok (.getfield 16, 3) := by decide +kernel
theorem dX10_allowedBy_29 : decode cX10_allowedBy 29 = .ok (.iload_n 3, 1) := by decide +kernel
theorem dX10_allowedBy_30 : decode cX10_allowedBy 30 = .ok (.iaload, 1) := by decide +kernel
theorem dX10_allowedBy_31 : decode cX10_allowedBy 31 = .ok (.istore_n 3, 1) := by decide +kernel
theorem dX10_allowedBy_32 : decode cX10_allowedBy 32 = .ok (.goto (-28), 3) := by decide +kernel
theorem dX10_allowedBy_35 : decode cX10_allowedBy 35 = .ok (.iload_n 2, 1) := by decide +kernel
theorem dX10_allowedBy_36 : decode cX10_allowedBy 36 = .ok (.ireturn, 1) := by decide +kernel
theorem dX10_applies_0 : decode cX10_applies 0 = .ok (.iload_n 2, 1) := by decide +kernel
theorem dX10_applies_1 : decode cX10_applies 1 = .ok (.bipush 6, 2) := by decide +kernel
theorem dX10_applies_3 : decode cX10_applies 3 = .ok (.if_icmp .lt 9, 3) := by decide +kernel
theorem dX10_applies_6 : decode cX10_applies 6 = .ok (.iload_n 2, 1) := by decide +kernel
theorem dX10_applies_7 : decode cX10_applies 7 = .ok (.bipush 54, 2) := by decide +kernel
theorem dX10_applies_9 : decode cX10_applies 9 = .ok (.if_icmp .ne 20, 3) := by decide +kernel
theorem dX10_applies_12 : decode cX10_applies 12 = .ok (.iload_n 2, 1) := by decide +kernel
theorem dX10_applies_13 : decode cX10_applies 13 = .ok (.iload_n 1, 1) := by decide +kernel
theorem dX10_applies_14 : decode cX10_applies 14 = .ok (.if_icmp .eq 9, 3) := by decide +kernel
theorem dX10_applies_17 : decode cX10_applies 17 = .ok (.iload_n 2, 1) := by decide +kernel
theorem dX10_applies_18 : decode cX10_applies 18 = .ok (.bipush 54, 2) := by decide +kernel
theorem dX10_applies_20 : decode cX10_applies 20 = .ok (.if_icmp .ne 7, 3) := by decide +kernel
theorem dX10_applies_23 : decode cX10_applies 23 = .ok (.iconst 1, 1) := by decide +kernel
theorem dX10_applies_24 : decode cX10_applies 24 = .ok (.goto 4, 3) := by decide +kernel
theorem dX10_applies_27 : decode cX10_applies 27 = .ok (.iconst 0, 1) := by decide +kernel
theorem dX10_applies_28 : decode cX10_applies 28 = .ok (.ireturn, 1) := by decide +kernel
theorem dX10_applies_29 : decode cX10_applies 29 = .ok (.aload_n 0, 1) := by decide +kernel
theorem dX10_applies_30 : decode cX10_applies 30 = .ok (.iload_n 2, 1) := by decide +kernel
theorem dX10_applies_31 : decode cX10_applies 31 = .ok (.bipush 6, 2) := by decide +kernel
theorem dX10_applies_33 : decode cX10_applies 33 = .ok (.isub, 1) := by decide +kernel
theorem dX10_applies_34 : decode cX10_applies 34 = .ok (.invokevirtual 222, 3) := by decide +kernel
theorem dX10_applies_37 : decode cX10_applies 37 = .ok (.ifCond .eq 27, 3) := by decide +kernel
theorem dX10_applies_40 : decode cX10_applies 40 = .ok (.aload_n 0, 1) := by decide +kernel
theorem dX10_applies_41 : decode cX10_applies 41 = .ok (.getfield 184, 3) := by decide +kernel
theorem dX10_applies_44 : decode cX10_applies 44 = .ok (.ifCond .le 20, 3) := by decide +kernel
theorem dX10_applies_47 : decode cX10_applies 47 = .ok (.aload_n 0, 1) := by decide +kernel
theorem dX10_applies_48 : decode cX10_applies 48 = .ok (.iload_n 2, 1) := by decide +kernel
theorem dX10_applies_49 : decode cX10_applies 49 = .ok (.bipush 6, 2) := by decide +kernel
theorem dX10_applies_51 : decode cX10_applies 51 = .ok (.isub, 1) := by decide +kernel
theorem dX10_applies_52 : decode cX10_applies 52 = .ok (.iconst 0, 1) := by decide +kernel
theorem dX10_applies_53 : decode cX10_applies 53 = .ok (.iload_n 1, 1) := by decide +kernel
theorem dX10_applies_54 : decode cX10_applies 54 = .ok (.invokevirtual 233, 3) := by decide +kernel
theorem dX10_applies_57 : decode cX10_applies 57 = .ok (.ifCond .eq 7, 3) := by decide +kernel
theorem dX10_applies_60 : decode cX10_applies 60 = .ok (.iconst 1, 1) := by decide +kernel
theorem dX10_applies_61 : decode cX10_applies 61 = .ok (.goto 4, 3) := by decide +kernel
theorem dX10_applies_64 : decode cX10_applies 64 = .ok (.iconst 0, 1) := by decide +kernel
theorem dX10_applies_65 : decode cX10_applies 65 = .ok (.ireturn, 1) := by decide +kernel
theorem dX10_decides_0 : decode cX10_decides 0 = .ok (.iconst 3, 1) := by decide +kernel
theorem dX10_decides_1 : decode cX10_decides 1 = .ok (.istore 5, 2) := by decide +kernel
theorem dX10_decides_3 : decode cX10_decides 3 = .ok (.iconst 0, 1) := by decide +kernel
theorem dX10_decides_4 : decode cX10_decides 4 = .ok (.istore 6, 2) := by decide +kernel
theorem dX10_decides_6 : decode cX10_decides 6 = .ok (.iconst 0, 1) := by decide +kernel
theorem dX10_decides_7 : decode cX10_decides 7 = .ok (.istore 7, 2) := by decide +kernel
theorem dX10_decides_9 : decode cX10_decides 9 = .ok (.iload 7, 2) := by decide +kernel
theorem dX10_decides_11 : decode cX10_decides 11 = .ok (.bipush 54, 2) := by decide +kernel
theorem dX10_decides_13 : decode cX10_decides 13 = .ok (.if_icmp .gt 145, 3) := by decide +kernel
theorem dX10_decides_16 : decode cX10_decides 16 = .ok (.iload 7, 2) := by decide +kernel
theorem dX10_decides_18 : decode cX10_decides 18 = .ok (.bipush 6, 2) := by decide +kernel
theorem dX10_decides_20 : decode cX10_decides 20 = .ok (.if_icmp .ge 7, 3) := by decide +kernel
theorem dX10_decides_23 : decode cX10_decides 23 = .ok (.iconst 0, 1) := by decide +kernel
theorem dX10_decides_24 : decode cX10_decides 24 = .ok (.goto 15, 3) := by decide +kernel
theorem dX10_decides_27 : decode cX10_decides 27 = .ok (.iload 7, 2) := by decide +kernel
theorem dX10_decides_29 : decode cX10_decides 29 = .ok (.bipush 54, 2) := by decide +kernel
theorem dX10_decides_31 : decode cX10_decides 31 = .ok (.if_icmp .ge 7, 3) := by decide +kernel
theorem dX10_decides_34 : decode cX10_decides 34 = .ok (.iconst 1, 1) := by decide +kernel
theorem dX10_decides_35 : decode cX10_decides 35 = .ok (.goto 4, 3) := by decide +kernel
theorem dX10_decides_38 : decode cX10_decides 38 = .ok (.iconst 2, 1) := by decide +kernel
theorem dX10_decides_39 : decode cX10_decides 39 = .ok (.istore 8, 2) := by decide +kernel
theorem dX10_decides_41 : decode cX10_decides 41 = .ok (.sipush 330, 3) := by decide +kernel
theorem dX10_decides_44 : decode cX10_decides 44 = .ok (.iload_n 2, 1) := by decide +kernel
theorem dX10_decides_45 : decode cX10_decides 45 = .ok (.imul, 1) := by decide +kernel
theorem dX10_decides_46 : decode cX10_decides 46 = .ok (.bipush 6, 2) := by decide +kernel
theorem dX10_decides_48 : decode cX10_decides 48 = .ok (.iload 7, 2) := by decide +kernel
theorem dX10_decides_50 : decode cX10_decides 50 = .ok (.imul, 1) := by decide +kernel
theorem dX10_decides_51 : decode cX10_decides 51 = .ok (.iadd, 1) := by decide +kernel
theorem dX10_decides_52 : decode cX10_decides 52 = .ok (.iload 4, 2) := by decide +kernel
theorem dX10_decides_54 : decode cX10_decides 54 = .ok (.iadd, 1) := by decide +kernel
theorem dX10_decides_55 : decode cX10_decides 55 = .ok (.istore 9, 2) := by decide +kernel
theorem dX10_decides_57 : decode cX10_decides 57 = .ok (.iload_n 3, 1) := by decide +kernel
theorem dX10_decides_58 : decode cX10_decides 58 = .ok (.iconst 1, 1) := by decide +kernel
theorem dX10_decides_59 : decode cX10_decides 59 = .ok (.if_icmp .le 7, 3) := by decide +kernel
theorem dX10_decides_62 : decode cX10_decides 62 = .ok (.iconst 0, 1) := by decide +kernel
theorem dX10_decides_63 : decode cX10_decides 63 = .ok (.goto 14, 3) := by decide +kernel
theorem dX10_decides_66 : decode cX10_decides 66 = .ok (.aload_n 0, 1) := by decide +kernel
theorem dX10_decides_67 : decode cX10_decides 67 = .ok (.getfield 138, 3) := by decide +kernel
theorem dX10_decides_70 : decode cX10_decides 70 = .ok (.iload 9, 2) := by decide +kernel
theorem dX10_decides_72 : decode cX10_decides 72 = .ok (.iconst 2, 1) := by decide +kernel
theorem dX10_decides_73 : decode cX10_decides 73 = .ok (.iload_n 3, 1) := by decide +kernel
theorem dX10_decides_74 : decode cX10_decides 74 = .ok (.imul, 1) := by decide +kernel
theorem dX10_decides_75 : decode cX10_decides 75 = .ok (.iadd, 1) := by decide +kernel
theorem dX10_decides_76 : decode cX10_decides 76 = .ok (.iaload, 1) := by decide +kernel
theorem dX10_decides_77 : decode cX10_decides 77 = .ok (.istore 10, 2) := by decide +kernel
theorem dX10_decides_79 : decode cX10_decides 79 = .ok (.aload_n 0, 1) := by decide +kernel
theorem dX10_decides_80 : decode cX10_decides 80 = .ok (.getfield 138, 3) := by decide +kernel
theorem dX10_decides_83 : decode cX10_decides 83 = .ok (.iload 9, 2) := by decide +kernel
theorem dX10_decides_85 : decode cX10_decides 85 = .ok (.iconst 4, 1) := by decide +kernel
theorem dX10_decides_86 : decode cX10_decides 86 = .ok (.iadd, 1) := by decide +kernel
theorem dX10_decides_87 : decode cX10_decides 87 = .ok (.iaload, 1) := by decide +kernel
theorem dX10_decides_88 : decode cX10_decides 88 = .ok (.istore 11, 2) := by decide +kernel
theorem dX10_decides_90 : decode cX10_decides 90 = .ok (.iload 10, 2) := by decide +kernel
theorem dX10_decides_92 : decode cX10_decides 92 = .ok (.ifCond .gt 8, 3) := by decide +kernel
theorem dX10_decides_95 : decode cX10_decides 95 = .ok (.iload 11, 2) := by decide +kernel
theorem dX10_decides_97 : decode cX10_decides 97 = .ok (.ifCond .le 55, 3) := by decide +kernel
theorem dX10_decides_100 : decode cX10_decides 100 = .ok (.aload_n 0, 1) := by decide +kernel
theorem dX10_decides_101 : decode cX10_decides 101 = .ok (.iload_n 1, 1) := by decide +kernel
theorem dX10_decides_102 : decode cX10_decides 102 = .ok (.iload 7, 2) := by decide +kernel
theorem dX10_decides_104 : decode cX10_decides 104 = .ok (.invokevirtual 236, 3) := by decide +kernel
theorem dX10_decides_107 : decode cX10_decides 107 = .ok (.ifCond .eq 45, 3) := by decide +kernel
theorem dX10_decides_110 : decode cX10_decides 110 = .ok (.iload 8, 2) := by decide +kernel
theorem dX10_decides_112 : decode cX10_decides 112 = .ok (.iload 5, 2) := by decide +kernel
theorem dX10_decides_114 : decode cX10_decides 114 = .ok (.if_icmp .gt 38, 3) := by decide +kernel
theorem dX10_decides_117 : decode cX10_decides 117 = .ok (.iload 8, 2) := by decide +kernel
theorem dX10_decides_119 : decode cX10_decides 119 = .ok (.iload 5, 2) := by decide +kernel
theorem dX10_decides_121 : decode cX10_decides 121 = .ok (.if_icmp .ne 8, 3) := by decide +kernel
theorem dX10_decides_124 : decode cX10_decides 124 = .ok (.iload 6, 2) := by decide +kernel
theorem dX10_decides_126 : decode cX10_decides 126 = .ok (.ifCond .ne 15, 3) := by decide +kernel
theorem dX10_decides_129 : decode cX10_decides 129 = .ok (.iload 10, 2) := by decide +kernel
theorem dX10_decides_131 : decode cX10_decides 131 = .ok (.iconst 2, 1) := by decide +kernel
theorem dX10_decides_132 : decode cX10_decides 132 = .ok (.if_icmp .eq 9, 3) := by decide +kernel
theorem dX10_decides_135 : decode cX10_decides 135 = .ok (.iload 11, 2) := by decide +kernel
theorem dX10_decides_137 : decode cX10_decides 137 = .ok (.iconst 2, 1) := by decide +kernel
theorem dX10_decides_138 : decode cX10_decides 138 = .ok (.if_icmp .ne 7, 3) := by decide +kernel
theorem dX10_decides_141 : decode cX10_decides 141 = .ok (.iconst 1, 1) := by decide +kernel
theorem dX10_decides_142 : decode cX10_decides 142 = .ok (.goto 4, 3) := by decide +kernel
theorem dX10_decides_145 : decode cX10_decides 145 = .ok (.iconst 0, 1) := by decide +kernel
theorem dX10_decides_146 : decode cX10_decides 146 = .ok (.istore 6, 2) := by decide +kernel
theorem dX10_decides_148 : decode cX10_decides 148 = .ok (.iload 8, 2) := by decide +kernel
theorem dX10_decides_150 : decode cX10_decides 150 = .ok (.istore 5, 2) := by decide +kernel
theorem dX10_decides_152 : decode cX10_decides 152 = .ok (.iinc 7 1, 3) := by decide +kernel
theorem dX10_decides_155 : decode cX10_decides 155 = .ok (.goto (-146), 3) := by decide +kernel
theorem dX10_decides_158 : decode cX10_decides 158 = .ok (.iload 5, 2) := by decide +kernel
theorem dX10_decides_160 : decode cX10_decides 160 = .ok (.iconst 3, 1) := by decide +kernel
theorem dX10_decides_161 : decode cX10_decides 161 = .ok (.if_icmp .ne 7, 3) := by decide +kernel
theorem dX10_decides_164 : decode cX10_decides 164 = .ok (.iconst 0, 1) := by decide +kernel
theorem dX10_decides_165 : decode cX10_decides 165 = .ok (.goto 13, 3) := by decide +kernel
theorem dX10_decides_168 : decode cX10_decides 168 = .ok (.iload 6, 2) := by decide +kernel
theorem dX10_decides_170 : decode cX10_decides 170 = .ok (.ifCond .eq 7, 3) := by decide +kernel
theorem dX10_decides_173 : decode cX10_decides 173 = .ok (.iconst 2, 1) := by decide +kernel
theorem dX10_decides_174 : decode cX10_decides 174 = .ok (.goto 4, 3) := by decide +kernel
theorem dX10_decides_177 : decode cX10_decides 177 = .ok (.iconst 1, 1) := by decide +kernel
theorem dX10_decides_178 : decode cX10_decides 178 = .ok (.ireturn, 1) := by decide +kernel
theorem dX10_mayDo_0 : decode cX10_mayDo 0 = .ok (.iconst 0, 1) := by decide +kernel
theorem dX10_mayDo_1 : decode cX10_mayDo 1 = .ok (.istore 4, 2) := by decide +kernel
theorem dX10_mayDo_3 : decode cX10_mayDo 3 = .ok (.iconst 0, 1) := by decide +kernel
theorem dX10_mayDo_4 : decode cX10_mayDo 4 = .ok (.istore 5, 2) := by decide +kernel
theorem dX10_mayDo_6 : decode cX10_mayDo 6 = .ok (.iload_n 2, 1) := by decide +kernel
theorem dX10_mayDo_7 : decode cX10_mayDo 7 = .ok (.istore 6, 2) := by decide +kernel
theorem dX10_mayDo_9 : decode cX10_mayDo 9 = .ok (.iload 6, 2) := by decide +kernel
theorem dX10_mayDo_11 : decode cX10_mayDo 11 = .ok (.ifCond .lt 39, 3) := by decide +kernel
theorem dX10_mayDo_14 : decode cX10_mayDo 14 = .ok (.iload 4, 2) := by decide +kernel
theorem dX10_mayDo_16 : decode cX10_mayDo 16 = .ok (.ifCond .ne 34, 3) := by decide +kernel
theorem dX10_mayDo_19 : decode cX10_mayDo 19 = .ok (.iload_n 1, 1) := by decide +kernel
theorem dX10_mayDo_20 : decode cX10_mayDo 20 = .ok (.ifCond .le 30, 3) := by decide +kernel
theorem dX10_mayDo_23 : decode cX10_mayDo 23 = .ok (.aload_n 0, 1) := by decide +kernel
theorem dX10_mayDo_24 : decode cX10_mayDo 24 = .ok (.iload_n 1, 1) := by decide +kernel
theorem dX10_mayDo_25 : decode cX10_mayDo 25 = .ok (.iload 6, 2) := by decide +kernel
theorem dX10_mayDo_27 : decode cX10_mayDo 27 = .ok (.iload 5, 2) := by decide +kernel
theorem dX10_mayDo_29 : decode cX10_mayDo 29 = .ok (.iload_n 3, 1) := by decide +kernel
theorem dX10_mayDo_30 : decode cX10_mayDo 30 = .ok (.invokevirtual 239, 3) := by decide +kernel
theorem dX10_mayDo_33 : decode cX10_mayDo 33 = .ok (.istore 4, 2) := by decide +kernel
theorem dX10_mayDo_35 : decode cX10_mayDo 35 = .ok (.iinc 5 1, 3) := by decide +kernel
theorem dX10_mayDo_38 : decode cX10_mayDo 38 = .ok (.aload_n 0, 1) := by decide +kernel
theorem dX10_mayDo_39 : decode cX10_mayDo 39 = .ok (.getfield 123, 3) := by decide +kernel
theorem dX10_mayDo_42 : decode cX10_mayDo 42 = .ok (.iload 6, 2) := by decide +kernel
theorem dX10_mayDo_44 : decode cX10_mayDo 44 = .ok (.iaload, 1) := by decide +kernel
theorem dX10_mayDo_45 : decode cX10_mayDo 45 = .ok (.istore 6, 2) := by decide +kernel
theorem dX10_mayDo_47 : decode cX10_mayDo 47 = .ok (.goto (-38), 3) := by decide +kernel
theorem dX10_mayDo_50 : decode cX10_mayDo 50 = .ok (.iload_n 1, 1) := by decide +kernel
theorem dX10_mayDo_51 : decode cX10_mayDo 51 = .ok (.ifCond .eq 21, 3) := by decide +kernel
theorem dX10_mayDo_54 : decode cX10_mayDo 54 = .ok (.iload 4, 2) := by decide +kernel
theorem dX10_mayDo_56 : decode cX10_mayDo 56 = .ok (.ifCond .ne 10, 3) := by decide +kernel
theorem dX10_mayDo_59 : decode cX10_mayDo 59 = .ok (.iload_n 3, 1) := by decide +kernel
theorem dX10_mayDo_60 : decode cX10_mayDo 60 = .ok (.ifCond .ne 16, 3) := by decide +kernel
theorem dX10_mayDo_63 : decode cX10_mayDo 63 = .ok (.goto 9, 3) := by decide +kernel
theorem dX10_mayDo_66 : decode cX10_mayDo 66 = .ok (.iload 4, 2) := by decide +kernel
theorem dX10_mayDo_68 : decode cX10_mayDo 68 = .ok (.iconst 1, 1) := by decide +kernel
theorem dX10_mayDo_69 : decode cX10_mayDo 69 = .ok (.if_icmp .ne 7, 3) := by decide +kernel
theorem dX10_mayDo_72 : decode cX10_mayDo 72 = .ok (.iconst 1, 1) := by decide +kernel
theorem dX10_mayDo_73 : decode cX10_mayDo 73 = .ok (.goto 4, 3) := by decide +kernel
theorem dX10_mayDo_76 : decode cX10_mayDo 76 = .ok (.iconst 0, 1) := by decide +kernel
theorem dX10_mayDo_77 : decode cX10_mayDo 77 = .ok (.ireturn, 1) := by decide +kernel
theorem dX10_mayWrite_0 : decode cX10_mayWrite 0 = .ok (.aload_n 0, 1) := by decide +kernel
theorem dX10_mayWrite_1 : decode cX10_mayWrite 1 = .ok (.aload_n 0, 1) := by decide +kernel
theorem dX10_mayWrite_2 : decode cX10_mayWrite 2 = .ok (.getfield 47, 3) := by decide +kernel
theorem dX10_mayWrite_5 : decode cX10_mayWrite 5 = .ok (.iload_n 1, 1) := by decide +kernel
theorem dX10_mayWrite_6 : decode cX10_mayWrite 6 = .ok (.iaload, 1) := by decide +kernel
theorem dX10_mayWrite_7 : decode cX10_mayWrite 7 = .ok (.iload_n 2, 1) := by decide +kernel
theorem dX10_mayWrite_8 : decode cX10_mayWrite 8 = .ok (.iconst 1, 1) := by decide +kernel
theorem dX10_mayWrite_9 : decode cX10_mayWrite 9 = .ok (.invokevirtual 243, 3) := by decide +kernel
theorem dX10_mayWrite_12 : decode cX10_mayWrite 12 = .ok (.ireturn, 1) := by decide +kernel
theorem dX10_makes_0 : decode cX10_makes 0 = .ok (.iconst 0, 1) := by decide +kernel
theorem dX10_makes_1 : decode cX10_makes 1 = .ok (.istore 7, 2) := by decide +kernel
theorem dX10_makes_3 : decode cX10_makes 3 = .ok (.iconst 0, 1) := by decide +kernel
theorem dX10_makes_4 : decode cX10_makes 4 = .ok (.istore 8, 2) := by decide +kernel
theorem dX10_makes_6 : decode cX10_makes 6 = .ok (.iload 8, 2) := by decide +kernel
theorem dX10_makes_8 : decode cX10_makes 8 = .ok (.aload_n 0, 1) := by decide +kernel
theorem dX10_makes_9 : decode cX10_makes 9 = .ok (.getfield 212, 3) := by decide +kernel
theorem dX10_makes_12 : decode cX10_makes 12 = .ok (.if_icmp .ge 45, 3) := by decide +kernel
theorem dX10_makes_15 : decode cX10_makes 15 = .ok (.aload_n 0, 1) := by decide +kernel
theorem dX10_makes_16 : decode cX10_makes 16 = .ok (.iload_n 1, 1) := by decide +kernel
theorem dX10_makes_17 : decode cX10_makes 17 = .ok (.iload 8, 2) := by decide +kernel
theorem dX10_makes_19 : decode cX10_makes 19 = .ok (.invokevirtual 215, 3) := by decide +kernel
theorem dX10_makes_22 : decode cX10_makes 22 = .ok (.ifCond .eq 25, 3) := by decide +kernel
theorem dX10_makes_25 : decode cX10_makes 25 = .ok (.aload_n 0, 1) := by decide +kernel
theorem dX10_makes_26 : decode cX10_makes 26 = .ok (.getfield 60, 3) := by decide +kernel
theorem dX10_makes_29 : decode cX10_makes 29 = .ok (.iload 8, 2) := by decide +kernel
theorem dX10_makes_31 : decode cX10_makes 31 = .ok (.iaload, 1) := by decide +kernel
theorem dX10_makes_32 : decode cX10_makes 32 = .ok (.iload 7, 2) := by decide +kernel
theorem dX10_makes_34 : decode cX10_makes 34 = .ok (.if_icmp .le 13, 3) := by decide +kernel
theorem dX10_makes_37 : decode cX10_makes 37 = .ok (.aload_n 0, 1) := by decide +kernel
theorem dX10_makes_38 : decode cX10_makes 38 = .ok (.getfield 60, 3) := by decide +kernel
theorem dX10_makes_41 : decode cX10_makes 41 = .ok (.iload 8, 2) := by decide +kernel
theorem dX10_makes_43 : decode cX10_makes 43 = .ok (.iaload, 1) := by decide +kernel
theorem dX10_makes_44 : decode cX10_makes 44 = .ok (.goto 5, 3) := by decide +kernel
theorem dX10_makes_47 : decode cX10_makes 47 = .ok (.iload 7, 2) := by decide +kernel
theorem dX10_makes_49 : decode cX10_makes 49 = .ok (.istore 7, 2) := by decide +kernel
theorem dX10_makes_51 : decode cX10_makes 51 = .ok (.iinc 8 1, 3) := by decide +kernel
theorem dX10_makes_54 : decode cX10_makes 54 = .ok (.goto (-48), 3) := by decide +kernel
theorem dX10_makes_57 : decode cX10_makes 57 = .ok (.aload_n 0, 1) := by decide +kernel
theorem dX10_makes_58 : decode cX10_makes 58 = .ok (.getfield 212, 3) := by decide +kernel
theorem dX10_makes_61 : decode cX10_makes 61 = .ok (.istore 8, 2) := by decide +kernel
theorem dX10_makes_63 : decode cX10_makes 63 = .ok (.aload_n 0, 1) := by decide +kernel
theorem dX10_makes_64 : decode cX10_makes 64 = .ok (.getfield 60, 3) := by decide +kernel
theorem dX10_makes_67 : decode cX10_makes 67 = .ok (.iload 8, 2) := by decide +kernel
theorem dX10_makes_69 : decode cX10_makes 69 = .ok (.iload 7, 2) := by decide +kernel
theorem dX10_makes_71 : decode cX10_makes 71 = .ok (.iconst 1, 1) := by decide +kernel
theorem dX10_makes_72 : decode cX10_makes 72 = .ok (.iadd, 1) := by decide +kernel
theorem dX10_makes_73 : decode cX10_makes 73 = .ok (.iastore, 1) := by decide +kernel
theorem dX10_makes_74 : decode cX10_makes 74 = .ok (.aload_n 0, 1) := by decide +kernel
theorem dX10_makes_75 : decode cX10_makes 75 = .ok (.getfield 63, 3) := by decide +kernel
theorem dX10_makes_78 : decode cX10_makes 78 = .ok (.iload 8, 2) := by decide +kernel
theorem dX10_makes_80 : decode cX10_makes 80 = .ok (.iload_n 1, 1) := by decide +kernel
theorem dX10_makes_81 : decode cX10_makes 81 = .ok (.iastore, 1) := by decide +kernel
theorem dX10_makes_82 : decode cX10_makes 82 = .ok (.aload_n 0, 1) := by decide +kernel
theorem dX10_makes_83 : decode cX10_makes 83 = .ok (.getfield 66, 3) := by decide +kernel
theorem dX10_makes_86 : decode cX10_makes 86 = .ok (.iload 8, 2) := by decide +kernel
theorem dX10_makes_88 : decode cX10_makes 88 = .ok (.aload_n 0, 1) := by decide +kernel
theorem dX10_makes_89 : decode cX10_makes 89 = .ok (.getfield 50, 3) := by decide +kernel
theorem dX10_makes_92 : decode cX10_makes 92 = .ok (.bipush 21, 2) := by decide +kernel
theorem dX10_makes_94 : decode cX10_makes 94 = .ok (.iload_n 1, 1) := by decide +kernel
theorem dX10_makes_95 : decode cX10_makes 95 = .ok (.imul, 1) := by decide +kernel
theorem dX10_makes_96 : decode cX10_makes 96 = .ok (.iaload, 1) := by decide +kernel
theorem dX10_makes_97 : decode cX10_makes 97 = .ok (.iastore, 1) := by decide +kernel
theorem dX10_makes_98 : decode cX10_makes 98 = .ok (.aload_n 0, 1) := by decide +kernel
theorem dX10_makes_99 : decode cX10_makes 99 = .ok (.getfield 69, 3) := by decide +kernel
theorem dX10_makes_102 : decode cX10_makes 102 = .ok (.iload 8, 2) := by decide +kernel
theorem dX10_makes_104 : decode cX10_makes 104 = .ok (.iload_n 2, 1) := by decide +kernel
theorem dX10_makes_105 : decode cX10_makes 105 = .ok (.iastore, 1) := by decide +kernel
theorem dX10_makes_106 : decode cX10_makes 106 = .ok (.aload_n 0, 1) := by decide +kernel
theorem dX10_makes_107 : decode cX10_makes 107 = .ok (.getfield 72, 3) := by decide +kernel
theorem dX10_makes_110 : decode cX10_makes 110 = .ok (.iload 8, 2) := by decide +kernel
theorem dX10_makes_112 : decode cX10_makes 112 = .ok (.iload_n 3, 1) := by decide +kernel
theorem dX10_makes_113 : decode cX10_makes 113 = .ok (.iastore, 1) := by decide +kernel
theorem dX10_makes_114 : decode cX10_makes 114 = .ok (.aload_n 0, 1) := by decide +kernel
theorem dX10_makes_115 : decode cX10_makes 115 = .ok (.getfield 75, 3) := by decide +kernel
theorem dX10_makes_118 : decode cX10_makes 118 = .ok (.iload 8, 2) := by decide +kernel
theorem dX10_makes_120 : decode cX10_makes 120 = .ok (.iload 4, 2) := by decide +kernel
theorem dX10_makes_122 : decode cX10_makes 122 = .ok (.iastore, 1) := by decide +kernel
theorem dX10_makes_123 : decode cX10_makes 123 = .ok (.aload_n 0, 1) := by decide +kernel
theorem dX10_makes_124 : decode cX10_makes 124 = .ok (.getfield 78, 3) := by decide +kernel
theorem dX10_makes_127 : decode cX10_makes 127 = .ok (.iload 8, 2) := by decide +kernel
theorem dX10_makes_129 : decode cX10_makes 129 = .ok (.iload 5, 2) := by decide +kernel
theorem dX10_makes_131 : decode cX10_makes 131 = .ok (.iastore, 1) := by decide +kernel
theorem dX10_makes_132 : decode cX10_makes 132 = .ok (.aload_n 0, 1) := by decide +kernel
theorem dX10_makes_133 : decode cX10_makes 133 = .ok (.getfield 81, 3) := by decide +kernel
theorem dX10_makes_136 : decode cX10_makes 136 = .ok (.iload 8, 2) := by decide +kernel
theorem dX10_makes_138 : decode cX10_makes 138 = .ok (.iload 6, 2) := by decide +kernel
theorem dX10_makes_140 : decode cX10_makes 140 = .ok (.iastore, 1) := by decide +kernel
theorem dX10_makes_141 : decode cX10_makes 141 = .ok (.iload 8, 2) := by decide +kernel
theorem dX10_makes_143 : decode cX10_makes 143 = .ok (.istore 9, 2) := by decide +kernel
theorem dX10_makes_145 : decode cX10_makes 145 = .ok (.iload 9, 2) := by decide +kernel
theorem dX10_makes_147 : decode cX10_makes 147 = .ok (.ifCond .le 91, 3) := by decide +kernel
theorem dX10_makes_150 : decode cX10_makes 150 = .ok (.aload_n 0, 1) := by decide +kernel
theorem dX10_makes_151 : decode cX10_makes 151 = .ok (.getfield 60, 3) := by decide +kernel
theorem dX10_makes_154 : decode cX10_makes 154 = .ok (.aload_n 0, 1) := by decide +kernel
theorem dX10_makes_155 : decode cX10_makes 155 = .ok (.getfield 96, 3) := by decide +kernel
theorem dX10_makes_158 : decode cX10_makes 158 = .ok (.iload 9, 2) := by decide +kernel
theorem dX10_makes_160 : decode cX10_makes 160 = .ok (.iconst 1, 1) := by decide +kernel
theorem dX10_makes_161 : decode cX10_makes 161 = .ok (.isub, 1) := by decide +kernel
theorem dX10_makes_162 : decode cX10_makes 162 = .ok (.iaload, 1) := by decide +kernel
theorem dX10_makes_163 : decode cX10_makes 163 = .ok (.iaload, 1) := by decide +kernel
theorem dX10_makes_164 : decode cX10_makes 164 = .ok (.aload_n 0, 1) := by decide +kernel
theorem dX10_makes_165 : decode cX10_makes 165 = .ok (.getfield 60, 3) := by decide +kernel
theorem dX10_makes_168 : decode cX10_makes 168 = .ok (.iload 8, 2) := by decide +kernel
theorem dX10_makes_170 : decode cX10_makes 170 = .ok (.iaload, 1) := by decide +kernel
theorem dX10_makes_171 : decode cX10_makes 171 = .ok (.if_icmp .gt 45, 3) := by decide +kernel
theorem dX10_makes_174 : decode cX10_makes 174 = .ok (.aload_n 0, 1) := by decide +kernel
theorem dX10_makes_175 : decode cX10_makes 175 = .ok (.getfield 60, 3) := by decide +kernel
theorem dX10_makes_178 : decode cX10_makes 178 = .ok (.aload_n 0, 1) := by decide +kernel
theorem dX10_makes_179 : decode cX10_makes 179 = .ok (.getfield 96, 3) := by decide +kernel
theorem dX10_makes_182 : decode cX10_makes 182 = .ok (.iload 9, 2) := by decide +kernel
theorem dX10_makes_184 : decode cX10_makes 184 = .ok (.iconst 1, 1) := by decide +kernel
theorem dX10_makes_185 : decode cX10_makes 185 = .ok (.isub, 1) := by decide +kernel
theorem dX10_makes_186 : decode cX10_makes 186 = .ok (.iaload, 1) := by decide +kernel
theorem dX10_makes_187 : decode cX10_makes 187 = .ok (.iaload, 1) := by decide +kernel
theorem dX10_makes_188 : decode cX10_makes 188 = .ok (.aload_n 0, 1) := by decide +kernel
theorem dX10_makes_189 : decode cX10_makes 189 = .ok (.getfield 60, 3) := by decide +kernel
theorem dX10_makes_192 : decode cX10_makes 192 = .ok (.iload 8, 2) := by decide +kernel
theorem dX10_makes_194 : decode cX10_makes 194 = .ok (.iaload, 1) := by decide +kernel
theorem dX10_makes_195 : decode cX10_makes 195 = .ok (.if_icmp .ne 43, 3) := by decide +kernel
theorem dX10_makes_198 : decode cX10_makes 198 = .ok (.aload_n 0, 1) := by decide +kernel
theorem dX10_makes_199 : decode cX10_makes 199 = .ok (.getfield 63, 3) := by decide +kernel
theorem dX10_makes_202 : decode cX10_makes 202 = .ok (.aload_n 0, 1) := by decide +kernel
theorem dX10_makes_203 : decode cX10_makes 203 = .ok (.getfield 96, 3) := by decide +kernel
theorem dX10_makes_206 : decode cX10_makes 206 = .ok (.iload 9, 2) := by decide +kernel
theorem dX10_makes_208 : decode cX10_makes 208 = .ok (.iconst 1, 1) := by decide +kernel
theorem dX10_makes_209 : decode cX10_makes 209 = .ok (.isub, 1) := by decide +kernel
theorem dX10_makes_210 : decode cX10_makes 210 = .ok (.iaload, 1) := by decide +kernel
theorem dX10_makes_211 : decode cX10_makes 211 = .ok (.iaload, 1) := by decide +kernel
theorem dX10_makes_212 : decode cX10_makes 212 = .ok (.iload_n 1, 1) := by decide +kernel
theorem dX10_makes_213 : decode cX10_makes 213 = .ok (.if_icmp .le 25, 3) := by decide +kernel
theorem dX10_makes_216 : decode cX10_makes 216 = .ok (.aload_n 0, 1) := by decide +kernel
theorem dX10_makes_217 : decode cX10_makes 217 = .ok (.getfield 96, 3) := by decide +kernel
theorem dX10_makes_220 : decode cX10_makes 220 = .ok (.iload 9, 2) := by decide +kernel
theorem dX10_makes_222 : decode cX10_makes 222 = .ok (.aload_n 0, 1) := by decide +kernel
theorem dX10_makes_223 : decode cX10_makes 223 = .ok (.getfield 96, 3) := by decide +kernel
theorem dX10_makes_226 : decode cX10_makes 226 = .ok (.iload 9, 2) := by decide +kernel
theorem dX10_makes_228 : decode cX10_makes 228 = .ok (.iconst 1, 1) := by decide +kernel
theorem dX10_makes_229 : decode cX10_makes 229 = .ok (.isub, 1) := by decide +kernel
theorem dX10_makes_230 : decode cX10_makes 230 = .ok (.iaload, 1) := by decide +kernel
theorem dX10_makes_231 : decode cX10_makes 231 = .ok (.iastore, 1) := by decide +kernel
theorem dX10_makes_232 : decode cX10_makes 232 = .ok (.iinc 9 (-1), 3) := by decide +kernel
theorem dX10_makes_235 : decode cX10_makes 235 = .ok (.goto (-90), 3) := by decide +kernel
theorem dX10_makes_238 : decode cX10_makes 238 = .ok (.aload_n 0, 1) := by decide +kernel
theorem dX10_makes_239 : decode cX10_makes 239 = .ok (.getfield 96, 3) := by decide +kernel
theorem dX10_makes_242 : decode cX10_makes 242 = .ok (.iload 9, 2) := by decide +kernel
theorem dX10_makes_244 : decode cX10_makes 244 = .ok (.iload 8, 2) := by decide +kernel
theorem dX10_makes_246 : decode cX10_makes 246 = .ok (.iastore, 1) := by decide +kernel
theorem dX10_makes_247 : decode cX10_makes 247 = .ok (.aload_n 0, 1) := by decide +kernel
theorem dX10_makes_248 : decode cX10_makes 248 = .ok (.dup, 1) := by decide +kernel
theorem dX10_makes_249 : decode cX10_makes 249 = .ok (.getfield 212, 3) := by decide +kernel
theorem dX10_makes_252 : decode cX10_makes 252 = .ok (.iconst 1, 1) := by decide +kernel
theorem dX10_makes_253 : decode cX10_makes 253 = .ok (.iadd, 1) := by decide +kernel
theorem dX10_makes_254 : decode cX10_makes 254 = .ok (.putfield 212, 3) := by decide +kernel
theorem dX10_makes_257 : decode cX10_makes 257 = .ok (.aload_n 0, 1) := by decide +kernel
theorem dX10_makes_258 : decode cX10_makes 258 = .ok (.getfield 50, 3) := by decide +kernel
theorem dX10_makes_261 : decode cX10_makes 261 = .ok (.bipush 21, 2) := by decide +kernel
theorem dX10_makes_263 : decode cX10_makes 263 = .ok (.iload_n 1, 1) := by decide +kernel
theorem dX10_makes_264 : decode cX10_makes 264 = .ok (.imul, 1) := by decide +kernel
theorem dX10_makes_265 : decode cX10_makes 265 = .ok (.dup2, 1) := by decide +kernel
theorem dX10_makes_266 : decode cX10_makes 266 = .ok (.iaload, 1) := by decide +kernel
theorem dX10_makes_267 : decode cX10_makes 267 = .ok (.iconst 1, 1) := by decide +kernel
theorem dX10_makes_268 : decode cX10_makes 268 = .ok (.iadd, 1) := by decide +kernel
theorem dX10_makes_269 : decode cX10_makes 269 = .ok (.iastore, 1) := by decide +kernel
theorem dX10_makes_270 : decode cX10_makes 270 = .ok (.aload_n 0, 1) := by decide +kernel
theorem dX10_makes_271 : decode cX10_makes 271 = .ok (.iconst (-1), 1) := by decide +kernel
theorem dX10_makes_272 : decode cX10_makes 272 = .ok (.putfield 99, 3) := by decide +kernel
theorem dX10_makes_275 : decode cX10_makes 275 = .ok (.iload 8, 2) := by decide +kernel
theorem dX10_makes_277 : decode cX10_makes 277 = .ok (.ireturn, 1) := by decide +kernel
theorem dX10_isFull_0 : decode cX10_isFull 0 = .ok (.aload_n 0, 1) := by decide +kernel
theorem dX10_isFull_1 : decode cX10_isFull 1 = .ok (.getfield 212, 3) := by decide +kernel
theorem dX10_isFull_4 : decode cX10_isFull 4 = .ok (.sipush 250, 3) := by decide +kernel
theorem dX10_isFull_7 : decode cX10_isFull 7 = .ok (.if_icmp .ne 7, 3) := by decide +kernel
theorem dX10_isFull_10 : decode cX10_isFull 10 = .ok (.iconst 1, 1) := by decide +kernel
theorem dX10_isFull_11 : decode cX10_isFull 11 = .ok (.goto 4, 3) := by decide +kernel
theorem dX10_isFull_14 : decode cX10_isFull 14 = .ok (.iconst 0, 1) := by decide +kernel
theorem dX10_isFull_15 : decode cX10_isFull 15 = .ok (.ireturn, 1) := by decide +kernel
theorem dX10_attribute_0 : decode cX10_attribute 0 = .ok (.aload_n 0, 1) := by decide +kernel
theorem dX10_attribute_1 : decode cX10_attribute 1 = .ok (.iconst 0, 1) := by decide +kernel
theorem dX10_attribute_2 : decode cX10_attribute 2 = .ok (.putfield 177, 3) := by decide +kernel
theorem dX10_attribute_5 : decode cX10_attribute 5 = .ok (.aload_n 0, 1) := by decide +kernel
theorem dX10_attribute_6 : decode cX10_attribute 6 = .ok (.getfield 184, 3) := by decide +kernel
theorem dX10_attribute_9 : decode cX10_attribute 9 = .ok (.bipush 10, 2) := by decide +kernel
theorem dX10_attribute_11 : decode cX10_attribute 11 = .ok (.if_icmp .ne 9, 3) := by decide +kernel
theorem dX10_attribute_14 : decode cX10_attribute 14 = .ok (.aload_n 0, 1) := by decide +kernel
theorem dX10_attribute_15 : decode cX10_attribute 15 = .ok (.iconst 1, 1) := by decide +kernel
theorem dX10_attribute_16 : decode cX10_attribute 16 = .ok (.invokevirtual 246, 3) := by decide +kernel
theorem dX10_attribute_19 : decode cX10_attribute 19 = .ok (.ireturn, 1) := by decide +kernel
theorem dX10_attribute_20 : decode cX10_attribute 20 = .ok (.aload_n 0, 1) := by decide +kernel
theorem dX10_attribute_21 : decode cX10_attribute 21 = .ok (.getfield 7, 3) := by decide +kernel
theorem dX10_attribute_24 : decode cX10_attribute 24 = .ok (.aload_n 0, 1) := by decide +kernel
theorem dX10_attribute_25 : decode cX10_attribute 25 = .ok (.getfield 184, 3) := by decide +kernel
theorem dX10_attribute_28 : decode cX10_attribute 28 = .ok (.iload_n 1, 1) := by decide +kernel
theorem dX10_attribute_29 : decode cX10_attribute 29 = .ok (.bastore, 1) := by decide +kernel
theorem dX10_attribute_30 : decode cX10_attribute 30 = .ok (.aload_n 0, 1) := by decide +kernel
theorem dX10_attribute_31 : decode cX10_attribute 31 = .ok (.getfield 13, 3) := by decide +kernel
theorem dX10_attribute_34 : decode cX10_attribute 34 = .ok (.aload_n 0, 1) := by decide +kernel
theorem dX10_attribute_35 : decode cX10_attribute 35 = .ok (.getfield 184, 3) := by decide +kernel
theorem dX10_attribute_38 : decode cX10_attribute 38 = .ok (.iload_n 2, 1) := by decide +kernel
theorem dX10_attribute_39 : decode cX10_attribute 39 = .ok (.bastore, 1) := by decide +kernel
theorem dX10_attribute_40 : decode cX10_attribute 40 = .ok (.aload_n 0, 1) := by decide +kernel
theorem dX10_attribute_41 : decode cX10_attribute 41 = .ok (.dup, 1) := by decide +kernel
theorem dX10_attribute_42 : decode cX10_attribute 42 = .ok (.getfield 184, 3) := by decide +kernel
theorem dX10_attribute_45 : decode cX10_attribute 45 = .ok (.iconst 1, 1) := by decide +kernel
theorem dX10_attribute_46 : decode cX10_attribute 46 = .ok (.iadd, 1) := by decide +kernel
theorem dX10_attribute_47 : decode cX10_attribute 47 = .ok (.putfield 184, 3) := by decide +kernel
theorem dX10_attribute_50 : decode cX10_attribute 50 = .ok (.aload_n 0, 1) := by decide +kernel
theorem dX10_attribute_51 : decode cX10_attribute 51 = .ok (.getfield 184, 3) := by decide +kernel
theorem dX10_attribute_54 : decode cX10_attribute 54 = .ok (.iconst 1, 1) := by decide +kernel
theorem dX10_attribute_55 : decode cX10_attribute 55 = .ok (.isub, 1) := by decide +kernel
theorem dX10_attribute_56 : decode cX10_attribute 56 = .ok (.ireturn, 1) := by decide +kernel
theorem dX10_objectClass_0 : decode cX10_objectClass 0 = .ok (.aload_n 0, 1) := by decide +kernel
theorem dX10_objectClass_1 : decode cX10_objectClass 1 = .ok (.iconst 0, 1) := by decide +kernel
theorem dX10_objectClass_2 : decode cX10_objectClass 2 = .ok (.putfield 177, 3) := by decide +kernel
theorem dX10_objectClass_5 : decode cX10_objectClass 5 = .ok (.iload_n 1, 1) := by decide +kernel
theorem dX10_objectClass_6 : decode cX10_objectClass 6 = .ok (.iconst (-1), 1) := by decide +kernel
theorem dX10_objectClass_7 : decode cX10_objectClass 7 = .ok (.aload_n 0, 1) := by decide +kernel
theorem dX10_objectClass_8 : decode cX10_objectClass 8 = .ok (.getfield 187, 3) := by decide +kernel
theorem dX10_objectClass_11 : decode cX10_objectClass 11 = .ok (.iconst 1, 1) := by decide +kernel
theorem dX10_objectClass_12 : decode cX10_objectClass 12 = .ok (.isub, 1) := by decide +kernel
theorem dX10_objectClass_13 : decode cX10_objectClass 13 = .ok (.invokestatic 180, 3) := by decide +kernel
theorem dX10_objectClass_16 : decode cX10_objectClass 16 = .ok (.ifCond .eq 21, 3) := by decide +kernel
theorem dX10_objectClass_19 : decode cX10_objectClass 19 = .ok (.iload_n 2, 1) := by decide +kernel
theorem dX10_objectClass_20 : decode cX10_objectClass 20 = .ok (.aload_n 0, 1) := by decide +kernel
theorem dX10_objectClass_21 : decode cX10_objectClass 21 = .ok (.getfield 184, 3) := by decide +kernel
theorem dX10_objectClass_24 : decode cX10_objectClass 24 = .ok (.ishr, 1) := by decide +kernel
theorem dX10_objectClass_25 : decode cX10_objectClass 25 = .ok (.ifCond .ne 12, 3) := by decide +kernel
theorem dX10_objectClass_28 : decode cX10_objectClass 28 = .ok (.iload_n 3, 1) := by decide +kernel
theorem dX10_objectClass_29 : decode cX10_objectClass 29 = .ok (.aload_n 0, 1) := by decide +kernel
theorem dX10_objectClass_30 : decode cX10_objectClass 30 = .ok (.getfield 184, 3) := by decide +kernel
theorem dX10_objectClass_33 : decode cX10_objectClass 33 = .ok (.ishr, 1) := by decide +kernel
theorem dX10_objectClass_34 : decode cX10_objectClass 34 = .ok (.ifCond .eq 9, 3) := by decide +kernel
theorem dX10_objectClass_37 : decode cX10_objectClass 37 = .ok (.aload_n 0, 1) := by decide +kernel
theorem dX10_objectClass_38 : decode cX10_objectClass 38 = .ok (.iconst 1, 1) := by decide +kernel
theorem dX10_objectClass_39 : decode cX10_objectClass 39 = .ok (.invokevirtual 246, 3) := by decide +kernel
theorem dX10_objectClass_42 : decode cX10_objectClass 42 = .ok (.ireturn, 1) := by decide +kernel
theorem dX10_objectClass_43 : decode cX10_objectClass 43 = .ok (.aload_n 0, 1) := by decide +kernel
theorem dX10_objectClass_44 : decode cX10_objectClass 44 = .ok (.getfield 187, 3) := by decide +kernel
theorem dX10_objectClass_47 : decode cX10_objectClass 47 = .ok (.bipush 8, 2) := by decide +kernel
theorem dX10_objectClass_49 : decode cX10_objectClass 49 = .ok (.if_icmp .ne 9, 3) := by decide +kernel
theorem dX10_objectClass_52 : decode cX10_objectClass 52 = .ok (.aload_n 0, 1) := by decide +kernel
theorem dX10_objectClass_53 : decode cX10_objectClass 53 = .ok (.iconst 2, 1) := by decide +kernel
theorem dX10_objectClass_54 : decode cX10_objectClass 54 = .ok (.invokevirtual 246, 3) := by decide +kernel
theorem dX10_objectClass_57 : decode cX10_objectClass 57 = .ok (.ireturn, 1) := by decide +kernel
theorem dX10_objectClass_58 : decode cX10_objectClass 58 = .ok (.aload_n 0, 1) := by decide +kernel
theorem dX10_objectClass_59 : decode cX10_objectClass 59 = .ok (.getfield 16, 3) := by decide +kernel
theorem dX10_objectClass_62 : decode cX10_objectClass 62 = .ok (.aload_n 0, 1) := by decide +kernel
theorem dX10_objectClass_63 : decode cX10_objectClass 63 = .ok (.getfield 187, 3) := by decide +kernel
theorem dX10_objectClass_66 : decode cX10_objectClass 66 = .ok (.iload_n 1, 1) := by decide +kernel
theorem dX10_objectClass_67 : decode cX10_objectClass 67 = .ok (.iastore, 1) := by decide +kernel
theorem dX10_objectClass_68 : decode cX10_objectClass 68 = .ok (.aload_n 0, 1) := by decide +kernel
theorem dX10_objectClass_69 : decode cX10_objectClass 69 = .ok (.getfield 20, 3) := by decide +kernel
theorem dX10_objectClass_72 : decode cX10_objectClass 72 = .ok (.aload_n 0, 1) := by decide +kernel
theorem dX10_objectClass_73 : decode cX10_objectClass 73 = .ok (.getfield 187, 3) := by decide +kernel
theorem dX10_objectClass_76 : decode cX10_objectClass 76 = .ok (.iload_n 2, 1) := by decide +kernel
theorem dX10_objectClass_77 : decode cX10_objectClass 77 = .ok (.iastore, 1) := by decide +kernel
theorem dX10_objectClass_78 : decode cX10_objectClass 78 = .ok (.aload_n 0, 1) := by decide +kernel
theorem dX10_objectClass_79 : decode cX10_objectClass 79 = .ok (.getfield 23, 3) := by decide +kernel
theorem dX10_objectClass_82 : decode cX10_objectClass 82 = .ok (.aload_n 0, 1) := by decide +kernel
theorem dX10_objectClass_83 : decode cX10_objectClass 83 = .ok (.getfield 187, 3) := by decide +kernel
theorem dX10_objectClass_86 : decode cX10_objectClass 86 = .ok (.iload_n 3, 1) := by decide +kernel
theorem dX10_objectClass_87 : decode cX10_objectClass 87 = .ok (.iastore, 1) := by decide +kernel
theorem dX10_objectClass_88 : decode cX10_objectClass 88 = .ok (.aload_n 0, 1) := by decide +kernel
theorem dX10_objectClass_89 : decode cX10_objectClass 89 = .ok (.dup, 1) := by decide +kernel
theorem dX10_objectClass_90 : decode cX10_objectClass 90 = .ok (.getfield 187, 3) := by decide +kernel
theorem dX10_objectClass_93 : decode cX10_objectClass 93 = .ok (.iconst 1, 1) := by decide +kernel
theorem dX10_objectClass_94 : decode cX10_objectClass 94 = .ok (.iadd, 1) := by decide +kernel
theorem dX10_objectClass_95 : decode cX10_objectClass 95 = .ok (.putfield 187, 3) := by decide +kernel
theorem dX10_objectClass_98 : decode cX10_objectClass 98 = .ok (.aload_n 0, 1) := by decide +kernel
theorem dX10_objectClass_99 : decode cX10_objectClass 99 = .ok (.getfield 187, 3) := by decide +kernel
theorem dX10_objectClass_102 : decode cX10_objectClass 102 = .ok (.iconst 1, 1) := by decide +kernel
theorem dX10_objectClass_103 : decode cX10_objectClass 103 = .ok (.isub, 1) := by decide +kernel
theorem dX10_objectClass_104 : decode cX10_objectClass 104 = .ok (.ireturn, 1) := by decide +kernel
theorem dX10_serve_0 : decode cX10_serve 0 = .ok (.aload_n 0, 1) := by decide +kernel
theorem dX10_serve_1 : decode cX10_serve 1 = .ok (.iconst 0, 1) := by decide +kernel
theorem dX10_serve_2 : decode cX10_serve 2 = .ok (.putfield 177, 3) := by decide +kernel
theorem dX10_serve_5 : decode cX10_serve 5 = .ok (.iload_n 1, 1) := by decide +kernel
theorem dX10_serve_6 : decode cX10_serve 6 = .ok (.invokestatic 226, 3) := by decide +kernel
theorem dX10_serve_9 : decode cX10_serve 9 = .ok (.ifCond .eq 12, 3) := by decide +kernel
theorem dX10_serve_12 : decode cX10_serve 12 = .ok (.iload_n 2, 1) := by decide +kernel
theorem dX10_serve_13 : decode cX10_serve 13 = .ok (.iconst 0, 1) := by decide +kernel
theorem dX10_serve_14 : decode cX10_serve 14 = .ok (.iconst 5, 1) := by decide +kernel
theorem dX10_serve_15 : decode cX10_serve 15 = .ok (.invokestatic 180, 3) := by decide +kernel
theorem dX10_serve_18 : decode cX10_serve 18 = .ok (.ifCond .ne 9, 3) := by decide +kernel
theorem dX10_serve_21 : decode cX10_serve 21 = .ok (.aload_n 0, 1) := by decide +kernel
theorem dX10_serve_22 : decode cX10_serve 22 = .ok (.iconst 1, 1) := by decide +kernel
theorem dX10_serve_23 : decode cX10_serve 23 = .ok (.invokevirtual 246, 3) := by decide +kernel
theorem dX10_serve_26 : decode cX10_serve 26 = .ok (.ireturn, 1) := by decide +kernel
theorem dX10_serve_27 : decode cX10_serve 27 = .ok (.aload_n 0, 1) := by decide +kernel
theorem dX10_serve_28 : decode cX10_serve 28 = .ok (.getfield 47, 3) := by decide +kernel
theorem dX10_serve_31 : decode cX10_serve 31 = .ok (.iload_n 1, 1) := by decide +kernel
theorem dX10_serve_32 : decode cX10_serve 32 = .ok (.iaload, 1) := by decide +kernel
theorem dX10_serve_33 : decode cX10_serve 33 = .ok (.istore_n 3, 1) := by decide +kernel
theorem dX10_serve_34 : decode cX10_serve 34 = .ok (.aload_n 0, 1) := by decide +kernel
theorem dX10_serve_35 : decode cX10_serve 35 = .ok (.getfield 47, 3) := by decide +kernel
theorem dX10_serve_38 : decode cX10_serve 38 = .ok (.iload_n 1, 1) := by decide +kernel
theorem dX10_serve_39 : decode cX10_serve 39 = .ok (.iload_n 2, 1) := by decide +kernel
theorem dX10_serve_40 : decode cX10_serve 40 = .ok (.iastore, 1) := by decide +kernel
theorem dX10_serve_41 : decode cX10_serve 41 = .ok (.iload_n 3, 1) := by decide +kernel
theorem dX10_serve_42 : decode cX10_serve 42 = .ok (.ireturn, 1) := by decide +kernel
theorem dX10_draft_0 : decode cX10_draft 0 = .ok (.aload_n 0, 1) := by decide +kernel
theorem dX10_draft_1 : decode cX10_draft 1 = .ok (.iconst 0, 1) := by decide +kernel
theorem dX10_draft_2 : decode cX10_draft 2 = .ok (.putfield 177, 3) := by decide +kernel
theorem dX10_draft_5 : decode cX10_draft 5 = .ok (.aload_n 0, 1) := by decide +kernel
theorem dX10_draft_6 : decode cX10_draft 6 = .ok (.iload_n 1, 1) := by decide +kernel
theorem dX10_draft_7 : decode cX10_draft 7 = .ok (.invokevirtual 250, 3) := by decide +kernel
theorem dX10_draft_10 : decode cX10_draft 10 = .ok (.ifCond .ne 9, 3) := by decide +kernel
theorem dX10_draft_13 : decode cX10_draft 13 = .ok (.aload_n 0, 1) := by decide +kernel
theorem dX10_draft_14 : decode cX10_draft 14 = .ok (.iconst 1, 1) := by decide +kernel
theorem dX10_draft_15 : decode cX10_draft 15 = .ok (.invokevirtual 246, 3) := by decide +kernel
theorem dX10_draft_18 : decode cX10_draft 18 = .ok (.ireturn, 1) := by decide +kernel
theorem dX10_draft_19 : decode cX10_draft 19 = .ok (.iload_n 2, 1) := by decide +kernel
theorem dX10_draft_20 : decode cX10_draft 20 = .ok (.invokestatic 253, 3) := by decide +kernel
theorem dX10_draft_23 : decode cX10_draft 23 = .ok (.ifCond .ne 9, 3) := by decide +kernel
theorem dX10_draft_26 : decode cX10_draft 26 = .ok (.aload_n 0, 1) := by decide +kernel
theorem dX10_draft_27 : decode cX10_draft 27 = .ok (.iconst 2, 1) := by decide +kernel
theorem dX10_draft_28 : decode cX10_draft 28 = .ok (.invokevirtual 246, 3) := by decide +kernel
theorem dX10_draft_31 : decode cX10_draft 31 = .ok (.ireturn, 1) := by decide +kernel
theorem dX10_draft_32 : decode cX10_draft 32 = .ok (.aload_n 0, 1) := by decide +kernel
theorem dX10_draft_33 : decode cX10_draft 33 = .ok (.getfield 256, 3) := by decide +kernel
theorem dX10_draft_36 : decode cX10_draft 36 = .ok (.bipush 12, 2) := by decide +kernel
theorem dX10_draft_38 : decode cX10_draft 38 = .ok (.if_icmp .ne 9, 3) := by decide +kernel
theorem dX10_draft_41 : decode cX10_draft 41 = .ok (.aload_n 0, 1) := by decide +kernel
theorem dX10_draft_42 : decode cX10_draft 42 = .ok (.iconst 3, 1) := by decide +kernel
theorem dX10_draft_43 : decode cX10_draft 43 = .ok (.invokevirtual 246, 3) := by decide +kernel
theorem dX10_draft_46 : decode cX10_draft 46 = .ok (.ireturn, 1) := by decide +kernel
theorem dX10_draft_47 : decode cX10_draft 47 = .ok (.aload_n 0, 1) := by decide +kernel
theorem dX10_draft_48 : decode cX10_draft 48 = .ok (.getfield 26, 3) := by decide +kernel
theorem dX10_draft_51 : decode cX10_draft 51 = .ok (.aload_n 0, 1) := by decide +kernel
theorem dX10_draft_52 : decode cX10_draft 52 = .ok (.getfield 256, 3) := by decide +kernel
theorem dX10_draft_55 : decode cX10_draft 55 = .ok (.iload_n 1, 1) := by decide +kernel
theorem dX10_draft_56 : decode cX10_draft 56 = .ok (.iastore, 1) := by decide +kernel
theorem dX10_draft_57 : decode cX10_draft 57 = .ok (.aload_n 0, 1) := by decide +kernel
theorem dX10_draft_58 : decode cX10_draft 58 = .ok (.getfield 29, 3) := by decide +kernel
theorem dX10_draft_61 : decode cX10_draft 61 = .ok (.aload_n 0, 1) := by decide +kernel
theorem dX10_draft_62 : decode cX10_draft 62 = .ok (.getfield 256, 3) := by decide +kernel
theorem dX10_draft_65 : decode cX10_draft 65 = .ok (.iload_n 2, 1) := by decide +kernel
theorem dX10_draft_66 : decode cX10_draft 66 = .ok (.iastore, 1) := by decide +kernel
theorem dX10_draft_67 : decode cX10_draft 67 = .ok (.aload_n 0, 1) := by decide +kernel
theorem dX10_draft_68 : decode cX10_draft 68 = .ok (.dup, 1) := by decide +kernel
theorem dX10_draft_69 : decode cX10_draft 69 = .ok (.getfield 256, 3) := by decide +kernel
theorem dX10_draft_72 : decode cX10_draft 72 = .ok (.iconst 1, 1) := by decide +kernel
theorem dX10_draft_73 : decode cX10_draft 73 = .ok (.iadd, 1) := by decide +kernel
theorem dX10_draft_74 : decode cX10_draft 74 = .ok (.putfield 256, 3) := by decide +kernel
theorem dX10_draft_77 : decode cX10_draft 77 = .ok (.aload_n 0, 1) := by decide +kernel
theorem dX10_draft_78 : decode cX10_draft 78 = .ok (.getfield 256, 3) := by decide +kernel
theorem dX10_draft_81 : decode cX10_draft 81 = .ok (.ireturn, 1) := by decide +kernel
theorem dX10_undraft_0 : decode cX10_undraft 0 = .ok (.aload_n 0, 1) := by decide +kernel
theorem dX10_undraft_1 : decode cX10_undraft 1 = .ok (.iconst 0, 1) := by decide +kernel
theorem dX10_undraft_2 : decode cX10_undraft 2 = .ok (.putfield 177, 3) := by decide +kernel
theorem dX10_undraft_5 : decode cX10_undraft 5 = .ok (.aload_n 0, 1) := by decide +kernel
theorem dX10_undraft_6 : decode cX10_undraft 6 = .ok (.getfield 256, 3) := by decide +kernel
theorem dX10_undraft_9 : decode cX10_undraft 9 = .ok (.istore_n 1, 1) := by decide +kernel
theorem dX10_undraft_10 : decode cX10_undraft 10 = .ok (.aload_n 0, 1) := by decide +kernel
theorem dX10_undraft_11 : decode cX10_undraft 11 = .ok (.iconst 0, 1) := by decide +kernel
theorem dX10_undraft_12 : decode cX10_undraft 12 = .ok (.putfield 256, 3) := by decide +kernel
theorem dX10_undraft_15 : decode cX10_undraft 15 = .ok (.iload_n 1, 1) := by decide +kernel
theorem dX10_undraft_16 : decode cX10_undraft 16 = .ok (.ireturn, 1) := by decide +kernel
theorem dX10_isDrafted_0 : decode cX10_isDrafted 0 = .ok (.iconst 1, 1) := by decide +kernel
theorem dX10_isDrafted_1 : decode cX10_isDrafted 1 = .ok (.istore_n 2, 1) := by decide +kernel
theorem dX10_isDrafted_2 : decode cX10_isDrafted 2 = .ok (.iconst 0, 1) := by decide +kernel
theorem dX10_isDrafted_3 : decode cX10_isDrafted 3 = .ok (.istore_n 3, 1) := by decide +kernel
theorem dX10_isDrafted_4 : decode cX10_isDrafted 4 = .ok (.iconst 0, 1) := by decide +kernel
theorem dX10_isDrafted_5 : decode cX10_isDrafted 5 = .ok (.istore 4, 2) := by decide +kernel
theorem dX10_isDrafted_7 : decode cX10_isDrafted 7 = .ok (.iload 4, 2) := by decide +kernel
theorem dX10_isDrafted_9 : decode cX10_isDrafted 9 = .ok (.aload_n 0, 1) := by decide +kernel
theorem dX10_isDrafted_10 : decode cX10_isDrafted 10 = .ok (.getfield 256, 3) := by decide +kernel
theorem dX10_isDrafted_13 : decode cX10_isDrafted 13 = .ok (.if_icmp .ge 126, 3) := by decide +kernel
theorem dX10_isDrafted_16 : decode cX10_isDrafted 16 = .ok (.aload_n 0, 1) := by decide +kernel
theorem dX10_isDrafted_17 : decode cX10_isDrafted 17 = .ok (.getfield 26, 3) := by decide +kernel
theorem dX10_isDrafted_20 : decode cX10_isDrafted 20 = .ok (.iload 4, 2) := by decide +kernel
theorem dX10_isDrafted_22 : decode cX10_isDrafted 22 = .ok (.iaload, 1) := by decide +kernel
theorem dX10_isDrafted_23 : decode cX10_isDrafted 23 = .ok (.istore 5, 2) := by decide +kernel
theorem dX10_isDrafted_25 : decode cX10_isDrafted 25 = .ok (.iload_n 2, 1) := by decide +kernel
theorem dX10_isDrafted_26 : decode cX10_isDrafted 26 = .ok (.ifCond .eq 21, 3) := by decide +kernel
theorem dX10_isDrafted_29 : decode cX10_isDrafted 29 = .ok (.aload_n 0, 1) := by decide +kernel
theorem dX10_isDrafted_30 : decode cX10_isDrafted 30 = .ok (.iload_n 1, 1) := by decide +kernel
theorem dX10_isDrafted_31 : decode cX10_isDrafted 31 = .ok (.invokevirtual 259, 3) := by decide +kernel
theorem dX10_isDrafted_34 : decode cX10_isDrafted 34 = .ok (.iload 5, 2) := by decide +kernel
theorem dX10_isDrafted_36 : decode cX10_isDrafted 36 = .ok (.ishr, 1) := by decide +kernel
theorem dX10_isDrafted_37 : decode cX10_isDrafted 37 = .ok (.iconst 1, 1) := by decide +kernel
theorem dX10_isDrafted_38 : decode cX10_isDrafted 38 = .ok (.iand, 1) := by decide +kernel
theorem dX10_isDrafted_39 : decode cX10_isDrafted 39 = .ok (.iconst 1, 1) := by decide +kernel
theorem dX10_isDrafted_40 : decode cX10_isDrafted 40 = .ok (.if_icmp .ne 7, 3) := by decide +kernel
theorem dX10_isDrafted_43 : decode cX10_isDrafted 43 = .ok (.iconst 1, 1) := by decide +kernel
theorem dX10_isDrafted_44 : decode cX10_isDrafted 44 = .ok (.goto 4, 3) := by decide +kernel
theorem dX10_isDrafted_47 : decode cX10_isDrafted 47 = .ok (.iconst 0, 1) := by decide +kernel
theorem dX10_isDrafted_48 : decode cX10_isDrafted 48 = .ok (.istore_n 2, 1) := by decide +kernel
theorem dX10_isDrafted_49 : decode cX10_isDrafted 49 = .ok (.iconst 0, 1) := by decide +kernel
theorem dX10_isDrafted_50 : decode cX10_isDrafted 50 = .ok (.istore 6, 2) := by decide +kernel
theorem dX10_isDrafted_52 : decode cX10_isDrafted 52 = .ok (.iload 6, 2) := by decide +kernel
theorem dX10_isDrafted_54 : decode cX10_isDrafted 54 = .ok (.iload 4, 2) := by decide +kernel
theorem dX10_isDrafted_56 : decode cX10_isDrafted 56 = .ok (.if_icmp .ge 70, 3) := by decide +kernel
theorem dX10_isDrafted_59 : decode cX10_isDrafted 59 = .ok (.iload_n 2, 1) := by decide +kernel
theorem dX10_isDrafted_60 : decode cX10_isDrafted 60 = .ok (.ifCond .eq 58, 3) := by decide +kernel
theorem dX10_isDrafted_63 : decode cX10_isDrafted 63 = .ok (.aload_n 0, 1) := by decide +kernel
theorem dX10_isDrafted_64 : decode cX10_isDrafted 64 = .ok (.getfield 26, 3) := by decide +kernel
theorem dX10_isDrafted_67 : decode cX10_isDrafted 67 = .ok (.iload 6, 2) := by decide +kernel
theorem dX10_isDrafted_69 : decode cX10_isDrafted 69 = .ok (.iaload, 1) := by decide +kernel
theorem dX10_isDrafted_70 : decode cX10_isDrafted 70 = .ok (.iload 5, 2) := by decide +kernel
theorem dX10_isDrafted_72 : decode cX10_isDrafted 72 = .ok (.if_icmp .ne 42, 3) := by decide +kernel
theorem dX10_isDrafted_75 : decode cX10_isDrafted 75 = .ok (.aload_n 0, 1) := by decide +kernel
theorem dX10_isDrafted_76 : decode cX10_isDrafted 76 = .ok (.getfield 7, 3) := by decide +kernel
theorem dX10_isDrafted_79 : decode cX10_isDrafted 79 = .ok (.iload 5, 2) := by decide +kernel
theorem dX10_isDrafted_81 : decode cX10_isDrafted 81 = .ok (.baload, 1) := by decide +kernel
theorem dX10_isDrafted_82 : decode cX10_isDrafted 82 = .ok (.ifCond .ne 36, 3) := by decide +kernel
theorem dX10_isDrafted_85 : decode cX10_isDrafted 85 = .ok (.aload_n 0, 1) := by decide +kernel
theorem dX10_isDrafted_86 : decode cX10_isDrafted 86 = .ok (.iload 5, 2) := by decide +kernel
theorem dX10_isDrafted_88 : decode cX10_isDrafted 88 = .ok (.aload_n 0, 1) := by decide +kernel
theorem dX10_isDrafted_89 : decode cX10_isDrafted 89 = .ok (.getfield 29, 3) := by decide +kernel
theorem dX10_isDrafted_92 : decode cX10_isDrafted 92 = .ok (.iload 6, 2) := by decide +kernel
theorem dX10_isDrafted_94 : decode cX10_isDrafted 94 = .ok (.iaload, 1) := by decide +kernel
theorem dX10_isDrafted_95 : decode cX10_isDrafted 95 = .ok (.invokevirtual 193, 3) := by decide +kernel
theorem dX10_isDrafted_98 : decode cX10_isDrafted 98 = .ok (.aload_n 0, 1) := by decide +kernel
theorem dX10_isDrafted_99 : decode cX10_isDrafted 99 = .ok (.iload 5, 2) := by decide +kernel
theorem dX10_isDrafted_101 : decode cX10_isDrafted 101 = .ok (.aload_n 0, 1) := by decide +kernel
theorem dX10_isDrafted_102 : decode cX10_isDrafted 102 = .ok (.getfield 29, 3) := by decide +kernel
theorem dX10_isDrafted_105 : decode cX10_isDrafted 105 = .ok (.iload 4, 2) := by decide +kernel
theorem dX10_isDrafted_107 : decode cX10_isDrafted 107 = .ok (.iaload, 1) := by decide +kernel
theorem dX10_isDrafted_108 : decode cX10_isDrafted 108 = .ok (.invokevirtual 193, 3) := by decide +kernel
theorem dX10_isDrafted_111 : decode cX10_isDrafted 111 = .ok (.if_icmp .eq 7, 3) := by decide +kernel
theorem dX10_isDrafted_114 : decode cX10_isDrafted 114 = .ok (.iconst 1, 1) := by decide +kernel
theorem dX10_isDrafted_115 : decode cX10_isDrafted 115 = .ok (.goto 4, 3) := by decide +kernel
theorem dX10_isDrafted_118 : decode cX10_isDrafted 118 = .ok (.iconst 0, 1) := by decide +kernel
theorem dX10_isDrafted_119 : decode cX10_isDrafted 119 = .ok (.istore_n 2, 1) := by decide +kernel
theorem dX10_isDrafted_120 : decode cX10_isDrafted 120 = .ok (.iinc 6 1, 3) := by decide +kernel
theorem dX10_isDrafted_123 : decode cX10_isDrafted 123 = .ok (.goto (-71), 3) := by decide +kernel
theorem dX10_isDrafted_126 : decode cX10_isDrafted 126 = .ok (.iload_n 3, 1) := by decide +kernel
theorem dX10_isDrafted_127 : decode cX10_isDrafted 127 = .ok (.iconst 1, 1) := by decide +kernel
theorem dX10_isDrafted_128 : decode cX10_isDrafted 128 = .ok (.iload 5, 2) := by decide +kernel
theorem dX10_isDrafted_130 : decode cX10_isDrafted 130 = .ok (.ishl, 1) := by decide +kernel
theorem dX10_isDrafted_131 : decode cX10_isDrafted 131 = .ok (.ior, 1) := by decide +kernel
theorem dX10_isDrafted_132 : decode cX10_isDrafted 132 = .ok (.istore_n 3, 1) := by decide +kernel
theorem dX10_isDrafted_133 : decode cX10_isDrafted 133 = .ok (.iinc 4 1, 3) := by decide +kernel
theorem dX10_isDrafted_136 : decode cX10_isDrafted 136 = .ok (.goto (-129), 3) := by decide +kernel
theorem dX10_isDrafted_139 : decode cX10_isDrafted 139 = .ok (.iload_n 2, 1) := by decide +kernel
theorem dX10_isDrafted_140 : decode cX10_isDrafted 140 = .ok (.ifCond .eq 19, 3) := by decide +kernel
theorem dX10_isDrafted_143 : decode cX10_isDrafted 143 = .ok (.aload_n 0, 1) := by decide +kernel
theorem dX10_isDrafted_144 : decode cX10_isDrafted 144 = .ok (.iload_n 1, 1) := by decide +kernel
theorem dX10_isDrafted_145 : decode cX10_isDrafted 145 = .ok (.invokevirtual 262, 3) := by decide +kernel
theorem dX10_isDrafted_148 : decode cX10_isDrafted 148 = .ok (.iload_n 3, 1) := by decide +kernel
theorem dX10_isDrafted_149 : decode cX10_isDrafted 149 = .ok (.iconst (-1), 1) := by decide +kernel
theorem dX10_isDrafted_150 : decode cX10_isDrafted 150 = .ok (.ixor, 1) := by decide +kernel
theorem dX10_isDrafted_151 : decode cX10_isDrafted 151 = .ok (.iand, 1) := by decide +kernel
theorem dX10_isDrafted_152 : decode cX10_isDrafted 152 = .ok (.ifCond .ne 7, 3) := by decide +kernel
theorem dX10_isDrafted_155 : decode cX10_isDrafted 155 = .ok (.iconst 1, 1) := by decide +kernel
theorem dX10_isDrafted_156 : decode cX10_isDrafted 156 = .ok (.goto 4, 3) := by decide +kernel
theorem dX10_isDrafted_159 : decode cX10_isDrafted 159 = .ok (.iconst 0, 1) := by decide +kernel
theorem dX10_isDrafted_160 : decode cX10_isDrafted 160 = .ok (.ireturn, 1) := by decide +kernel
theorem dX10_add_0 : decode cX10_add 0 = .ok (.aload_n 0, 1) := by decide +kernel
theorem dX10_add_1 : decode cX10_add 1 = .ok (.iconst 0, 1) := by decide +kernel
theorem dX10_add_2 : decode cX10_add 2 = .ok (.putfield 177, 3) := by decide +kernel
theorem dX10_add_5 : decode cX10_add 5 = .ok (.aload_n 0, 1) := by decide +kernel
theorem dX10_add_6 : decode cX10_add 6 = .ok (.iload_n 1, 1) := by decide +kernel
theorem dX10_add_7 : decode cX10_add 7 = .ok (.iload_n 2, 1) := by decide +kernel
theorem dX10_add_8 : decode cX10_add 8 = .ok (.invokevirtual 265, 3) := by decide +kernel
theorem dX10_add_11 : decode cX10_add 11 = .ok (.ifCond .eq 11, 3) := by decide +kernel
theorem dX10_add_14 : decode cX10_add 14 = .ok (.aload_n 0, 1) := by decide +kernel
theorem dX10_add_15 : decode cX10_add 15 = .ok (.iload_n 3, 1) := by decide +kernel
theorem dX10_add_16 : decode cX10_add 16 = .ok (.invokevirtual 268, 3) := by decide +kernel
theorem dX10_add_19 : decode cX10_add 19 = .ok (.ifCond .ne 9, 3) := by decide +kernel
theorem dX10_add_22 : decode cX10_add 22 = .ok (.aload_n 0, 1) := by decide +kernel
theorem dX10_add_23 : decode cX10_add 23 = .ok (.iconst 1, 1) := by decide +kernel
theorem dX10_add_24 : decode cX10_add 24 = .ok (.invokevirtual 246, 3) := by decide +kernel
theorem dX10_add_27 : decode cX10_add 27 = .ok (.ireturn, 1) := by decide +kernel
theorem dX10_add_28 : decode cX10_add 28 = .ok (.iload 4, 2) := by decide +kernel
theorem dX10_add_30 : decode cX10_add 30 = .ok (.iconst 0, 1) := by decide +kernel
theorem dX10_add_31 : decode cX10_add 31 = .ok (.bipush 99, 2) := by decide +kernel
theorem dX10_add_33 : decode cX10_add 33 = .ok (.invokestatic 180, 3) := by decide +kernel
theorem dX10_add_36 : decode cX10_add 36 = .ok (.ifCond .ne 9, 3) := by decide +kernel
theorem dX10_add_39 : decode cX10_add 39 = .ok (.aload_n 0, 1) := by decide +kernel
theorem dX10_add_40 : decode cX10_add 40 = .ok (.iconst 2, 1) := by decide +kernel
theorem dX10_add_41 : decode cX10_add 41 = .ok (.invokevirtual 246, 3) := by decide +kernel
theorem dX10_add_44 : decode cX10_add 44 = .ok (.ireturn, 1) := by decide +kernel
theorem dX10_add_45 : decode cX10_add 45 = .ok (.aload_n 0, 1) := by decide +kernel
theorem dX10_add_46 : decode cX10_add 46 = .ok (.getfield 56, 3) := by decide +kernel
theorem dX10_add_49 : decode cX10_add 49 = .ok (.bipush 48, 2) := by decide +kernel
theorem dX10_add_51 : decode cX10_add 51 = .ok (.if_icmp .eq 38, 3) := by decide +kernel
theorem dX10_add_54 : decode cX10_add 54 = .ok (.aload_n 0, 1) := by decide +kernel
theorem dX10_add_55 : decode cX10_add 55 = .ok (.invokevirtual 271, 3) := by decide +kernel
theorem dX10_add_58 : decode cX10_add 58 = .ok (.ifCond .ne 31, 3) := by decide +kernel
theorem dX10_add_61 : decode cX10_add 61 = .ok (.aload_n 0, 1) := by decide +kernel
theorem dX10_add_62 : decode cX10_add 62 = .ok (.iload_n 1, 1) := by decide +kernel
theorem dX10_add_63 : decode cX10_add 63 = .ok (.iload_n 2, 1) := by decide +kernel
theorem dX10_add_64 : decode cX10_add 64 = .ok (.invokevirtual 275, 3) := by decide +kernel
theorem dX10_add_67 : decode cX10_add 67 = .ok (.ifCond .eq 22, 3) := by decide +kernel
theorem dX10_add_70 : decode cX10_add 70 = .ok (.aload_n 0, 1) := by decide +kernel
theorem dX10_add_71 : decode cX10_add 71 = .ok (.iload_n 2, 1) := by decide +kernel
theorem dX10_add_72 : decode cX10_add 72 = .ok (.iconst (-1), 1) := by decide +kernel
theorem dX10_add_73 : decode cX10_add 73 = .ok (.iload 4, 2) := by decide +kernel
theorem dX10_add_75 : decode cX10_add 75 = .ok (.invokevirtual 278, 3) := by decide +kernel
theorem dX10_add_78 : decode cX10_add 78 = .ok (.ifCond .ne 11, 3) := by decide +kernel
theorem dX10_add_81 : decode cX10_add 81 = .ok (.aload_n 0, 1) := by decide +kernel
theorem dX10_add_82 : decode cX10_add 82 = .ok (.iload_n 3, 1) := by decide +kernel
theorem dX10_add_83 : decode cX10_add 83 = .ok (.invokevirtual 281, 3) := by decide +kernel
theorem dX10_add_86 : decode cX10_add 86 = .ok (.ifCond .ne 9, 3) := by decide +kernel
theorem dX10_add_89 : decode cX10_add 89 = .ok (.aload_n 0, 1) := by decide +kernel
theorem dX10_add_90 : decode cX10_add 90 = .ok (.iconst 3, 1) := by decide +kernel
theorem dX10_add_91 : decode cX10_add 91 = .ok (.invokevirtual 246, 3) := by decide +kernel
theorem dX10_add_94 : decode cX10_add 94 = .ok (.ireturn, 1) := by decide +kernel
theorem dX10_add_95 : decode cX10_add 95 = .ok (.aload_n 0, 1) := by decide +kernel
theorem dX10_add_96 : decode cX10_add 96 = .ok (.iload_n 1, 1) := by decide +kernel
theorem dX10_add_97 : decode cX10_add 97 = .ok (.iconst 0, 1) := by decide +kernel
theorem dX10_add_98 : decode cX10_add 98 = .ok (.aload_n 0, 1) := by decide +kernel
theorem dX10_add_99 : decode cX10_add 99 = .ok (.getfield 56, 3) := by decide +kernel
theorem dX10_add_102 : decode cX10_add 102 = .ok (.iload_n 3, 1) := by decide +kernel
theorem dX10_add_103 : decode cX10_add 103 = .ok (.iload_n 2, 1) := by decide +kernel
theorem dX10_add_104 : decode cX10_add 104 = .ok (.iload 4, 2) := by decide +kernel
theorem dX10_add_106 : decode cX10_add 106 = .ok (.invokevirtual 284, 3) := by decide +kernel
theorem dX10_add_109 : decode cX10_add 109 = .ok (.istore 5, 2) := by decide +kernel
theorem dX10_add_111 : decode cX10_add 111 = .ok (.aload_n 0, 1) := by decide +kernel
theorem dX10_add_112 : decode cX10_add 112 = .ok (.getfield 84, 3) := by decide +kernel
theorem dX10_add_115 : decode cX10_add 115 = .ok (.iload 5, 2) := by decide +kernel
theorem dX10_add_117 : decode cX10_add 117 = .ok (.aload_n 0, 1) := by decide +kernel
theorem dX10_add_118 : decode cX10_add 118 = .ok (.getfield 288, 3) := by decide +kernel
theorem dX10_add_121 : decode cX10_add 121 = .ok (.iastore, 1) := by decide +kernel
theorem dX10_add_122 : decode cX10_add 122 = .ok (.iconst 0, 1) := by decide +kernel
theorem dX10_add_123 : decode cX10_add 123 = .ok (.istore 6, 2) := by decide +kernel
theorem dX10_add_125 : decode cX10_add 125 = .ok (.iload 6, 2) := by decide +kernel
theorem dX10_add_127 : decode cX10_add 127 = .ok (.aload_n 0, 1) := by decide +kernel
theorem dX10_add_128 : decode cX10_add 128 = .ok (.getfield 256, 3) := by decide +kernel
theorem dX10_add_131 : decode cX10_add 131 = .ok (.if_icmp .ge 51, 3) := by decide +kernel
theorem dX10_add_134 : decode cX10_add 134 = .ok (.aload_n 0, 1) := by decide +kernel
theorem dX10_add_135 : decode cX10_add 135 = .ok (.getfield 90, 3) := by decide +kernel
theorem dX10_add_138 : decode cX10_add 138 = .ok (.aload_n 0, 1) := by decide +kernel
theorem dX10_add_139 : decode cX10_add 139 = .ok (.getfield 288, 3) := by decide +kernel
theorem dX10_add_142 : decode cX10_add 142 = .ok (.aload_n 0, 1) := by decide +kernel
theorem dX10_add_143 : decode cX10_add 143 = .ok (.getfield 26, 3) := by decide +kernel
theorem dX10_add_146 : decode cX10_add 146 = .ok (.iload 6, 2) := by decide +kernel
theorem dX10_add_148 : decode cX10_add 148 = .ok (.iaload, 1) := by decide +kernel
theorem dX10_add_149 : decode cX10_add 149 = .ok (.iastore, 1) := by decide +kernel
theorem dX10_add_150 : decode cX10_add 150 = .ok (.aload_n 0, 1) := by decide +kernel
theorem dX10_add_151 : decode cX10_add 151 = .ok (.getfield 93, 3) := by decide +kernel
theorem dX10_add_154 : decode cX10_add 154 = .ok (.aload_n 0, 1) := by decide +kernel
theorem dX10_add_155 : decode cX10_add 155 = .ok (.getfield 288, 3) := by decide +kernel
theorem dX10_add_158 : decode cX10_add 158 = .ok (.aload_n 0, 1) := by decide +kernel
theorem dX10_add_159 : decode cX10_add 159 = .ok (.getfield 29, 3) := by decide +kernel
theorem dX10_add_162 : decode cX10_add 162 = .ok (.iload 6, 2) := by decide +kernel
theorem dX10_add_164 : decode cX10_add 164 = .ok (.iaload, 1) := by decide +kernel
theorem dX10_add_165 : decode cX10_add 165 = .ok (.iastore, 1) := by decide +kernel
theorem dX10_add_166 : decode cX10_add 166 = .ok (.aload_n 0, 1) := by decide +kernel
theorem dX10_add_167 : decode cX10_add 167 = .ok (.dup, 1) := by decide +kernel
theorem dX10_add_168 : decode cX10_add 168 = .ok (.getfield 288, 3) := by decide +kernel
theorem dX10_add_171 : decode cX10_add 171 = .ok (.iconst 1, 1) := by decide +kernel
theorem dX10_add_172 : decode cX10_add 172 = .ok (.iadd, 1) := by decide +kernel
theorem dX10_add_173 : decode cX10_add 173 = .ok (.putfield 288, 3) := by decide +kernel
theorem dX10_add_176 : decode cX10_add 176 = .ok (.iinc 6 1, 3) := by decide +kernel
theorem dX10_add_179 : decode cX10_add 179 = .ok (.goto (-54), 3) := by decide +kernel
theorem dX10_add_182 : decode cX10_add 182 = .ok (.aload_n 0, 1) := by decide +kernel
theorem dX10_add_183 : decode cX10_add 183 = .ok (.getfield 87, 3) := by decide +kernel
theorem dX10_add_186 : decode cX10_add 186 = .ok (.iload 5, 2) := by decide +kernel
theorem dX10_add_188 : decode cX10_add 188 = .ok (.aload_n 0, 1) := by decide +kernel
theorem dX10_add_189 : decode cX10_add 189 = .ok (.getfield 288, 3) := by decide +kernel
theorem dX10_add_192 : decode cX10_add 192 = .ok (.iastore, 1) := by decide +kernel
theorem dX10_add_193 : decode cX10_add 193 = .ok (.aload_n 0, 1) := by decide +kernel
theorem dX10_add_194 : decode cX10_add 194 = .ok (.iconst 0, 1) := by decide +kernel
theorem dX10_add_195 : decode cX10_add 195 = .ok (.putfield 256, 3) := by decide +kernel
theorem dX10_add_198 : decode cX10_add 198 = .ok (.aload_n 0, 1) := by decide +kernel
theorem dX10_add_199 : decode cX10_add 199 = .ok (.dup, 1) := by decide +kernel
theorem dX10_add_200 : decode cX10_add 200 = .ok (.getfield 56, 3) := by decide +kernel
theorem dX10_add_203 : decode cX10_add 203 = .ok (.iconst 1, 1) := by decide +kernel
theorem dX10_add_204 : decode cX10_add 204 = .ok (.iadd, 1) := by decide +kernel
theorem dX10_add_205 : decode cX10_add 205 = .ok (.putfield 56, 3) := by decide +kernel
theorem dX10_add_208 : decode cX10_add 208 = .ok (.aload_n 0, 1) := by decide +kernel
theorem dX10_add_209 : decode cX10_add 209 = .ok (.getfield 56, 3) := by decide +kernel
theorem dX10_add_212 : decode cX10_add 212 = .ok (.iconst 1, 1) := by decide +kernel
theorem dX10_add_213 : decode cX10_add 213 = .ok (.isub, 1) := by decide +kernel
theorem dX10_add_214 : decode cX10_add 214 = .ok (.ireturn, 1) := by decide +kernel
theorem dX10_refuses_0 : decode cX10_refuses 0 = .ok (.aload_n 0, 1) := by decide +kernel
theorem dX10_refuses_1 : decode cX10_refuses 1 = .ok (.iload_n 1, 1) := by decide +kernel
theorem dX10_refuses_2 : decode cX10_refuses 2 = .ok (.iload_n 2, 1) := by decide +kernel
theorem dX10_refuses_3 : decode cX10_refuses 3 = .ok (.invokevirtual 265, 3) := by decide +kernel
theorem dX10_refuses_6 : decode cX10_refuses 6 = .ok (.ifCond .eq 15, 3) := by decide +kernel
theorem dX10_refuses_9 : decode cX10_refuses 9 = .ok (.iload_n 2, 1) := by decide +kernel
theorem dX10_refuses_10 : decode cX10_refuses 10 = .ok (.ifCond .eq 11, 3) := by decide +kernel
theorem dX10_refuses_13 : decode cX10_refuses 13 = .ok (.aload_n 0, 1) := by decide +kernel
theorem dX10_refuses_14 : decode cX10_refuses 14 = .ok (.iload_n 3, 1) := by decide +kernel
theorem dX10_refuses_15 : decode cX10_refuses 15 = .ok (.invokevirtual 250, 3) := by decide +kernel
theorem dX10_refuses_18 : decode cX10_refuses 18 = .ok (.ifCond .ne 5, 3) := by decide +kernel
theorem dX10_refuses_21 : decode cX10_refuses 21 = .ok (.iconst 1, 1) := by decide +kernel
theorem dX10_refuses_22 : decode cX10_refuses 22 = .ok (.ireturn, 1) := by decide +kernel
theorem dX10_refuses_23 : decode cX10_refuses 23 = .ok (.iload 4, 2) := by decide +kernel
theorem dX10_refuses_25 : decode cX10_refuses 25 = .ok (.invokestatic 253, 3) := by decide +kernel
theorem dX10_refuses_28 : decode cX10_refuses 28 = .ok (.ifCond .ne 7, 3) := by decide +kernel
theorem dX10_refuses_31 : decode cX10_refuses 31 = .ok (.iconst 2, 1) := by decide +kernel
theorem dX10_refuses_32 : decode cX10_refuses 32 = .ok (.goto 24, 3) := by decide +kernel
theorem dX10_refuses_35 : decode cX10_refuses 35 = .ok (.aload_n 0, 1) := by decide +kernel
theorem dX10_refuses_36 : decode cX10_refuses 36 = .ok (.invokevirtual 271, 3) := by decide +kernel
theorem dX10_refuses_39 : decode cX10_refuses 39 = .ok (.ifCond .ne 12, 3) := by decide +kernel
theorem dX10_refuses_42 : decode cX10_refuses 42 = .ok (.aload_n 0, 1) := by decide +kernel
theorem dX10_refuses_43 : decode cX10_refuses 43 = .ok (.iload_n 1, 1) := by decide +kernel
theorem dX10_refuses_44 : decode cX10_refuses 44 = .ok (.iload_n 2, 1) := by decide +kernel
theorem dX10_refuses_45 : decode cX10_refuses 45 = .ok (.invokevirtual 275, 3) := by decide +kernel
theorem dX10_refuses_48 : decode cX10_refuses 48 = .ok (.ifCond .ne 7, 3) := by decide +kernel
theorem dX10_refuses_51 : decode cX10_refuses 51 = .ok (.iconst 3, 1) := by decide +kernel
theorem dX10_refuses_52 : decode cX10_refuses 52 = .ok (.goto 4, 3) := by decide +kernel
theorem dX10_refuses_55 : decode cX10_refuses 55 = .ok (.iconst 0, 1) := by decide +kernel
theorem dX10_refuses_56 : decode cX10_refuses 56 = .ok (.ireturn, 1) := by decide +kernel
theorem dX10_valuesBehind_0 : decode cX10_valuesBehind 0 = .ok (.aload_n 0, 1) := by decide +kernel
theorem dX10_valuesBehind_1 : decode cX10_valuesBehind 1 = .ok (.iload_n 1, 1) := by decide +kernel
theorem dX10_valuesBehind_2 : decode cX10_valuesBehind 2 = .ok (.invokevirtual 229, 3) := by decide +kernel
theorem dX10_valuesBehind_5 : decode cX10_valuesBehind 5 = .ok (.aload_n 0, 1) := by decide +kernel
theorem dX10_valuesBehind_6 : decode cX10_valuesBehind 6 = .ok (.iload_n 2, 1) := by decide +kernel
theorem dX10_valuesBehind_7 : decode cX10_valuesBehind 7 = .ok (.iload_n 3, 1) := by decide +kernel
theorem dX10_valuesBehind_8 : decode cX10_valuesBehind 8 = .ok (.invokevirtual 291, 3) := by decide +kernel
theorem dX10_valuesBehind_11 : decode cX10_valuesBehind 11 = .ok (.ireturn, 1) := by decide +kernel
theorem dX10_addValue_0 : decode cX10_addValue 0 = .ok (.aload_n 0, 1) := by decide +kernel
theorem dX10_addValue_1 : decode cX10_addValue 1 = .ok (.aload_n 0, 1) := by decide +kernel
theorem dX10_addValue_2 : decode cX10_addValue 2 = .ok (.iload_n 1, 1) := by decide +kernel
theorem dX10_addValue_3 : decode cX10_addValue 3 = .ok (.iload_n 2, 1) := by decide +kernel
theorem dX10_addValue_4 : decode cX10_addValue 4 = .ok (.iload_n 3, 1) := by decide +kernel
theorem dX10_addValue_5 : decode cX10_addValue 5 = .ok (.iload 4, 2) := by decide +kernel
theorem dX10_addValue_7 : decode cX10_addValue 7 = .ok (.invokevirtual 294, 3) := by decide +kernel
theorem dX10_addValue_10 : decode cX10_addValue 10 = .ok (.putfield 177, 3) := by decide +kernel
theorem dX10_addValue_13 : decode cX10_addValue 13 = .ok (.aload_n 0, 1) := by decide +kernel
theorem dX10_addValue_14 : decode cX10_addValue 14 = .ok (.getfield 177, 3) := by decide +kernel
theorem dX10_addValue_17 : decode cX10_addValue 17 = .ok (.ifCond .le 5, 3) := by decide +kernel
theorem dX10_addValue_20 : decode cX10_addValue 20 = .ok (.iconst 0, 1) := by decide +kernel
theorem dX10_addValue_21 : decode cX10_addValue 21 = .ok (.ireturn, 1) := by decide +kernel
theorem dX10_addValue_22 : decode cX10_addValue 22 = .ok (.aload_n 0, 1) := by decide +kernel
theorem dX10_addValue_23 : decode cX10_addValue 23 = .ok (.aload_n 0, 1) := by decide +kernel
theorem dX10_addValue_24 : decode cX10_addValue 24 = .ok (.getfield 108, 3) := by decide +kernel
theorem dX10_addValue_27 : decode cX10_addValue 27 = .ok (.iload_n 2, 1) := by decide +kernel
theorem dX10_addValue_28 : decode cX10_addValue 28 = .ok (.iaload, 1) := by decide +kernel
theorem dX10_addValue_29 : decode cX10_addValue 29 = .ok (.invokevirtual 259, 3) := by decide +kernel
theorem dX10_addValue_32 : decode cX10_addValue 32 = .ok (.iload_n 3, 1) := by decide +kernel
theorem dX10_addValue_33 : decode cX10_addValue 33 = .ok (.ishr, 1) := by decide +kernel
theorem dX10_addValue_34 : decode cX10_addValue 34 = .ok (.iconst 1, 1) := by decide +kernel
theorem dX10_addValue_35 : decode cX10_addValue 35 = .ok (.iand, 1) := by decide +kernel
theorem dX10_addValue_36 : decode cX10_addValue 36 = .ok (.ifCond .eq 32, 3) := by decide +kernel
theorem dX10_addValue_39 : decode cX10_addValue 39 = .ok (.aload_n 0, 1) := by decide +kernel
theorem dX10_addValue_40 : decode cX10_addValue 40 = .ok (.iload_n 2, 1) := by decide +kernel
theorem dX10_addValue_41 : decode cX10_addValue 41 = .ok (.iload_n 3, 1) := by decide +kernel
theorem dX10_addValue_42 : decode cX10_addValue 42 = .ok (.iload 4, 2) := by decide +kernel
theorem dX10_addValue_44 : decode cX10_addValue 44 = .ok (.invokevirtual 233, 3) := by decide +kernel
theorem dX10_addValue_47 : decode cX10_addValue 47 = .ok (.ifCond .ne 21, 3) := by decide +kernel
theorem dX10_addValue_50 : decode cX10_addValue 50 = .ok (.aload_n 0, 1) := by decide +kernel
theorem dX10_addValue_51 : decode cX10_addValue 51 = .ok (.getfield 7, 3) := by decide +kernel
theorem dX10_addValue_54 : decode cX10_addValue 54 = .ok (.iload_n 3, 1) := by decide +kernel
theorem dX10_addValue_55 : decode cX10_addValue 55 = .ok (.baload, 1) := by decide +kernel
theorem dX10_addValue_56 : decode cX10_addValue 56 = .ok (.ifCond .eq 18, 3) := by decide +kernel
theorem dX10_addValue_59 : decode cX10_addValue 59 = .ok (.aload_n 0, 1) := by decide +kernel
theorem dX10_addValue_60 : decode cX10_addValue 60 = .ok (.iload_n 2, 1) := by decide +kernel
theorem dX10_addValue_61 : decode cX10_addValue 61 = .ok (.iload_n 3, 1) := by decide +kernel
theorem dX10_addValue_62 : decode cX10_addValue 62 = .ok (.invokevirtual 291, 3) := by decide +kernel
theorem dX10_addValue_65 : decode cX10_addValue 65 = .ok (.ifCond .le 9, 3) := by decide +kernel
theorem dX10_addValue_68 : decode cX10_addValue 68 = .ok (.aload_n 0, 1) := by decide +kernel
theorem dX10_addValue_69 : decode cX10_addValue 69 = .ok (.iconst 3, 1) := by decide +kernel
theorem dX10_addValue_70 : decode cX10_addValue 70 = .ok (.invokevirtual 246, 3) := by decide +kernel
theorem dX10_addValue_73 : decode cX10_addValue 73 = .ok (.ireturn, 1) := by decide +kernel
theorem dX10_addValue_74 : decode cX10_addValue 74 = .ok (.aload_n 0, 1) := by decide +kernel
theorem dX10_addValue_75 : decode cX10_addValue 75 = .ok (.iload_n 1, 1) := by decide +kernel
theorem dX10_addValue_76 : decode cX10_addValue 76 = .ok (.iconst 1, 1) := by decide +kernel
theorem dX10_addValue_77 : decode cX10_addValue 77 = .ok (.iload_n 2, 1) := by decide +kernel
theorem dX10_addValue_78 : decode cX10_addValue 78 = .ok (.iload_n 3, 1) := by decide +kernel
theorem dX10_addValue_79 : decode cX10_addValue 79 = .ok (.iload 4, 2) := by decide +kernel
theorem dX10_addValue_81 : decode cX10_addValue 81 = .ok (.iconst 0, 1) := by decide +kernel
theorem dX10_addValue_82 : decode cX10_addValue 82 = .ok (.invokevirtual 284, 3) := by decide +kernel
theorem dX10_addValue_85 : decode cX10_addValue 85 = .ok (.istore 5, 2) := by decide +kernel
theorem dX10_addValue_87 : decode cX10_addValue 87 = .ok (.aload_n 0, 1) := by decide +kernel
theorem dX10_addValue_88 : decode cX10_addValue 88 = .ok (.iload_n 1, 1) := by decide +kernel
theorem dX10_addValue_89 : decode cX10_addValue 89 = .ok (.iload_n 2, 1) := by decide +kernel
theorem dX10_addValue_90 : decode cX10_addValue 90 = .ok (.iload_n 3, 1) := by decide +kernel
theorem dX10_addValue_91 : decode cX10_addValue 91 = .ok (.invokevirtual 297, 3) := by decide +kernel
theorem dX10_addValue_94 : decode cX10_addValue 94 = .ok (.ireturn, 1) := by decide +kernel
theorem dX10_removeValue_0 : decode cX10_removeValue 0 = .ok (.aload_n 0, 1) := by decide +kernel
theorem dX10_removeValue_1 : decode cX10_removeValue 1 = .ok (.aload_n 0, 1) := by decide +kernel
theorem dX10_removeValue_2 : decode cX10_removeValue 2 = .ok (.iload_n 1, 1) := by decide +kernel
theorem dX10_removeValue_3 : decode cX10_removeValue 3 = .ok (.iload_n 2, 1) := by decide +kernel
theorem dX10_removeValue_4 : decode cX10_removeValue 4 = .ok (.iload_n 3, 1) := by decide +kernel
theorem dX10_removeValue_5 : decode cX10_removeValue 5 = .ok (.iload 4, 2) := by decide +kernel
theorem dX10_removeValue_7 : decode cX10_removeValue 7 = .ok (.invokevirtual 294, 3) := by decide +kernel
theorem dX10_removeValue_10 : decode cX10_removeValue 10 = .ok (.putfield 177, 3) := by decide +kernel
theorem dX10_removeValue_13 : decode cX10_removeValue 13 = .ok (.aload_n 0, 1) := by decide +kernel
theorem dX10_removeValue_14 : decode cX10_removeValue 14 = .ok (.getfield 177, 3) := by decide +kernel
theorem dX10_removeValue_17 : decode cX10_removeValue 17 = .ok (.ifCond .le 5, 3) := by decide +kernel
theorem dX10_removeValue_20 : decode cX10_removeValue 20 = .ok (.iconst 0, 1) := by decide +kernel
theorem dX10_removeValue_21 : decode cX10_removeValue 21 = .ok (.ireturn, 1) := by decide +kernel
theorem dX10_removeValue_22 : decode cX10_removeValue 22 = .ok (.aload_n 0, 1) := by decide +kernel
theorem dX10_removeValue_23 : decode cX10_removeValue 23 = .ok (.aload_n 0, 1) := by decide +kernel
theorem dX10_removeValue_24 : decode cX10_removeValue 24 = .ok (.getfield 108, 3) := by decide +kernel
theorem dX10_removeValue_27 : decode cX10_removeValue 27 = .ok (.iload_n 2, 1) := by decide +kernel
theorem dX10_removeValue_28 : decode cX10_removeValue 28 = .ok (.iaload, 1) := by decide +kernel
theorem dX10_removeValue_29 : decode cX10_removeValue 29 = .ok (.invokevirtual 262, 3) := by decide +kernel
theorem dX10_removeValue_32 : decode cX10_removeValue 32 = .ok (.iload_n 3, 1) := by decide +kernel
theorem dX10_removeValue_33 : decode cX10_removeValue 33 = .ok (.ishr, 1) := by decide +kernel
theorem dX10_removeValue_34 : decode cX10_removeValue 34 = .ok (.iconst 1, 1) := by decide +kernel
theorem dX10_removeValue_35 : decode cX10_removeValue 35 = .ok (.iand, 1) := by decide +kernel
theorem dX10_removeValue_36 : decode cX10_removeValue 36 = .ok (.iconst 1, 1) := by decide +kernel
theorem dX10_removeValue_37 : decode cX10_removeValue 37 = .ok (.if_icmp .ne 17, 3) := by decide +kernel
theorem dX10_removeValue_40 : decode cX10_removeValue 40 = .ok (.aload_n 0, 1) := by decide +kernel
theorem dX10_removeValue_41 : decode cX10_removeValue 41 = .ok (.iload_n 2, 1) := by decide +kernel
theorem dX10_removeValue_42 : decode cX10_removeValue 42 = .ok (.iload_n 3, 1) := by decide +kernel
theorem dX10_removeValue_43 : decode cX10_removeValue 43 = .ok (.invokevirtual 291, 3) := by decide +kernel
theorem dX10_removeValue_46 : decode cX10_removeValue 46 = .ok (.iconst 2, 1) := by decide +kernel
theorem dX10_removeValue_47 : decode cX10_removeValue 47 = .ok (.if_icmp .ge 7, 3) := by decide +kernel
theorem dX10_removeValue_50 : decode cX10_removeValue 50 = .ok (.iconst 1, 1) := by decide +kernel
theorem dX10_removeValue_51 : decode cX10_removeValue 51 = .ok (.goto 4, 3) := by decide +kernel
theorem dX10_removeValue_54 : decode cX10_removeValue 54 = .ok (.iconst 0, 1) := by decide +kernel
theorem dX10_removeValue_55 : decode cX10_removeValue 55 = .ok (.istore 5, 2) := by decide +kernel
theorem dX10_removeValue_57 : decode cX10_removeValue 57 = .ok (.aload_n 0, 1) := by decide +kernel
theorem dX10_removeValue_58 : decode cX10_removeValue 58 = .ok (.iload_n 2, 1) := by decide +kernel
theorem dX10_removeValue_59 : decode cX10_removeValue 59 = .ok (.iload_n 3, 1) := by decide +kernel
theorem dX10_removeValue_60 : decode cX10_removeValue 60 = .ok (.iload 4, 2) := by decide +kernel
theorem dX10_removeValue_62 : decode cX10_removeValue 62 = .ok (.invokevirtual 233, 3) := by decide +kernel
theorem dX10_removeValue_65 : decode cX10_removeValue 65 = .ok (.ifCond .eq 8, 3) := by decide +kernel
theorem dX10_removeValue_68 : decode cX10_removeValue 68 = .ok (.iload 5, 2) := by decide +kernel
theorem dX10_removeValue_70 : decode cX10_removeValue 70 = .ok (.ifCond .eq 9, 3) := by decide +kernel
theorem dX10_removeValue_73 : decode cX10_removeValue 73 = .ok (.aload_n 0, 1) := by decide +kernel
theorem dX10_removeValue_74 : decode cX10_removeValue 74 = .ok (.iconst 3, 1) := by decide +kernel
theorem dX10_removeValue_75 : decode cX10_removeValue 75 = .ok (.invokevirtual 246, 3) := by decide +kernel
theorem dX10_removeValue_78 : decode cX10_removeValue 78 = .ok (.ireturn, 1) := by decide +kernel
theorem dX10_removeValue_79 : decode cX10_removeValue 79 = .ok (.aload_n 0, 1) := by decide +kernel
theorem dX10_removeValue_80 : decode cX10_removeValue 80 = .ok (.iload_n 1, 1) := by decide +kernel
theorem dX10_removeValue_81 : decode cX10_removeValue 81 = .ok (.iconst 2, 1) := by decide +kernel
theorem dX10_removeValue_82 : decode cX10_removeValue 82 = .ok (.iload_n 2, 1) := by decide +kernel
theorem dX10_removeValue_83 : decode cX10_removeValue 83 = .ok (.iload_n 3, 1) := by decide +kernel
theorem dX10_removeValue_84 : decode cX10_removeValue 84 = .ok (.iload 4, 2) := by decide +kernel
theorem dX10_removeValue_86 : decode cX10_removeValue 86 = .ok (.iconst 0, 1) := by decide +kernel
theorem dX10_removeValue_87 : decode cX10_removeValue 87 = .ok (.invokevirtual 284, 3) := by decide +kernel
theorem dX10_removeValue_90 : decode cX10_removeValue 90 = .ok (.istore 6, 2) := by decide +kernel
theorem dX10_removeValue_92 : decode cX10_removeValue 92 = .ok (.aload_n 0, 1) := by decide +kernel
theorem dX10_removeValue_93 : decode cX10_removeValue 93 = .ok (.iload_n 1, 1) := by decide +kernel
theorem dX10_removeValue_94 : decode cX10_removeValue 94 = .ok (.iload_n 2, 1) := by decide +kernel
theorem dX10_removeValue_95 : decode cX10_removeValue 95 = .ok (.iload_n 3, 1) := by decide +kernel
theorem dX10_removeValue_96 : decode cX10_removeValue 96 = .ok (.invokevirtual 297, 3) := by decide +kernel
theorem dX10_removeValue_99 : decode cX10_removeValue 99 = .ok (.ireturn, 1) := by decide +kernel
theorem dX10_replace_0 : decode cX10_replace 0 = .ok (.aload_n 0, 1) := by decide +kernel
theorem dX10_replace_1 : decode cX10_replace 1 = .ok (.aload_n 0, 1) := by decide +kernel
theorem dX10_replace_2 : decode cX10_replace 2 = .ok (.iload_n 1, 1) := by decide +kernel
theorem dX10_replace_3 : decode cX10_replace 3 = .ok (.iload_n 2, 1) := by decide +kernel
theorem dX10_replace_4 : decode cX10_replace 4 = .ok (.iload_n 3, 1) := by decide +kernel
theorem dX10_replace_5 : decode cX10_replace 5 = .ok (.iload 4, 2) := by decide +kernel
theorem dX10_replace_7 : decode cX10_replace 7 = .ok (.invokevirtual 294, 3) := by decide +kernel
theorem dX10_replace_10 : decode cX10_replace 10 = .ok (.putfield 177, 3) := by decide +kernel
theorem dX10_replace_13 : decode cX10_replace 13 = .ok (.aload_n 0, 1) := by decide +kernel
theorem dX10_replace_14 : decode cX10_replace 14 = .ok (.getfield 177, 3) := by decide +kernel
theorem dX10_replace_17 : decode cX10_replace 17 = .ok (.ifCond .le 5, 3) := by decide +kernel
theorem dX10_replace_20 : decode cX10_replace 20 = .ok (.iconst 0, 1) := by decide +kernel
theorem dX10_replace_21 : decode cX10_replace 21 = .ok (.ireturn, 1) := by decide +kernel
theorem dX10_replace_22 : decode cX10_replace 22 = .ok (.aload_n 0, 1) := by decide +kernel
theorem dX10_replace_23 : decode cX10_replace 23 = .ok (.aload_n 0, 1) := by decide +kernel
theorem dX10_replace_24 : decode cX10_replace 24 = .ok (.getfield 108, 3) := by decide +kernel
theorem dX10_replace_27 : decode cX10_replace 27 = .ok (.iload_n 2, 1) := by decide +kernel
theorem dX10_replace_28 : decode cX10_replace 28 = .ok (.iaload, 1) := by decide +kernel
theorem dX10_replace_29 : decode cX10_replace 29 = .ok (.invokevirtual 259, 3) := by decide +kernel
theorem dX10_replace_32 : decode cX10_replace 32 = .ok (.iload_n 3, 1) := by decide +kernel
theorem dX10_replace_33 : decode cX10_replace 33 = .ok (.ishr, 1) := by decide +kernel
theorem dX10_replace_34 : decode cX10_replace 34 = .ok (.iconst 1, 1) := by decide +kernel
theorem dX10_replace_35 : decode cX10_replace 35 = .ok (.iand, 1) := by decide +kernel
theorem dX10_replace_36 : decode cX10_replace 36 = .ok (.ifCond .ne 9, 3) := by decide +kernel
theorem dX10_replace_39 : decode cX10_replace 39 = .ok (.aload_n 0, 1) := by decide +kernel
theorem dX10_replace_40 : decode cX10_replace 40 = .ok (.iconst 3, 1) := by decide +kernel
theorem dX10_replace_41 : decode cX10_replace 41 = .ok (.invokevirtual 246, 3) := by decide +kernel
theorem dX10_replace_44 : decode cX10_replace 44 = .ok (.ireturn, 1) := by decide +kernel
theorem dX10_replace_45 : decode cX10_replace 45 = .ok (.aload_n 0, 1) := by decide +kernel
theorem dX10_replace_46 : decode cX10_replace 46 = .ok (.iload_n 2, 1) := by decide +kernel
theorem dX10_replace_47 : decode cX10_replace 47 = .ok (.iload_n 3, 1) := by decide +kernel
theorem dX10_replace_48 : decode cX10_replace 48 = .ok (.invokevirtual 291, 3) := by decide +kernel
theorem dX10_replace_51 : decode cX10_replace 51 = .ok (.istore 5, 2) := by decide +kernel
theorem dX10_replace_53 : decode cX10_replace 53 = .ok (.aload_n 0, 1) := by decide +kernel
theorem dX10_replace_54 : decode cX10_replace 54 = .ok (.iload_n 1, 1) := by decide +kernel
theorem dX10_replace_55 : decode cX10_replace 55 = .ok (.iconst 3, 1) := by decide +kernel
theorem dX10_replace_56 : decode cX10_replace 56 = .ok (.iload_n 2, 1) := by decide +kernel
theorem dX10_replace_57 : decode cX10_replace 57 = .ok (.iload_n 3, 1) := by decide +kernel
theorem dX10_replace_58 : decode cX10_replace 58 = .ok (.iload 4, 2) := by decide +kernel
theorem dX10_replace_60 : decode cX10_replace 60 = .ok (.iconst 0, 1) := by decide +kernel
theorem dX10_replace_61 : decode cX10_replace 61 = .ok (.invokevirtual 284, 3) := by decide +kernel
theorem dX10_replace_64 : decode cX10_replace 64 = .ok (.istore 6, 2) := by decide +kernel
theorem dX10_replace_66 : decode cX10_replace 66 = .ok (.iload 5, 2) := by decide +kernel
theorem dX10_replace_68 : decode cX10_replace 68 = .ok (.ireturn, 1) := by decide +kernel
theorem dX10_rename_0 : decode cX10_rename 0 = .ok (.aload_n 0, 1) := by decide +kernel
theorem dX10_rename_1 : decode cX10_rename 1 = .ok (.iconst 0, 1) := by decide +kernel
theorem dX10_rename_2 : decode cX10_rename 2 = .ok (.putfield 177, 3) := by decide +kernel
theorem dX10_rename_5 : decode cX10_rename 5 = .ok (.aload_n 0, 1) := by decide +kernel
theorem dX10_rename_6 : decode cX10_rename 6 = .ok (.iload_n 1, 1) := by decide +kernel
theorem dX10_rename_7 : decode cX10_rename 7 = .ok (.iload_n 2, 1) := by decide +kernel
theorem dX10_rename_8 : decode cX10_rename 8 = .ok (.invokevirtual 265, 3) := by decide +kernel
theorem dX10_rename_11 : decode cX10_rename 11 = .ok (.ifCond .eq 7, 3) := by decide +kernel
theorem dX10_rename_14 : decode cX10_rename 14 = .ok (.iload_n 2, 1) := by decide +kernel
theorem dX10_rename_15 : decode cX10_rename 15 = .ok (.ifCond .ne 9, 3) := by decide +kernel
theorem dX10_rename_18 : decode cX10_rename 18 = .ok (.aload_n 0, 1) := by decide +kernel
theorem dX10_rename_19 : decode cX10_rename 19 = .ok (.iconst 1, 1) := by decide +kernel
theorem dX10_rename_20 : decode cX10_rename 20 = .ok (.invokevirtual 246, 3) := by decide +kernel
theorem dX10_rename_23 : decode cX10_rename 23 = .ok (.ireturn, 1) := by decide +kernel
theorem dX10_rename_24 : decode cX10_rename 24 = .ok (.iload_n 3, 1) := by decide +kernel
theorem dX10_rename_25 : decode cX10_rename 25 = .ok (.iconst 0, 1) := by decide +kernel
theorem dX10_rename_26 : decode cX10_rename 26 = .ok (.bipush 99, 2) := by decide +kernel
theorem dX10_rename_28 : decode cX10_rename 28 = .ok (.invokestatic 180, 3) := by decide +kernel
theorem dX10_rename_31 : decode cX10_rename 31 = .ok (.ifCond .ne 9, 3) := by decide +kernel
theorem dX10_rename_34 : decode cX10_rename 34 = .ok (.aload_n 0, 1) := by decide +kernel
theorem dX10_rename_35 : decode cX10_rename 35 = .ok (.iconst 2, 1) := by decide +kernel
theorem dX10_rename_36 : decode cX10_rename 36 = .ok (.invokevirtual 246, 3) := by decide +kernel
theorem dX10_rename_39 : decode cX10_rename 39 = .ok (.ireturn, 1) := by decide +kernel
theorem dX10_rename_40 : decode cX10_rename 40 = .ok (.aload_n 0, 1) := by decide +kernel
theorem dX10_rename_41 : decode cX10_rename 41 = .ok (.invokevirtual 271, 3) := by decide +kernel
theorem dX10_rename_44 : decode cX10_rename 44 = .ok (.ifCond .ne 27, 3) := by decide +kernel
theorem dX10_rename_47 : decode cX10_rename 47 = .ok (.aload_n 0, 1) := by decide +kernel
theorem dX10_rename_48 : decode cX10_rename 48 = .ok (.iload_n 1, 1) := by decide +kernel
theorem dX10_rename_49 : decode cX10_rename 49 = .ok (.iload_n 2, 1) := by decide +kernel
theorem dX10_rename_50 : decode cX10_rename 50 = .ok (.invokevirtual 275, 3) := by decide +kernel
theorem dX10_rename_53 : decode cX10_rename 53 = .ok (.ifCond .eq 18, 3) := by decide +kernel
theorem dX10_rename_56 : decode cX10_rename 56 = .ok (.aload_n 0, 1) := by decide +kernel
theorem dX10_rename_57 : decode cX10_rename 57 = .ok (.aload_n 0, 1) := by decide +kernel
theorem dX10_rename_58 : decode cX10_rename 58 = .ok (.getfield 123, 3) := by decide +kernel
theorem dX10_rename_61 : decode cX10_rename 61 = .ok (.iload_n 2, 1) := by decide +kernel
theorem dX10_rename_62 : decode cX10_rename 62 = .ok (.iaload, 1) := by decide +kernel
theorem dX10_rename_63 : decode cX10_rename 63 = .ok (.iload_n 2, 1) := by decide +kernel
theorem dX10_rename_64 : decode cX10_rename 64 = .ok (.iload_n 3, 1) := by decide +kernel
theorem dX10_rename_65 : decode cX10_rename 65 = .ok (.invokevirtual 278, 3) := by decide +kernel
theorem dX10_rename_68 : decode cX10_rename 68 = .ok (.ifCond .eq 9, 3) := by decide +kernel
theorem dX10_rename_71 : decode cX10_rename 71 = .ok (.aload_n 0, 1) := by decide +kernel
theorem dX10_rename_72 : decode cX10_rename 72 = .ok (.iconst 3, 1) := by decide +kernel
theorem dX10_rename_73 : decode cX10_rename 73 = .ok (.invokevirtual 246, 3) := by decide +kernel
theorem dX10_rename_76 : decode cX10_rename 76 = .ok (.ireturn, 1) := by decide +kernel
theorem dX10_rename_77 : decode cX10_rename 77 = .ok (.aload_n 0, 1) := by decide +kernel
theorem dX10_rename_78 : decode cX10_rename 78 = .ok (.getfield 126, 3) := by decide +kernel
theorem dX10_rename_81 : decode cX10_rename 81 = .ok (.iload_n 2, 1) := by decide +kernel
theorem dX10_rename_82 : decode cX10_rename 82 = .ok (.iaload, 1) := by decide +kernel
theorem dX10_rename_83 : decode cX10_rename 83 = .ok (.istore 4, 2) := by decide +kernel
theorem dX10_rename_85 : decode cX10_rename 85 = .ok (.aload_n 0, 1) := by decide +kernel
theorem dX10_rename_86 : decode cX10_rename 86 = .ok (.iload_n 1, 1) := by decide +kernel
theorem dX10_rename_87 : decode cX10_rename 87 = .ok (.iconst 4, 1) := by decide +kernel
theorem dX10_rename_88 : decode cX10_rename 88 = .ok (.iload_n 2, 1) := by decide +kernel
theorem dX10_rename_89 : decode cX10_rename 89 = .ok (.iload_n 3, 1) := by decide +kernel
theorem dX10_rename_90 : decode cX10_rename 90 = .ok (.iconst 0, 1) := by decide +kernel
theorem dX10_rename_91 : decode cX10_rename 91 = .ok (.iconst 0, 1) := by decide +kernel
theorem dX10_rename_92 : decode cX10_rename 92 = .ok (.invokevirtual 284, 3) := by decide +kernel
theorem dX10_rename_95 : decode cX10_rename 95 = .ok (.istore 5, 2) := by decide +kernel
theorem dX10_rename_97 : decode cX10_rename 97 = .ok (.iload 4, 2) := by decide +kernel
theorem dX10_rename_99 : decode cX10_rename 99 = .ok (.ireturn, 1) := by decide +kernel
theorem dX10_move_0 : decode cX10_move 0 = .ok (.aload_n 0, 1) := by decide +kernel
theorem dX10_move_1 : decode cX10_move 1 = .ok (.iconst 0, 1) := by decide +kernel
theorem dX10_move_2 : decode cX10_move 2 = .ok (.putfield 177, 3) := by decide +kernel
theorem dX10_move_5 : decode cX10_move 5 = .ok (.aload_n 0, 1) := by decide +kernel
theorem dX10_move_6 : decode cX10_move 6 = .ok (.iload_n 1, 1) := by decide +kernel
theorem dX10_move_7 : decode cX10_move 7 = .ok (.iload_n 2, 1) := by decide +kernel
theorem dX10_move_8 : decode cX10_move 8 = .ok (.invokevirtual 265, 3) := by decide +kernel
theorem dX10_move_11 : decode cX10_move 11 = .ok (.ifCond .eq 15, 3) := by decide +kernel
theorem dX10_move_14 : decode cX10_move 14 = .ok (.iload_n 2, 1) := by decide +kernel
theorem dX10_move_15 : decode cX10_move 15 = .ok (.ifCond .eq 11, 3) := by decide +kernel
theorem dX10_move_18 : decode cX10_move 18 = .ok (.aload_n 0, 1) := by decide +kernel
theorem dX10_move_19 : decode cX10_move 19 = .ok (.iload_n 3, 1) := by decide +kernel
theorem dX10_move_20 : decode cX10_move 20 = .ok (.invokevirtual 222, 3) := by decide +kernel
theorem dX10_move_23 : decode cX10_move 23 = .ok (.ifCond .ne 9, 3) := by decide +kernel
theorem dX10_move_26 : decode cX10_move 26 = .ok (.aload_n 0, 1) := by decide +kernel
theorem dX10_move_27 : decode cX10_move 27 = .ok (.iconst 1, 1) := by decide +kernel
theorem dX10_move_28 : decode cX10_move 28 = .ok (.invokevirtual 246, 3) := by decide +kernel
theorem dX10_move_31 : decode cX10_move 31 = .ok (.ireturn, 1) := by decide +kernel
theorem dX10_move_32 : decode cX10_move 32 = .ok (.aload_n 0, 1) := by decide +kernel
theorem dX10_move_33 : decode cX10_move 33 = .ok (.invokevirtual 271, 3) := by decide +kernel
theorem dX10_move_36 : decode cX10_move 36 = .ok (.ifCond .ne 45, 3) := by decide +kernel
theorem dX10_move_39 : decode cX10_move 39 = .ok (.aload_n 0, 1) := by decide +kernel
theorem dX10_move_40 : decode cX10_move 40 = .ok (.iload_n 1, 1) := by decide +kernel
theorem dX10_move_41 : decode cX10_move 41 = .ok (.iload_n 2, 1) := by decide +kernel
theorem dX10_move_42 : decode cX10_move 42 = .ok (.invokevirtual 275, 3) := by decide +kernel
theorem dX10_move_45 : decode cX10_move 45 = .ok (.ifCond .eq 36, 3) := by decide +kernel
theorem dX10_move_48 : decode cX10_move 48 = .ok (.aload_n 0, 1) := by decide +kernel
theorem dX10_move_49 : decode cX10_move 49 = .ok (.iload_n 1, 1) := by decide +kernel
theorem dX10_move_50 : decode cX10_move 50 = .ok (.iload_n 3, 1) := by decide +kernel
theorem dX10_move_51 : decode cX10_move 51 = .ok (.invokevirtual 275, 3) := by decide +kernel
theorem dX10_move_54 : decode cX10_move 54 = .ok (.ifCond .eq 27, 3) := by decide +kernel
theorem dX10_move_57 : decode cX10_move 57 = .ok (.aload_n 0, 1) := by decide +kernel
theorem dX10_move_58 : decode cX10_move 58 = .ok (.iload_n 2, 1) := by decide +kernel
theorem dX10_move_59 : decode cX10_move 59 = .ok (.iload_n 3, 1) := by decide +kernel
theorem dX10_move_60 : decode cX10_move 60 = .ok (.invokevirtual 208, 3) := by decide +kernel
theorem dX10_move_63 : decode cX10_move 63 = .ok (.ifCond .ne 18, 3) := by decide +kernel
theorem dX10_move_66 : decode cX10_move 66 = .ok (.aload_n 0, 1) := by decide +kernel
theorem dX10_move_67 : decode cX10_move 67 = .ok (.iload_n 3, 1) := by decide +kernel
theorem dX10_move_68 : decode cX10_move 68 = .ok (.iload_n 2, 1) := by decide +kernel
theorem dX10_move_69 : decode cX10_move 69 = .ok (.aload_n 0, 1) := by decide +kernel
theorem dX10_move_70 : decode cX10_move 70 = .ok (.getfield 114, 3) := by decide +kernel
theorem dX10_move_73 : decode cX10_move 73 = .ok (.iload_n 2, 1) := by decide +kernel
theorem dX10_move_74 : decode cX10_move 74 = .ok (.iaload, 1) := by decide +kernel
theorem dX10_move_75 : decode cX10_move 75 = .ok (.invokevirtual 278, 3) := by decide +kernel
theorem dX10_move_78 : decode cX10_move 78 = .ok (.ifCond .eq 9, 3) := by decide +kernel
theorem dX10_move_81 : decode cX10_move 81 = .ok (.aload_n 0, 1) := by decide +kernel
theorem dX10_move_82 : decode cX10_move 82 = .ok (.iconst 2, 1) := by decide +kernel
theorem dX10_move_83 : decode cX10_move 83 = .ok (.invokevirtual 246, 3) := by decide +kernel
theorem dX10_move_86 : decode cX10_move 86 = .ok (.ireturn, 1) := by decide +kernel
theorem dX10_move_87 : decode cX10_move 87 = .ok (.aload_n 0, 1) := by decide +kernel
theorem dX10_move_88 : decode cX10_move 88 = .ok (.getfield 123, 3) := by decide +kernel
theorem dX10_move_91 : decode cX10_move 91 = .ok (.iload_n 2, 1) := by decide +kernel
theorem dX10_move_92 : decode cX10_move 92 = .ok (.iaload, 1) := by decide +kernel
theorem dX10_move_93 : decode cX10_move 93 = .ok (.istore 4, 2) := by decide +kernel
theorem dX10_move_95 : decode cX10_move 95 = .ok (.aload_n 0, 1) := by decide +kernel
theorem dX10_move_96 : decode cX10_move 96 = .ok (.iload_n 1, 1) := by decide +kernel
theorem dX10_move_97 : decode cX10_move 97 = .ok (.bipush 7, 2) := by decide +kernel
theorem dX10_move_99 : decode cX10_move 99 = .ok (.iload_n 2, 1) := by decide +kernel
theorem dX10_move_100 : decode cX10_move 100 = .ok (.iload_n 3, 1) := by decide +kernel
theorem dX10_move_101 : decode cX10_move 101 = .ok (.iconst 0, 1) := by decide +kernel
theorem dX10_move_102 : decode cX10_move 102 = .ok (.iconst 0, 1) := by decide +kernel
theorem dX10_move_103 : decode cX10_move 103 = .ok (.invokevirtual 284, 3) := by decide +kernel
theorem dX10_move_106 : decode cX10_move 106 = .ok (.istore 5, 2) := by decide +kernel
theorem dX10_move_108 : decode cX10_move 108 = .ok (.iload 4, 2) := by decide +kernel
theorem dX10_move_110 : decode cX10_move 110 = .ok (.ireturn, 1) := by decide +kernel
theorem dX10_isEmpty_0 : decode cX10_isEmpty 0 = .ok (.iconst 1, 1) := by decide +kernel
theorem dX10_isEmpty_1 : decode cX10_isEmpty 1 = .ok (.istore_n 2, 1) := by decide +kernel
theorem dX10_isEmpty_2 : decode cX10_isEmpty 2 = .ok (.iconst 1, 1) := by decide +kernel
theorem dX10_isEmpty_3 : decode cX10_isEmpty 3 = .ok (.istore_n 3, 1) := by decide +kernel
theorem dX10_isEmpty_4 : decode cX10_isEmpty 4 = .ok (.iload_n 3, 1) := by decide +kernel
theorem dX10_isEmpty_5 : decode cX10_isEmpty 5 = .ok (.bipush 48, 2) := by decide +kernel
theorem dX10_isEmpty_7 : decode cX10_isEmpty 7 = .ok (.if_icmp .ge 37, 3) := by decide +kernel
theorem dX10_isEmpty_10 : decode cX10_isEmpty 10 = .ok (.iload_n 2, 1) := by decide +kernel
theorem dX10_isEmpty_11 : decode cX10_isEmpty 11 = .ok (.ifCond .eq 25, 3) := by decide +kernel
theorem dX10_isEmpty_14 : decode cX10_isEmpty 14 = .ok (.aload_n 0, 1) := by decide +kernel
theorem dX10_isEmpty_15 : decode cX10_isEmpty 15 = .ok (.iload_n 3, 1) := by decide +kernel
theorem dX10_isEmpty_16 : decode cX10_isEmpty 16 = .ok (.invokevirtual 222, 3) := by decide +kernel
theorem dX10_isEmpty_19 : decode cX10_isEmpty 19 = .ok (.ifCond .eq 13, 3) := by decide +kernel
theorem dX10_isEmpty_22 : decode cX10_isEmpty 22 = .ok (.aload_n 0, 1) := by decide +kernel
theorem dX10_isEmpty_23 : decode cX10_isEmpty 23 = .ok (.getfield 123, 3) := by decide +kernel
theorem dX10_isEmpty_26 : decode cX10_isEmpty 26 = .ok (.iload_n 3, 1) := by decide +kernel
theorem dX10_isEmpty_27 : decode cX10_isEmpty 27 = .ok (.iaload, 1) := by decide +kernel
theorem dX10_isEmpty_28 : decode cX10_isEmpty 28 = .ok (.iload_n 1, 1) := by decide +kernel
theorem dX10_isEmpty_29 : decode cX10_isEmpty 29 = .ok (.if_icmp .eq 7, 3) := by decide +kernel
theorem dX10_isEmpty_32 : decode cX10_isEmpty 32 = .ok (.iconst 1, 1) := by decide +kernel
theorem dX10_isEmpty_33 : decode cX10_isEmpty 33 = .ok (.goto 4, 3) := by decide +kernel
theorem dX10_isEmpty_36 : decode cX10_isEmpty 36 = .ok (.iconst 0, 1) := by decide +kernel
theorem dX10_isEmpty_37 : decode cX10_isEmpty 37 = .ok (.istore_n 2, 1) := by decide +kernel
theorem dX10_isEmpty_38 : decode cX10_isEmpty 38 = .ok (.iinc 3 1, 3) := by decide +kernel
theorem dX10_isEmpty_41 : decode cX10_isEmpty 41 = .ok (.goto (-37), 3) := by decide +kernel
theorem dX10_isEmpty_44 : decode cX10_isEmpty 44 = .ok (.iload_n 2, 1) := by decide +kernel
theorem dX10_isEmpty_45 : decode cX10_isEmpty 45 = .ok (.ireturn, 1) := by decide +kernel
theorem dX10_delete_0 : decode cX10_delete 0 = .ok (.aload_n 0, 1) := by decide +kernel
theorem dX10_delete_1 : decode cX10_delete 1 = .ok (.iconst 0, 1) := by decide +kernel
theorem dX10_delete_2 : decode cX10_delete 2 = .ok (.putfield 177, 3) := by decide +kernel
theorem dX10_delete_5 : decode cX10_delete 5 = .ok (.aload_n 0, 1) := by decide +kernel
theorem dX10_delete_6 : decode cX10_delete 6 = .ok (.iload_n 1, 1) := by decide +kernel
theorem dX10_delete_7 : decode cX10_delete 7 = .ok (.iload_n 2, 1) := by decide +kernel
theorem dX10_delete_8 : decode cX10_delete 8 = .ok (.invokevirtual 265, 3) := by decide +kernel
theorem dX10_delete_11 : decode cX10_delete 11 = .ok (.ifCond .eq 7, 3) := by decide +kernel
theorem dX10_delete_14 : decode cX10_delete 14 = .ok (.iload_n 2, 1) := by decide +kernel
theorem dX10_delete_15 : decode cX10_delete 15 = .ok (.ifCond .ne 9, 3) := by decide +kernel
theorem dX10_delete_18 : decode cX10_delete 18 = .ok (.aload_n 0, 1) := by decide +kernel
theorem dX10_delete_19 : decode cX10_delete 19 = .ok (.iconst 1, 1) := by decide +kernel
theorem dX10_delete_20 : decode cX10_delete 20 = .ok (.invokevirtual 246, 3) := by decide +kernel
theorem dX10_delete_23 : decode cX10_delete 23 = .ok (.ireturn, 1) := by decide +kernel
theorem dX10_delete_24 : decode cX10_delete 24 = .ok (.aload_n 0, 1) := by decide +kernel
theorem dX10_delete_25 : decode cX10_delete 25 = .ok (.invokevirtual 271, 3) := by decide +kernel
theorem dX10_delete_28 : decode cX10_delete 28 = .ok (.ifCond .ne 20, 3) := by decide +kernel
theorem dX10_delete_31 : decode cX10_delete 31 = .ok (.aload_n 0, 1) := by decide +kernel
theorem dX10_delete_32 : decode cX10_delete 32 = .ok (.iload_n 1, 1) := by decide +kernel
theorem dX10_delete_33 : decode cX10_delete 33 = .ok (.iload_n 2, 1) := by decide +kernel
theorem dX10_delete_34 : decode cX10_delete 34 = .ok (.invokevirtual 275, 3) := by decide +kernel
theorem dX10_delete_37 : decode cX10_delete 37 = .ok (.ifCond .eq 11, 3) := by decide +kernel
theorem dX10_delete_40 : decode cX10_delete 40 = .ok (.aload_n 0, 1) := by decide +kernel
theorem dX10_delete_41 : decode cX10_delete 41 = .ok (.iload_n 2, 1) := by decide +kernel
theorem dX10_delete_42 : decode cX10_delete 42 = .ok (.invokevirtual 301, 3) := by decide +kernel
theorem dX10_delete_45 : decode cX10_delete 45 = .ok (.ifCond .ne 9, 3) := by decide +kernel
theorem dX10_delete_48 : decode cX10_delete 48 = .ok (.aload_n 0, 1) := by decide +kernel
theorem dX10_delete_49 : decode cX10_delete 49 = .ok (.iconst 2, 1) := by decide +kernel
theorem dX10_delete_50 : decode cX10_delete 50 = .ok (.invokevirtual 246, 3) := by decide +kernel
theorem dX10_delete_53 : decode cX10_delete 53 = .ok (.ireturn, 1) := by decide +kernel
theorem dX10_delete_54 : decode cX10_delete 54 = .ok (.aload_n 0, 1) := by decide +kernel
theorem dX10_delete_55 : decode cX10_delete 55 = .ok (.iload_n 1, 1) := by decide +kernel
theorem dX10_delete_56 : decode cX10_delete 56 = .ok (.bipush 8, 2) := by decide +kernel
theorem dX10_delete_58 : decode cX10_delete 58 = .ok (.iload_n 2, 1) := by decide +kernel
theorem dX10_delete_59 : decode cX10_delete 59 = .ok (.iconst 0, 1) := by decide +kernel
theorem dX10_delete_60 : decode cX10_delete 60 = .ok (.iconst 0, 1) := by decide +kernel
theorem dX10_delete_61 : decode cX10_delete 61 = .ok (.iconst 0, 1) := by decide +kernel
theorem dX10_delete_62 : decode cX10_delete 62 = .ok (.invokevirtual 284, 3) := by decide +kernel
theorem dX10_delete_65 : decode cX10_delete 65 = .ok (.istore_n 3, 1) := by decide +kernel
theorem dX10_delete_66 : decode cX10_delete 66 = .ok (.aload_n 0, 1) := by decide +kernel
theorem dX10_delete_67 : decode cX10_delete 67 = .ok (.iload_n 1, 1) := by decide +kernel
theorem dX10_delete_68 : decode cX10_delete 68 = .ok (.invokevirtual 304, 3) := by decide +kernel
theorem dX10_delete_71 : decode cX10_delete 71 = .ok (.ireturn, 1) := by decide +kernel
theorem dX10_link_0 : decode cX10_link 0 = .ok (.aload_n 0, 1) := by decide +kernel
theorem dX10_link_1 : decode cX10_link 1 = .ok (.iconst 0, 1) := by decide +kernel
theorem dX10_link_2 : decode cX10_link 2 = .ok (.putfield 177, 3) := by decide +kernel
theorem dX10_link_5 : decode cX10_link 5 = .ok (.iload_n 3, 1) := by decide +kernel
theorem dX10_link_6 : decode cX10_link 6 = .ok (.iconst (-1), 1) := by decide +kernel
theorem dX10_link_7 : decode cX10_link 7 = .ok (.if_icmp .eq 23, 3) := by decide +kernel
theorem dX10_link_10 : decode cX10_link 10 = .ok (.iload_n 3, 1) := by decide +kernel
theorem dX10_link_11 : decode cX10_link 11 = .ok (.bipush 100, 2) := by decide +kernel
theorem dX10_link_13 : decode cX10_link 13 = .ok (.bipush 103, 2) := by decide +kernel
theorem dX10_link_15 : decode cX10_link 15 = .ok (.invokestatic 180, 3) := by decide +kernel
theorem dX10_link_18 : decode cX10_link 18 = .ok (.ifCond .ne 12, 3) := by decide +kernel
theorem dX10_link_21 : decode cX10_link 21 = .ok (.aload_n 0, 1) := by decide +kernel
theorem dX10_link_22 : decode cX10_link 22 = .ok (.iload_n 1, 1) := by decide +kernel
theorem dX10_link_23 : decode cX10_link 23 = .ok (.iload_n 3, 1) := by decide +kernel
theorem dX10_link_24 : decode cX10_link 24 = .ok (.invokevirtual 265, 3) := by decide +kernel
theorem dX10_link_27 : decode cX10_link 27 = .ok (.ifCond .eq 7, 3) := by decide +kernel
theorem dX10_link_30 : decode cX10_link 30 = .ok (.iconst 1, 1) := by decide +kernel
theorem dX10_link_31 : decode cX10_link 31 = .ok (.goto 4, 3) := by decide +kernel
theorem dX10_link_34 : decode cX10_link 34 = .ok (.iconst 0, 1) := by decide +kernel
theorem dX10_link_35 : decode cX10_link 35 = .ok (.istore 4, 2) := by decide +kernel
theorem dX10_link_37 : decode cX10_link 37 = .ok (.aload_n 0, 1) := by decide +kernel
theorem dX10_link_38 : decode cX10_link 38 = .ok (.iload_n 1, 1) := by decide +kernel
theorem dX10_link_39 : decode cX10_link 39 = .ok (.iload_n 2, 1) := by decide +kernel
theorem dX10_link_40 : decode cX10_link 40 = .ok (.invokevirtual 265, 3) := by decide +kernel
theorem dX10_link_43 : decode cX10_link 43 = .ok (.ifCond .eq 12, 3) := by decide +kernel
theorem dX10_link_46 : decode cX10_link 46 = .ok (.iload_n 2, 1) := by decide +kernel
theorem dX10_link_47 : decode cX10_link 47 = .ok (.ifCond .eq 8, 3) := by decide +kernel
theorem dX10_link_50 : decode cX10_link 50 = .ok (.iload 4, 2) := by decide +kernel
theorem dX10_link_52 : decode cX10_link 52 = .ok (.ifCond .ne 9, 3) := by decide +kernel
theorem dX10_link_55 : decode cX10_link 55 = .ok (.aload_n 0, 1) := by decide +kernel
theorem dX10_link_56 : decode cX10_link 56 = .ok (.iconst 1, 1) := by decide +kernel
theorem dX10_link_57 : decode cX10_link 57 = .ok (.invokevirtual 246, 3) := by decide +kernel
theorem dX10_link_60 : decode cX10_link 60 = .ok (.ireturn, 1) := by decide +kernel
theorem dX10_link_61 : decode cX10_link 61 = .ok (.aload_n 0, 1) := by decide +kernel
theorem dX10_link_62 : decode cX10_link 62 = .ok (.invokevirtual 271, 3) := by decide +kernel
theorem dX10_link_65 : decode cX10_link 65 = .ok (.ifCond .ne 17, 3) := by decide +kernel
theorem dX10_link_68 : decode cX10_link 68 = .ok (.aload_n 0, 1) := by decide +kernel
theorem dX10_link_69 : decode cX10_link 69 = .ok (.iload_n 1, 1) := by decide +kernel
theorem dX10_link_70 : decode cX10_link 70 = .ok (.iload_n 2, 1) := by decide +kernel
theorem dX10_link_71 : decode cX10_link 71 = .ok (.invokevirtual 275, 3) := by decide +kernel
theorem dX10_link_74 : decode cX10_link 74 = .ok (.ifCond .eq 8, 3) := by decide +kernel
theorem dX10_link_77 : decode cX10_link 77 = .ok (.iload_n 3, 1) := by decide +kernel
theorem dX10_link_78 : decode cX10_link 78 = .ok (.iload_n 2, 1) := by decide +kernel
theorem dX10_link_79 : decode cX10_link 79 = .ok (.if_icmp .ne 9, 3) := by decide +kernel
theorem dX10_link_82 : decode cX10_link 82 = .ok (.aload_n 0, 1) := by decide +kernel
theorem dX10_link_83 : decode cX10_link 83 = .ok (.iconst 2, 1) := by decide +kernel
theorem dX10_link_84 : decode cX10_link 84 = .ok (.invokevirtual 246, 3) := by decide +kernel
theorem dX10_link_87 : decode cX10_link 87 = .ok (.ireturn, 1) := by decide +kernel
theorem dX10_link_88 : decode cX10_link 88 = .ok (.aload_n 0, 1) := by decide +kernel
theorem dX10_link_89 : decode cX10_link 89 = .ok (.getfield 117, 3) := by decide +kernel
theorem dX10_link_92 : decode cX10_link 92 = .ok (.iload_n 2, 1) := by decide +kernel
theorem dX10_link_93 : decode cX10_link 93 = .ok (.iaload, 1) := by decide +kernel
theorem dX10_link_94 : decode cX10_link 94 = .ok (.istore 5, 2) := by decide +kernel
theorem dX10_link_96 : decode cX10_link 96 = .ok (.aload_n 0, 1) := by decide +kernel
theorem dX10_link_97 : decode cX10_link 97 = .ok (.iload_n 1, 1) := by decide +kernel
theorem dX10_link_98 : decode cX10_link 98 = .ok (.iconst 5, 1) := by decide +kernel
theorem dX10_link_99 : decode cX10_link 99 = .ok (.iload_n 2, 1) := by decide +kernel
theorem dX10_link_100 : decode cX10_link 100 = .ok (.iload_n 3, 1) := by decide +kernel
theorem dX10_link_101 : decode cX10_link 101 = .ok (.iconst 0, 1) := by decide +kernel
theorem dX10_link_102 : decode cX10_link 102 = .ok (.iconst 0, 1) := by decide +kernel
theorem dX10_link_103 : decode cX10_link 103 = .ok (.invokevirtual 284, 3) := by decide +kernel
theorem dX10_link_106 : decode cX10_link 106 = .ok (.istore 6, 2) := by decide +kernel
theorem dX10_link_108 : decode cX10_link 108 = .ok (.iload 5, 2) := by decide +kernel
theorem dX10_link_110 : decode cX10_link 110 = .ok (.ireturn, 1) := by decide +kernel
theorem dX10_subjectOf_0 : decode cX10_subjectOf 0 = .ok (.iload_n 1, 1) := by decide +kernel
theorem dX10_subjectOf_1 : decode cX10_subjectOf 1 = .ok (.iconst (-1), 1) := by decide +kernel
theorem dX10_subjectOf_2 : decode cX10_subjectOf 2 = .ok (.if_icmp .ne 6, 3) := by decide +kernel
theorem dX10_subjectOf_5 : decode cX10_subjectOf 5 = .ok (.bipush 54, 2) := by decide +kernel
theorem dX10_subjectOf_7 : decode cX10_subjectOf 7 = .ok (.ireturn, 1) := by decide +kernel
theorem dX10_subjectOf_8 : decode cX10_subjectOf 8 = .ok (.iload_n 1, 1) := by decide +kernel
theorem dX10_subjectOf_9 : decode cX10_subjectOf 9 = .ok (.iconst 0, 1) := by decide +kernel
theorem dX10_subjectOf_10 : decode cX10_subjectOf 10 = .ok (.iconst 5, 1) := by decide +kernel
theorem dX10_subjectOf_11 : decode cX10_subjectOf 11 = .ok (.invokestatic 180, 3) := by decide +kernel
theorem dX10_subjectOf_14 : decode cX10_subjectOf 14 = .ok (.ifCond .eq 5, 3) := by decide +kernel
theorem dX10_subjectOf_17 : decode cX10_subjectOf 17 = .ok (.iload_n 1, 1) := by decide +kernel
theorem dX10_subjectOf_18 : decode cX10_subjectOf 18 = .ok (.ireturn, 1) := by decide +kernel
theorem dX10_subjectOf_19 : decode cX10_subjectOf 19 = .ok (.iload_n 1, 1) := by decide +kernel
theorem dX10_subjectOf_20 : decode cX10_subjectOf 20 = .ok (.bipush 100, 2) := by decide +kernel
theorem dX10_subjectOf_22 : decode cX10_subjectOf 22 = .ok (.if_icmp .lt 24, 3) := by decide +kernel
theorem dX10_subjectOf_25 : decode cX10_subjectOf 25 = .ok (.aload_n 0, 1) := by decide +kernel
theorem dX10_subjectOf_26 : decode cX10_subjectOf 26 = .ok (.iload_n 1, 1) := by decide +kernel
theorem dX10_subjectOf_27 : decode cX10_subjectOf 27 = .ok (.bipush 100, 2) := by decide +kernel
theorem dX10_subjectOf_29 : decode cX10_subjectOf 29 = .ok (.isub, 1) := by decide +kernel
theorem dX10_subjectOf_30 : decode cX10_subjectOf 30 = .ok (.invokevirtual 222, 3) := by decide +kernel
theorem dX10_subjectOf_33 : decode cX10_subjectOf 33 = .ok (.ifCond .eq 13, 3) := by decide +kernel
theorem dX10_subjectOf_36 : decode cX10_subjectOf 36 = .ok (.bipush 6, 2) := by decide +kernel
theorem dX10_subjectOf_38 : decode cX10_subjectOf 38 = .ok (.iload_n 1, 1) := by decide +kernel
theorem dX10_subjectOf_39 : decode cX10_subjectOf 39 = .ok (.iadd, 1) := by decide +kernel
theorem dX10_subjectOf_40 : decode cX10_subjectOf 40 = .ok (.bipush 100, 2) := by decide +kernel
theorem dX10_subjectOf_42 : decode cX10_subjectOf 42 = .ok (.isub, 1) := by decide +kernel
theorem dX10_subjectOf_43 : decode cX10_subjectOf 43 = .ok (.goto 4, 3) := by decide +kernel
theorem dX10_subjectOf_46 : decode cX10_subjectOf 46 = .ok (.iconst (-1), 1) := by decide +kernel
theorem dX10_subjectOf_47 : decode cX10_subjectOf 47 = .ok (.ireturn, 1) := by decide +kernel
theorem dX10_rule_0 : decode cX10_rule 0 = .ok (.aload_n 0, 1) := by decide +kernel
theorem dX10_rule_1 : decode cX10_rule 1 = .ok (.iconst 0, 1) := by decide +kernel
theorem dX10_rule_2 : decode cX10_rule 2 = .ok (.putfield 177, 3) := by decide +kernel
theorem dX10_rule_5 : decode cX10_rule 5 = .ok (.aload_n 0, 1) := by decide +kernel
theorem dX10_rule_6 : decode cX10_rule 6 = .ok (.iload_n 1, 1) := by decide +kernel
theorem dX10_rule_7 : decode cX10_rule 7 = .ok (.iload_n 2, 1) := by decide +kernel
theorem dX10_rule_8 : decode cX10_rule 8 = .ok (.invokevirtual 265, 3) := by decide +kernel
theorem dX10_rule_11 : decode cX10_rule 11 = .ok (.ifCond .eq 32, 3) := by decide +kernel
theorem dX10_rule_14 : decode cX10_rule 14 = .ok (.aload_n 0, 1) := by decide +kernel
theorem dX10_rule_15 : decode cX10_rule 15 = .ok (.iload_n 3, 1) := by decide +kernel
theorem dX10_rule_16 : decode cX10_rule 16 = .ok (.invokevirtual 307, 3) := by decide +kernel
theorem dX10_rule_19 : decode cX10_rule 19 = .ok (.iconst (-1), 1) := by decide +kernel
theorem dX10_rule_20 : decode cX10_rule 20 = .ok (.if_icmp .eq 23, 3) := by decide +kernel
theorem dX10_rule_23 : decode cX10_rule 23 = .ok (.iload 4, 2) := by decide +kernel
theorem dX10_rule_25 : decode cX10_rule 25 = .ok (.iconst 0, 1) := by decide +kernel
theorem dX10_rule_26 : decode cX10_rule 26 = .ok (.iconst 2, 1) := by decide +kernel
theorem dX10_rule_27 : decode cX10_rule 27 = .ok (.invokestatic 180, 3) := by decide +kernel
theorem dX10_rule_30 : decode cX10_rule 30 = .ok (.ifCond .eq 13, 3) := by decide +kernel
theorem dX10_rule_33 : decode cX10_rule 33 = .ok (.iload 5, 2) := by decide +kernel
theorem dX10_rule_35 : decode cX10_rule 35 = .ok (.iconst 0, 1) := by decide +kernel
theorem dX10_rule_36 : decode cX10_rule 36 = .ok (.iconst 1, 1) := by decide +kernel
theorem dX10_rule_37 : decode cX10_rule 37 = .ok (.invokestatic 180, 3) := by decide +kernel
theorem dX10_rule_40 : decode cX10_rule 40 = .ok (.ifCond .ne 9, 3) := by decide +kernel
theorem dX10_rule_43 : decode cX10_rule 43 = .ok (.aload_n 0, 1) := by decide +kernel
theorem dX10_rule_44 : decode cX10_rule 44 = .ok (.iconst 1, 1) := by decide +kernel
theorem dX10_rule_45 : decode cX10_rule 45 = .ok (.invokevirtual 246, 3) := by decide +kernel
theorem dX10_rule_48 : decode cX10_rule 48 = .ok (.ireturn, 1) := by decide +kernel
theorem dX10_rule_49 : decode cX10_rule 49 = .ok (.iload 6, 2) := by decide +kernel
theorem dX10_rule_51 : decode cX10_rule 51 = .ok (.iconst 0, 1) := by decide +kernel
theorem dX10_rule_52 : decode cX10_rule 52 = .ok (.iconst 2, 1) := by decide +kernel
theorem dX10_rule_53 : decode cX10_rule 53 = .ok (.invokestatic 180, 3) := by decide +kernel
theorem dX10_rule_56 : decode cX10_rule 56 = .ok (.ifCond .ne 9, 3) := by decide +kernel
theorem dX10_rule_59 : decode cX10_rule 59 = .ok (.aload_n 0, 1) := by decide +kernel
theorem dX10_rule_60 : decode cX10_rule 60 = .ok (.iconst 2, 1) := by decide +kernel
theorem dX10_rule_61 : decode cX10_rule 61 = .ok (.invokevirtual 246, 3) := by decide +kernel
theorem dX10_rule_64 : decode cX10_rule 64 = .ok (.ireturn, 1) := by decide +kernel
theorem dX10_rule_65 : decode cX10_rule 65 = .ok (.aload_n 0, 1) := by decide +kernel
theorem dX10_rule_66 : decode cX10_rule 66 = .ok (.invokevirtual 271, 3) := by decide +kernel
theorem dX10_rule_69 : decode cX10_rule 69 = .ok (.ifCond .ne 12, 3) := by decide +kernel
theorem dX10_rule_72 : decode cX10_rule 72 = .ok (.aload_n 0, 1) := by decide +kernel
theorem dX10_rule_73 : decode cX10_rule 73 = .ok (.iload_n 1, 1) := by decide +kernel
theorem dX10_rule_74 : decode cX10_rule 74 = .ok (.iload_n 2, 1) := by decide +kernel
theorem dX10_rule_75 : decode cX10_rule 75 = .ok (.invokevirtual 275, 3) := by decide +kernel
theorem dX10_rule_78 : decode cX10_rule 78 = .ok (.ifCond .ne 9, 3) := by decide +kernel
theorem dX10_rule_81 : decode cX10_rule 81 = .ok (.aload_n 0, 1) := by decide +kernel
theorem dX10_rule_82 : decode cX10_rule 82 = .ok (.iconst 3, 1) := by decide +kernel
theorem dX10_rule_83 : decode cX10_rule 83 = .ok (.invokevirtual 246, 3) := by decide +kernel
theorem dX10_rule_86 : decode cX10_rule 86 = .ok (.ireturn, 1) := by decide +kernel
theorem dX10_rule_87 : decode cX10_rule 87 = .ok (.bipush 6, 2) := by decide +kernel
theorem dX10_rule_89 : decode cX10_rule 89 = .ok (.aload_n 0, 1) := by decide +kernel
theorem dX10_rule_90 : decode cX10_rule 90 = .ok (.iload_n 3, 1) := by decide +kernel
theorem dX10_rule_91 : decode cX10_rule 91 = .ok (.invokevirtual 307, 3) := by decide +kernel
theorem dX10_rule_94 : decode cX10_rule 94 = .ok (.imul, 1) := by decide +kernel
theorem dX10_rule_95 : decode cX10_rule 95 = .ok (.iconst 2, 1) := by decide +kernel
theorem dX10_rule_96 : decode cX10_rule 96 = .ok (.iload 4, 2) := by decide +kernel
theorem dX10_rule_98 : decode cX10_rule 98 = .ok (.imul, 1) := by decide +kernel
theorem dX10_rule_99 : decode cX10_rule 99 = .ok (.iadd, 1) := by decide +kernel
theorem dX10_rule_100 : decode cX10_rule 100 = .ok (.iload 5, 2) := by decide +kernel
theorem dX10_rule_102 : decode cX10_rule 102 = .ok (.iadd, 1) := by decide +kernel
theorem dX10_rule_103 : decode cX10_rule 103 = .ok (.istore 7, 2) := by decide +kernel
theorem dX10_rule_105 : decode cX10_rule 105 = .ok (.aload_n 0, 1) := by decide +kernel
theorem dX10_rule_106 : decode cX10_rule 106 = .ok (.getfield 138, 3) := by decide +kernel
theorem dX10_rule_109 : decode cX10_rule 109 = .ok (.sipush 330, 3) := by decide +kernel
theorem dX10_rule_112 : decode cX10_rule 112 = .ok (.iload_n 2, 1) := by decide +kernel
theorem dX10_rule_113 : decode cX10_rule 113 = .ok (.imul, 1) := by decide +kernel
theorem dX10_rule_114 : decode cX10_rule 114 = .ok (.iload 7, 2) := by decide +kernel
theorem dX10_rule_116 : decode cX10_rule 116 = .ok (.iadd, 1) := by decide +kernel
theorem dX10_rule_117 : decode cX10_rule 117 = .ok (.iaload, 1) := by decide +kernel
theorem dX10_rule_118 : decode cX10_rule 118 = .ok (.istore 8, 2) := by decide +kernel
theorem dX10_rule_120 : decode cX10_rule 120 = .ok (.aload_n 0, 1) := by decide +kernel
theorem dX10_rule_121 : decode cX10_rule 121 = .ok (.iload_n 1, 1) := by decide +kernel
theorem dX10_rule_122 : decode cX10_rule 122 = .ok (.bipush 6, 2) := by decide +kernel
theorem dX10_rule_124 : decode cX10_rule 124 = .ok (.iload_n 2, 1) := by decide +kernel
theorem dX10_rule_125 : decode cX10_rule 125 = .ok (.iload 7, 2) := by decide +kernel
theorem dX10_rule_127 : decode cX10_rule 127 = .ok (.iload 6, 2) := by decide +kernel
theorem dX10_rule_129 : decode cX10_rule 129 = .ok (.iconst 0, 1) := by decide +kernel
theorem dX10_rule_130 : decode cX10_rule 130 = .ok (.invokevirtual 284, 3) := by decide +kernel
theorem dX10_rule_133 : decode cX10_rule 133 = .ok (.istore 9, 2) := by decide +kernel
theorem dX10_rule_135 : decode cX10_rule 135 = .ok (.iload 8, 2) := by decide +kernel
theorem dX10_rule_137 : decode cX10_rule 137 = .ok (.ireturn, 1) := by decide +kernel
theorem dX10_exchange_0 : decode cX10_exchange 0 = .ok (.aload_n 0, 1) := by decide +kernel
theorem dX10_exchange_1 : decode cX10_exchange 1 = .ok (.iconst 0, 1) := by decide +kernel
theorem dX10_exchange_2 : decode cX10_exchange 2 = .ok (.putfield 177, 3) := by decide +kernel
theorem dX10_exchange_5 : decode cX10_exchange 5 = .ok (.iload_n 1, 1) := by decide +kernel
theorem dX10_exchange_6 : decode cX10_exchange 6 = .ok (.invokestatic 226, 3) := by decide +kernel
theorem dX10_exchange_9 : decode cX10_exchange 9 = .ok (.ifCond .eq 10, 3) := by decide +kernel
theorem dX10_exchange_12 : decode cX10_exchange 12 = .ok (.iload_n 2, 1) := by decide +kernel
theorem dX10_exchange_13 : decode cX10_exchange 13 = .ok (.invokestatic 226, 3) := by decide +kernel
theorem dX10_exchange_16 : decode cX10_exchange 16 = .ok (.ifCond .ne 9, 3) := by decide +kernel
theorem dX10_exchange_19 : decode cX10_exchange 19 = .ok (.aload_n 0, 1) := by decide +kernel
theorem dX10_exchange_20 : decode cX10_exchange 20 = .ok (.iconst 1, 1) := by decide +kernel
theorem dX10_exchange_21 : decode cX10_exchange 21 = .ok (.invokevirtual 246, 3) := by decide +kernel
theorem dX10_exchange_24 : decode cX10_exchange 24 = .ok (.ireturn, 1) := by decide +kernel
theorem dX10_exchange_25 : decode cX10_exchange 25 = .ok (.iload_n 1, 1) := by decide +kernel
theorem dX10_exchange_26 : decode cX10_exchange 26 = .ok (.iload_n 2, 1) := by decide +kernel
theorem dX10_exchange_27 : decode cX10_exchange 27 = .ok (.if_icmp .eq 14, 3) := by decide +kernel
theorem dX10_exchange_30 : decode cX10_exchange 30 = .ok (.iload_n 3, 1) := by decide +kernel
theorem dX10_exchange_31 : decode cX10_exchange 31 = .ok (.iconst 0, 1) := by decide +kernel
theorem dX10_exchange_32 : decode cX10_exchange 32 = .ok (.sipush 250, 3) := by decide +kernel
theorem dX10_exchange_35 : decode cX10_exchange 35 = .ok (.invokestatic 180, 3) := by decide +kernel
theorem dX10_exchange_38 : decode cX10_exchange 38 = .ok (.ifCond .ne 9, 3) := by decide +kernel
theorem dX10_exchange_41 : decode cX10_exchange 41 = .ok (.aload_n 0, 1) := by decide +kernel
theorem dX10_exchange_42 : decode cX10_exchange 42 = .ok (.iconst 2, 1) := by decide +kernel
theorem dX10_exchange_43 : decode cX10_exchange 43 = .ok (.invokevirtual 246, 3) := by decide +kernel
theorem dX10_exchange_46 : decode cX10_exchange 46 = .ok (.ireturn, 1) := by decide +kernel
theorem dX10_exchange_47 : decode cX10_exchange 47 = .ok (.iconst 0, 1) := by decide +kernel
theorem dX10_exchange_48 : decode cX10_exchange 48 = .ok (.istore 4, 2) := by decide +kernel
theorem dX10_exchange_50 : decode cX10_exchange 50 = .ok (.iconst 0, 1) := by decide +kernel
theorem dX10_exchange_51 : decode cX10_exchange 51 = .ok (.istore 5, 2) := by decide +kernel
theorem dX10_exchange_53 : decode cX10_exchange 53 = .ok (.iload 5, 2) := by decide +kernel
theorem dX10_exchange_55 : decode cX10_exchange 55 = .ok (.aload_n 0, 1) := by decide +kernel
theorem dX10_exchange_56 : decode cX10_exchange 56 = .ok (.getfield 212, 3) := by decide +kernel
theorem dX10_exchange_59 : decode cX10_exchange 59 = .ok (.if_icmp .ge 68, 3) := by decide +kernel
theorem dX10_exchange_62 : decode cX10_exchange 62 = .ok (.aload_n 0, 1) := by decide +kernel
theorem dX10_exchange_63 : decode cX10_exchange 63 = .ok (.getfield 96, 3) := by decide +kernel
theorem dX10_exchange_66 : decode cX10_exchange 66 = .ok (.iload 5, 2) := by decide +kernel
theorem dX10_exchange_68 : decode cX10_exchange 68 = .ok (.iaload, 1) := by decide +kernel
theorem dX10_exchange_69 : decode cX10_exchange 69 = .ok (.istore 6, 2) := by decide +kernel
theorem dX10_exchange_71 : decode cX10_exchange 71 = .ok (.iload 4, 2) := by decide +kernel
theorem dX10_exchange_73 : decode cX10_exchange 73 = .ok (.iload_n 3, 1) := by decide +kernel
theorem dX10_exchange_74 : decode cX10_exchange 74 = .ok (.if_icmp .ge 47, 3) := by decide +kernel
theorem dX10_exchange_77 : decode cX10_exchange 77 = .ok (.aload_n 0, 1) := by decide +kernel
theorem dX10_exchange_78 : decode cX10_exchange 78 = .ok (.iload_n 1, 1) := by decide +kernel
theorem dX10_exchange_79 : decode cX10_exchange 79 = .ok (.iload 6, 2) := by decide +kernel
theorem dX10_exchange_81 : decode cX10_exchange 81 = .ok (.invokevirtual 215, 3) := by decide +kernel
theorem dX10_exchange_84 : decode cX10_exchange 84 = .ok (.ifCond .eq 37, 3) := by decide +kernel
theorem dX10_exchange_87 : decode cX10_exchange 87 = .ok (.aload_n 0, 1) := by decide +kernel
theorem dX10_exchange_88 : decode cX10_exchange 88 = .ok (.iload_n 2, 1) := by decide +kernel
theorem dX10_exchange_89 : decode cX10_exchange 89 = .ok (.iload 6, 2) := by decide +kernel
theorem dX10_exchange_91 : decode cX10_exchange 91 = .ok (.invokevirtual 215, 3) := by decide +kernel
theorem dX10_exchange_94 : decode cX10_exchange 94 = .ok (.ifCond .ne 27, 3) := by decide +kernel
theorem dX10_exchange_97 : decode cX10_exchange 97 = .ok (.aload_n 0, 1) := by decide +kernel
theorem dX10_exchange_98 : decode cX10_exchange 98 = .ok (.getfield 50, 3) := by decide +kernel
theorem dX10_exchange_101 : decode cX10_exchange 101 = .ok (.bipush 20, 2) := by decide +kernel
theorem dX10_exchange_103 : decode cX10_exchange 103 = .ok (.iload_n 2, 1) := by decide +kernel
theorem dX10_exchange_104 : decode cX10_exchange 104 = .ok (.imul, 1) := by decide +kernel
theorem dX10_exchange_105 : decode cX10_exchange 105 = .ok (.aload_n 0, 1) := by decide +kernel
theorem dX10_exchange_106 : decode cX10_exchange 106 = .ok (.getfield 63, 3) := by decide +kernel
theorem dX10_exchange_109 : decode cX10_exchange 109 = .ok (.iload 6, 2) := by decide +kernel
theorem dX10_exchange_111 : decode cX10_exchange 111 = .ok (.iaload, 1) := by decide +kernel
theorem dX10_exchange_112 : decode cX10_exchange 112 = .ok (.iadd, 1) := by decide +kernel
theorem dX10_exchange_113 : decode cX10_exchange 113 = .ok (.dup2, 1) := by decide +kernel
theorem dX10_exchange_114 : decode cX10_exchange 114 = .ok (.iaload, 1) := by decide +kernel
theorem dX10_exchange_115 : decode cX10_exchange 115 = .ok (.iconst 1, 1) := by decide +kernel
theorem dX10_exchange_116 : decode cX10_exchange 116 = .ok (.iadd, 1) := by decide +kernel
theorem dX10_exchange_117 : decode cX10_exchange 117 = .ok (.iastore, 1) := by decide +kernel
theorem dX10_exchange_118 : decode cX10_exchange 118 = .ok (.iinc 4 1, 3) := by decide +kernel
theorem dX10_exchange_121 : decode cX10_exchange 121 = .ok (.iinc 5 1, 3) := by decide +kernel
theorem dX10_exchange_124 : decode cX10_exchange 124 = .ok (.goto (-71), 3) := by decide +kernel
theorem dX10_exchange_127 : decode cX10_exchange 127 = .ok (.iconst 0, 1) := by decide +kernel
theorem dX10_exchange_128 : decode cX10_exchange 128 = .ok (.istore 5, 2) := by decide +kernel
theorem dX10_exchange_130 : decode cX10_exchange 130 = .ok (.iload 5, 2) := by decide +kernel
theorem dX10_exchange_132 : decode cX10_exchange 132 = .ok (.bipush 16, 2) := by decide +kernel
theorem dX10_exchange_134 : decode cX10_exchange 134 = .ok (.if_icmp .ge 93, 3) := by decide +kernel
theorem dX10_exchange_137 : decode cX10_exchange 137 = .ok (.aload_n 0, 1) := by decide +kernel
theorem dX10_exchange_138 : decode cX10_exchange 138 = .ok (.getfield 50, 3) := by decide +kernel
theorem dX10_exchange_141 : decode cX10_exchange 141 = .ok (.bipush 16, 2) := by decide +kernel
theorem dX10_exchange_143 : decode cX10_exchange 143 = .ok (.iload_n 1, 1) := by decide +kernel
theorem dX10_exchange_144 : decode cX10_exchange 144 = .ok (.imul, 1) := by decide +kernel
theorem dX10_exchange_145 : decode cX10_exchange 145 = .ok (.iload 5, 2) := by decide +kernel
theorem dX10_exchange_147 : decode cX10_exchange 147 = .ok (.iadd, 1) := by decide +kernel
theorem dX10_exchange_148 : decode cX10_exchange 148 = .ok (.iaload, 1) := by decide +kernel
theorem dX10_exchange_149 : decode cX10_exchange 149 = .ok (.aload_n 0, 1) := by decide +kernel
theorem dX10_exchange_150 : decode cX10_exchange 150 = .ok (.getfield 50, 3) := by decide +kernel
theorem dX10_exchange_153 : decode cX10_exchange 153 = .ok (.bipush 16, 2) := by decide +kernel
theorem dX10_exchange_155 : decode cX10_exchange 155 = .ok (.iload_n 2, 1) := by decide +kernel
theorem dX10_exchange_156 : decode cX10_exchange 156 = .ok (.imul, 1) := by decide +kernel
theorem dX10_exchange_157 : decode cX10_exchange 157 = .ok (.iload 5, 2) := by decide +kernel
theorem dX10_exchange_159 : decode cX10_exchange 159 = .ok (.iadd, 1) := by decide +kernel
theorem dX10_exchange_160 : decode cX10_exchange 160 = .ok (.iaload, 1) := by decide +kernel
theorem dX10_exchange_161 : decode cX10_exchange 161 = .ok (.if_icmp .le 18, 3) := by decide +kernel
theorem dX10_exchange_164 : decode cX10_exchange 164 = .ok (.aload_n 0, 1) := by decide +kernel
theorem dX10_exchange_165 : decode cX10_exchange 165 = .ok (.getfield 50, 3) := by decide +kernel
theorem dX10_exchange_168 : decode cX10_exchange 168 = .ok (.bipush 16, 2) := by decide +kernel
theorem dX10_exchange_170 : decode cX10_exchange 170 = .ok (.iload_n 1, 1) := by decide +kernel
theorem dX10_exchange_171 : decode cX10_exchange 171 = .ok (.imul, 1) := by decide +kernel
theorem dX10_exchange_172 : decode cX10_exchange 172 = .ok (.iload 5, 2) := by decide +kernel
theorem dX10_exchange_174 : decode cX10_exchange 174 = .ok (.iadd, 1) := by decide +kernel
theorem dX10_exchange_175 : decode cX10_exchange 175 = .ok (.iaload, 1) := by decide +kernel
theorem dX10_exchange_176 : decode cX10_exchange 176 = .ok (.goto 15, 3) := by decide +kernel
theorem dX10_exchange_179 : decode cX10_exchange 179 = .ok (.aload_n 0, 1) := by decide +kernel
theorem dX10_exchange_180 : decode cX10_exchange 180 = .ok (.getfield 50, 3) := by decide +kernel
theorem dX10_exchange_183 : decode cX10_exchange 183 = .ok (.bipush 16, 2) := by decide +kernel
theorem dX10_exchange_185 : decode cX10_exchange 185 = .ok (.iload_n 2, 1) := by decide +kernel
theorem dX10_exchange_186 : decode cX10_exchange 186 = .ok (.imul, 1) := by decide +kernel
theorem dX10_exchange_187 : decode cX10_exchange 187 = .ok (.iload 5, 2) := by decide +kernel
theorem dX10_exchange_189 : decode cX10_exchange 189 = .ok (.iadd, 1) := by decide +kernel
theorem dX10_exchange_190 : decode cX10_exchange 190 = .ok (.iaload, 1) := by decide +kernel
theorem dX10_exchange_191 : decode cX10_exchange 191 = .ok (.istore 6, 2) := by decide +kernel
theorem dX10_exchange_193 : decode cX10_exchange 193 = .ok (.aload_n 0, 1) := by decide +kernel
theorem dX10_exchange_194 : decode cX10_exchange 194 = .ok (.getfield 50, 3) := by decide +kernel
theorem dX10_exchange_197 : decode cX10_exchange 197 = .ok (.bipush 16, 2) := by decide +kernel
theorem dX10_exchange_199 : decode cX10_exchange 199 = .ok (.iload_n 1, 1) := by decide +kernel
theorem dX10_exchange_200 : decode cX10_exchange 200 = .ok (.imul, 1) := by decide +kernel
theorem dX10_exchange_201 : decode cX10_exchange 201 = .ok (.iload 5, 2) := by decide +kernel
theorem dX10_exchange_203 : decode cX10_exchange 203 = .ok (.iadd, 1) := by decide +kernel
theorem dX10_exchange_204 : decode cX10_exchange 204 = .ok (.iload 6, 2) := by decide +kernel
theorem dX10_exchange_206 : decode cX10_exchange 206 = .ok (.iastore, 1) := by decide +kernel
theorem dX10_exchange_207 : decode cX10_exchange 207 = .ok (.aload_n 0, 1) := by decide +kernel
theorem dX10_exchange_208 : decode cX10_exchange 208 = .ok (.getfield 50, 3) := by decide +kernel
theorem dX10_exchange_211 : decode cX10_exchange 211 = .ok (.bipush 16, 2) := by decide +kernel
theorem dX10_exchange_213 : decode cX10_exchange 213 = .ok (.iload_n 2, 1) := by decide +kernel
theorem dX10_exchange_214 : decode cX10_exchange 214 = .ok (.imul, 1) := by decide +kernel
theorem dX10_exchange_215 : decode cX10_exchange 215 = .ok (.iload 5, 2) := by decide +kernel
theorem dX10_exchange_217 : decode cX10_exchange 217 = .ok (.iadd, 1) := by decide +kernel
theorem dX10_exchange_218 : decode cX10_exchange 218 = .ok (.iload 6, 2) := by decide +kernel
theorem dX10_exchange_220 : decode cX10_exchange 220 = .ok (.iastore, 1) := by decide +kernel
theorem dX10_exchange_221 : decode cX10_exchange 221 = .ok (.iinc 5 1, 3) := by decide +kernel
theorem dX10_exchange_224 : decode cX10_exchange 224 = .ok (.goto (-94), 3) := by decide +kernel
theorem dX10_exchange_227 : decode cX10_exchange 227 = .ok (.aload_n 0, 1) := by decide +kernel
theorem dX10_exchange_228 : decode cX10_exchange 228 = .ok (.iconst (-1), 1) := by decide +kernel
theorem dX10_exchange_229 : decode cX10_exchange 229 = .ok (.putfield 99, 3) := by decide +kernel
theorem dX10_exchange_232 : decode cX10_exchange 232 = .ok (.iload 4, 2) := by decide +kernel
theorem dX10_exchange_234 : decode cX10_exchange 234 = .ok (.ireturn, 1) := by decide +kernel
theorem dX10_knowsDeleted_0 : decode cX10_knowsDeleted 0 = .ok (.iconst 0, 1) := by decide +kernel
theorem dX10_knowsDeleted_1 : decode cX10_knowsDeleted 1 = .ok (.istore 4, 2) := by decide +kernel
theorem dX10_knowsDeleted_3 : decode cX10_knowsDeleted 3 = .ok (.iconst 0, 1) := by decide +kernel
theorem dX10_knowsDeleted_4 : decode cX10_knowsDeleted 4 = .ok (.istore 5, 2) := by decide +kernel
theorem dX10_knowsDeleted_6 : decode cX10_knowsDeleted 6 = .ok (.iload 5, 2) := by decide +kernel
theorem dX10_knowsDeleted_8 : decode cX10_knowsDeleted 8 = .ok (.aload_n 0, 1) := by decide +kernel
theorem dX10_knowsDeleted_9 : decode cX10_knowsDeleted 9 = .ok (.getfield 212, 3) := by decide +kernel
theorem dX10_knowsDeleted_12 : decode cX10_knowsDeleted 12 = .ok (.if_icmp .ge 85, 3) := by decide +kernel
theorem dX10_knowsDeleted_15 : decode cX10_knowsDeleted 15 = .ok (.iload 4, 2) := by decide +kernel
theorem dX10_knowsDeleted_17 : decode cX10_knowsDeleted 17 = .ok (.ifCond .ne 67, 3) := by decide +kernel
theorem dX10_knowsDeleted_20 : decode cX10_knowsDeleted 20 = .ok (.aload_n 0, 1) := by decide +kernel
theorem dX10_knowsDeleted_21 : decode cX10_knowsDeleted 21 = .ok (.getfield 69, 3) := by decide +kernel
theorem dX10_knowsDeleted_24 : decode cX10_knowsDeleted 24 = .ok (.iload 5, 2) := by decide +kernel
theorem dX10_knowsDeleted_26 : decode cX10_knowsDeleted 26 = .ok (.iaload, 1) := by decide +kernel
theorem dX10_knowsDeleted_27 : decode cX10_knowsDeleted 27 = .ok (.bipush 8, 2) := by decide +kernel
theorem dX10_knowsDeleted_29 : decode cX10_knowsDeleted 29 = .ok (.if_icmp .ne 59, 3) := by decide +kernel
theorem dX10_knowsDeleted_32 : decode cX10_knowsDeleted 32 = .ok (.aload_n 0, 1) := by decide +kernel
theorem dX10_knowsDeleted_33 : decode cX10_knowsDeleted 33 = .ok (.getfield 72, 3) := by decide +kernel
theorem dX10_knowsDeleted_36 : decode cX10_knowsDeleted 36 = .ok (.iload 5, 2) := by decide +kernel
theorem dX10_knowsDeleted_38 : decode cX10_knowsDeleted 38 = .ok (.iaload, 1) := by decide +kernel
theorem dX10_knowsDeleted_39 : decode cX10_knowsDeleted 39 = .ok (.iload_n 3, 1) := by decide +kernel
theorem dX10_knowsDeleted_40 : decode cX10_knowsDeleted 40 = .ok (.if_icmp .ne 48, 3) := by decide +kernel
theorem dX10_knowsDeleted_43 : decode cX10_knowsDeleted 43 = .ok (.aload_n 0, 1) := by decide +kernel
theorem dX10_knowsDeleted_44 : decode cX10_knowsDeleted 44 = .ok (.iload_n 1, 1) := by decide +kernel
theorem dX10_knowsDeleted_45 : decode cX10_knowsDeleted 45 = .ok (.iload 5, 2) := by decide +kernel
theorem dX10_knowsDeleted_47 : decode cX10_knowsDeleted 47 = .ok (.invokevirtual 215, 3) := by decide +kernel
theorem dX10_knowsDeleted_50 : decode cX10_knowsDeleted 50 = .ok (.ifCond .eq 38, 3) := by decide +kernel
theorem dX10_knowsDeleted_53 : decode cX10_knowsDeleted 53 = .ok (.aload_n 0, 1) := by decide +kernel
theorem dX10_knowsDeleted_54 : decode cX10_knowsDeleted 54 = .ok (.getfield 66, 3) := by decide +kernel
theorem dX10_knowsDeleted_57 : decode cX10_knowsDeleted 57 = .ok (.iload 5, 2) := by decide +kernel
theorem dX10_knowsDeleted_59 : decode cX10_knowsDeleted 59 = .ok (.iaload, 1) := by decide +kernel
theorem dX10_knowsDeleted_60 : decode cX10_knowsDeleted 60 = .ok (.aload_n 0, 1) := by decide +kernel
theorem dX10_knowsDeleted_61 : decode cX10_knowsDeleted 61 = .ok (.getfield 50, 3) := by decide +kernel
theorem dX10_knowsDeleted_64 : decode cX10_knowsDeleted 64 = .ok (.bipush 16, 2) := by decide +kernel
theorem dX10_knowsDeleted_66 : decode cX10_knowsDeleted 66 = .ok (.iload_n 1, 1) := by decide +kernel
theorem dX10_knowsDeleted_67 : decode cX10_knowsDeleted 67 = .ok (.imul, 1) := by decide +kernel
theorem dX10_knowsDeleted_68 : decode cX10_knowsDeleted 68 = .ok (.iconst 4, 1) := by decide +kernel
theorem dX10_knowsDeleted_69 : decode cX10_knowsDeleted 69 = .ok (.iload_n 2, 1) := by decide +kernel
theorem dX10_knowsDeleted_70 : decode cX10_knowsDeleted 70 = .ok (.imul, 1) := by decide +kernel
theorem dX10_knowsDeleted_71 : decode cX10_knowsDeleted 71 = .ok (.iadd, 1) := by decide +kernel
theorem dX10_knowsDeleted_72 : decode cX10_knowsDeleted 72 = .ok (.aload_n 0, 1) := by decide +kernel
theorem dX10_knowsDeleted_73 : decode cX10_knowsDeleted 73 = .ok (.getfield 63, 3) := by decide +kernel
theorem dX10_knowsDeleted_76 : decode cX10_knowsDeleted 76 = .ok (.iload 5, 2) := by decide +kernel
theorem dX10_knowsDeleted_78 : decode cX10_knowsDeleted 78 = .ok (.iaload, 1) := by decide +kernel
theorem dX10_knowsDeleted_79 : decode cX10_knowsDeleted 79 = .ok (.iadd, 1) := by decide +kernel
theorem dX10_knowsDeleted_80 : decode cX10_knowsDeleted 80 = .ok (.iaload, 1) := by decide +kernel
theorem dX10_knowsDeleted_81 : decode cX10_knowsDeleted 81 = .ok (.if_icmp .ge 7, 3) := by decide +kernel
theorem dX10_knowsDeleted_84 : decode cX10_knowsDeleted 84 = .ok (.iconst 1, 1) := by decide +kernel
theorem dX10_knowsDeleted_85 : decode cX10_knowsDeleted 85 = .ok (.goto 4, 3) := by decide +kernel
theorem dX10_knowsDeleted_88 : decode cX10_knowsDeleted 88 = .ok (.iconst 0, 1) := by decide +kernel
theorem dX10_knowsDeleted_89 : decode cX10_knowsDeleted 89 = .ok (.istore 4, 2) := by decide +kernel
theorem dX10_knowsDeleted_91 : decode cX10_knowsDeleted 91 = .ok (.iinc 5 1, 3) := by decide +kernel
theorem dX10_knowsDeleted_94 : decode cX10_knowsDeleted 94 = .ok (.goto (-88), 3) := by decide +kernel
theorem dX10_knowsDeleted_97 : decode cX10_knowsDeleted 97 = .ok (.iload 4, 2) := by decide +kernel
theorem dX10_knowsDeleted_99 : decode cX10_knowsDeleted 99 = .ok (.ireturn, 1) := by decide +kernel
theorem dX10_isMarked_0 : decode cX10_isMarked 0 = .ok (.aload_n 0, 1) := by decide +kernel
theorem dX10_isMarked_1 : decode cX10_isMarked 1 = .ok (.getfield 53, 3) := by decide +kernel
theorem dX10_isMarked_4 : decode cX10_isMarked 4 = .ok (.bipush 48, 2) := by decide +kernel
theorem dX10_isMarked_6 : decode cX10_isMarked 6 = .ok (.iload_n 1, 1) := by decide +kernel
theorem dX10_isMarked_7 : decode cX10_isMarked 7 = .ok (.imul, 1) := by decide +kernel
theorem dX10_isMarked_8 : decode cX10_isMarked 8 = .ok (.iload_n 2, 1) := by decide +kernel
theorem dX10_isMarked_9 : decode cX10_isMarked 9 = .ok (.iadd, 1) := by decide +kernel
theorem dX10_isMarked_10 : decode cX10_isMarked 10 = .ok (.baload, 1) := by decide +kernel
theorem dX10_isMarked_11 : decode cX10_isMarked 11 = .ok (.ifCond .ne 17, 3) := by decide +kernel
theorem dX10_isMarked_14 : decode cX10_isMarked 14 = .ok (.aload_n 0, 1) := by decide +kernel
theorem dX10_isMarked_15 : decode cX10_isMarked 15 = .ok (.iload_n 1, 1) := by decide +kernel
theorem dX10_isMarked_16 : decode cX10_isMarked 16 = .ok (.iload_n 1, 1) := by decide +kernel
theorem dX10_isMarked_17 : decode cX10_isMarked 17 = .ok (.iload_n 2, 1) := by decide +kernel
theorem dX10_isMarked_18 : decode cX10_isMarked 18 = .ok (.invokevirtual 310, 3) := by decide +kernel
theorem dX10_isMarked_21 : decode cX10_isMarked 21 = .ok (.ifCond .eq 7, 3) := by decide +kernel
theorem dX10_isMarked_24 : decode cX10_isMarked 24 = .ok (.iconst 1, 1) := by decide +kernel
theorem dX10_isMarked_25 : decode cX10_isMarked 25 = .ok (.goto 4, 3) := by decide +kernel
theorem dX10_isMarked_28 : decode cX10_isMarked 28 = .ok (.iconst 0, 1) := by decide +kernel
theorem dX10_isMarked_29 : decode cX10_isMarked 29 = .ok (.ireturn, 1) := by decide +kernel
theorem dX10_marksOf_0 : decode cX10_marksOf 0 = .ok (.iconst 0, 1) := by decide +kernel
theorem dX10_marksOf_1 : decode cX10_marksOf 1 = .ok (.istore_n 2, 1) := by decide +kernel
theorem dX10_marksOf_2 : decode cX10_marksOf 2 = .ok (.iconst 0, 1) := by decide +kernel
theorem dX10_marksOf_3 : decode cX10_marksOf 3 = .ok (.istore_n 3, 1) := by decide +kernel
theorem dX10_marksOf_4 : decode cX10_marksOf 4 = .ok (.iload_n 3, 1) := by decide +kernel
theorem dX10_marksOf_5 : decode cX10_marksOf 5 = .ok (.aload_n 0, 1) := by decide +kernel
theorem dX10_marksOf_6 : decode cX10_marksOf 6 = .ok (.getfield 56, 3) := by decide +kernel
theorem dX10_marksOf_9 : decode cX10_marksOf 9 = .ok (.if_icmp .ge 26, 3) := by decide +kernel
theorem dX10_marksOf_12 : decode cX10_marksOf 12 = .ok (.iload_n 2, 1) := by decide +kernel
theorem dX10_marksOf_13 : decode cX10_marksOf 13 = .ok (.aload_n 0, 1) := by decide +kernel
theorem dX10_marksOf_14 : decode cX10_marksOf 14 = .ok (.iload_n 1, 1) := by decide +kernel
theorem dX10_marksOf_15 : decode cX10_marksOf 15 = .ok (.iload_n 3, 1) := by decide +kernel
theorem dX10_marksOf_16 : decode cX10_marksOf 16 = .ok (.invokevirtual 313, 3) := by decide +kernel
theorem dX10_marksOf_19 : decode cX10_marksOf 19 = .ok (.ifCond .eq 7, 3) := by decide +kernel
theorem dX10_marksOf_22 : decode cX10_marksOf 22 = .ok (.iconst 1, 1) := by decide +kernel
theorem dX10_marksOf_23 : decode cX10_marksOf 23 = .ok (.goto 4, 3) := by decide +kernel
theorem dX10_marksOf_26 : decode cX10_marksOf 26 = .ok (.iconst 0, 1) := by decide +kernel
theorem dX10_marksOf_27 : decode cX10_marksOf 27 = .ok (.iadd, 1) := by decide +kernel
theorem dX10_marksOf_28 : decode cX10_marksOf 28 = .ok (.istore_n 2, 1) := by decide +kernel
theorem dX10_marksOf_29 : decode cX10_marksOf 29 = .ok (.iinc 3 1, 3) := by decide +kernel
theorem dX10_marksOf_32 : decode cX10_marksOf 32 = .ok (.goto (-28), 3) := by decide +kernel
theorem dX10_marksOf_35 : decode cX10_marksOf 35 = .ok (.iload_n 2, 1) := by decide +kernel
theorem dX10_marksOf_36 : decode cX10_marksOf 36 = .ok (.ireturn, 1) := by decide +kernel
theorem dX10_sweep_0 : decode cX10_sweep 0 = .ok (.aload_n 0, 1) := by decide +kernel
theorem dX10_sweep_1 : decode cX10_sweep 1 = .ok (.iconst 0, 1) := by decide +kernel
theorem dX10_sweep_2 : decode cX10_sweep 2 = .ok (.putfield 177, 3) := by decide +kernel
theorem dX10_sweep_5 : decode cX10_sweep 5 = .ok (.iload_n 1, 1) := by decide +kernel
theorem dX10_sweep_6 : decode cX10_sweep 6 = .ok (.invokestatic 226, 3) := by decide +kernel
theorem dX10_sweep_9 : decode cX10_sweep 9 = .ok (.ifCond .ne 9, 3) := by decide +kernel
theorem dX10_sweep_12 : decode cX10_sweep 12 = .ok (.aload_n 0, 1) := by decide +kernel
theorem dX10_sweep_13 : decode cX10_sweep 13 = .ok (.iconst 1, 1) := by decide +kernel
theorem dX10_sweep_14 : decode cX10_sweep 14 = .ok (.invokevirtual 246, 3) := by decide +kernel
theorem dX10_sweep_17 : decode cX10_sweep 17 = .ok (.ireturn, 1) := by decide +kernel
theorem dX10_sweep_18 : decode cX10_sweep 18 = .ok (.iconst 0, 1) := by decide +kernel
theorem dX10_sweep_19 : decode cX10_sweep 19 = .ok (.istore_n 2, 1) := by decide +kernel
theorem dX10_sweep_20 : decode cX10_sweep 20 = .ok (.iconst 0, 1) := by decide +kernel
theorem dX10_sweep_21 : decode cX10_sweep 21 = .ok (.istore_n 3, 1) := by decide +kernel
theorem dX10_sweep_22 : decode cX10_sweep 22 = .ok (.iload_n 3, 1) := by decide +kernel
theorem dX10_sweep_23 : decode cX10_sweep 23 = .ok (.aload_n 0, 1) := by decide +kernel
theorem dX10_sweep_24 : decode cX10_sweep 24 = .ok (.getfield 56, 3) := by decide +kernel
theorem dX10_sweep_27 : decode cX10_sweep 27 = .ok (.if_icmp .ge 113, 3) := by decide +kernel
theorem dX10_sweep_30 : decode cX10_sweep 30 = .ok (.aload_n 0, 1) := by decide +kernel
theorem dX10_sweep_31 : decode cX10_sweep 31 = .ok (.iload_n 1, 1) := by decide +kernel
theorem dX10_sweep_32 : decode cX10_sweep 32 = .ok (.iload_n 3, 1) := by decide +kernel
theorem dX10_sweep_33 : decode cX10_sweep 33 = .ok (.invokevirtual 313, 3) := by decide +kernel
theorem dX10_sweep_36 : decode cX10_sweep 36 = .ok (.ifCond .eq 47, 3) := by decide +kernel
theorem dX10_sweep_39 : decode cX10_sweep 39 = .ok (.aload_n 0, 1) := by decide +kernel
theorem dX10_sweep_40 : decode cX10_sweep 40 = .ok (.iload_n 1, 1) := by decide +kernel
theorem dX10_sweep_41 : decode cX10_sweep 41 = .ok (.iconst 0, 1) := by decide +kernel
theorem dX10_sweep_42 : decode cX10_sweep 42 = .ok (.iload_n 3, 1) := by decide +kernel
theorem dX10_sweep_43 : decode cX10_sweep 43 = .ok (.invokevirtual 310, 3) := by decide +kernel
theorem dX10_sweep_46 : decode cX10_sweep 46 = .ok (.ifCond .eq 37, 3) := by decide +kernel
theorem dX10_sweep_49 : decode cX10_sweep 49 = .ok (.aload_n 0, 1) := by decide +kernel
theorem dX10_sweep_50 : decode cX10_sweep 50 = .ok (.iload_n 1, 1) := by decide +kernel
theorem dX10_sweep_51 : decode cX10_sweep 51 = .ok (.iconst 1, 1) := by decide +kernel
theorem dX10_sweep_52 : decode cX10_sweep 52 = .ok (.iload_n 3, 1) := by decide +kernel
theorem dX10_sweep_53 : decode cX10_sweep 53 = .ok (.invokevirtual 310, 3) := by decide +kernel
theorem dX10_sweep_56 : decode cX10_sweep 56 = .ok (.ifCond .eq 27, 3) := by decide +kernel
theorem dX10_sweep_59 : decode cX10_sweep 59 = .ok (.aload_n 0, 1) := by decide +kernel
theorem dX10_sweep_60 : decode cX10_sweep 60 = .ok (.iload_n 1, 1) := by decide +kernel
theorem dX10_sweep_61 : decode cX10_sweep 61 = .ok (.iconst 2, 1) := by decide +kernel
theorem dX10_sweep_62 : decode cX10_sweep 62 = .ok (.iload_n 3, 1) := by decide +kernel
theorem dX10_sweep_63 : decode cX10_sweep 63 = .ok (.invokevirtual 310, 3) := by decide +kernel
theorem dX10_sweep_66 : decode cX10_sweep 66 = .ok (.ifCond .eq 17, 3) := by decide +kernel
theorem dX10_sweep_69 : decode cX10_sweep 69 = .ok (.aload_n 0, 1) := by decide +kernel
theorem dX10_sweep_70 : decode cX10_sweep 70 = .ok (.iload_n 1, 1) := by decide +kernel
theorem dX10_sweep_71 : decode cX10_sweep 71 = .ok (.iconst 3, 1) := by decide +kernel
theorem dX10_sweep_72 : decode cX10_sweep 72 = .ok (.iload_n 3, 1) := by decide +kernel
theorem dX10_sweep_73 : decode cX10_sweep 73 = .ok (.invokevirtual 310, 3) := by decide +kernel
theorem dX10_sweep_76 : decode cX10_sweep 76 = .ok (.ifCond .eq 7, 3) := by decide +kernel
theorem dX10_sweep_79 : decode cX10_sweep 79 = .ok (.iconst 1, 1) := by decide +kernel
theorem dX10_sweep_80 : decode cX10_sweep 80 = .ok (.goto 4, 3) := by decide +kernel
theorem dX10_sweep_83 : decode cX10_sweep 83 = .ok (.iconst 0, 1) := by decide +kernel
theorem dX10_sweep_84 : decode cX10_sweep 84 = .ok (.istore 4, 2) := by decide +kernel
theorem dX10_sweep_86 : decode cX10_sweep 86 = .ok (.aload_n 0, 1) := by decide +kernel
theorem dX10_sweep_87 : decode cX10_sweep 87 = .ok (.getfield 53, 3) := by decide +kernel
theorem dX10_sweep_90 : decode cX10_sweep 90 = .ok (.bipush 48, 2) := by decide +kernel
theorem dX10_sweep_92 : decode cX10_sweep 92 = .ok (.iload_n 1, 1) := by decide +kernel
theorem dX10_sweep_93 : decode cX10_sweep 93 = .ok (.imul, 1) := by decide +kernel
theorem dX10_sweep_94 : decode cX10_sweep 94 = .ok (.iload_n 3, 1) := by decide +kernel
theorem dX10_sweep_95 : decode cX10_sweep 95 = .ok (.iadd, 1) := by decide +kernel
theorem dX10_sweep_96 : decode cX10_sweep 96 = .ok (.aload_n 0, 1) := by decide +kernel
theorem dX10_sweep_97 : decode cX10_sweep 97 = .ok (.getfield 53, 3) := by decide +kernel
theorem dX10_sweep_100 : decode cX10_sweep 100 = .ok (.bipush 48, 2) := by decide +kernel
theorem dX10_sweep_102 : decode cX10_sweep 102 = .ok (.iload_n 1, 1) := by decide +kernel
theorem dX10_sweep_103 : decode cX10_sweep 103 = .ok (.imul, 1) := by decide +kernel
theorem dX10_sweep_104 : decode cX10_sweep 104 = .ok (.iload_n 3, 1) := by decide +kernel
theorem dX10_sweep_105 : decode cX10_sweep 105 = .ok (.iadd, 1) := by decide +kernel
theorem dX10_sweep_106 : decode cX10_sweep 106 = .ok (.baload, 1) := by decide +kernel
theorem dX10_sweep_107 : decode cX10_sweep 107 = .ok (.ifCond .ne 8, 3) := by decide +kernel
theorem dX10_sweep_110 : decode cX10_sweep 110 = .ok (.iload 4, 2) := by decide +kernel
theorem dX10_sweep_112 : decode cX10_sweep 112 = .ok (.ifCond .eq 7, 3) := by decide +kernel
theorem dX10_sweep_115 : decode cX10_sweep 115 = .ok (.iconst 1, 1) := by decide +kernel
theorem dX10_sweep_116 : decode cX10_sweep 116 = .ok (.goto 4, 3) := by decide +kernel
theorem dX10_sweep_119 : decode cX10_sweep 119 = .ok (.iconst 0, 1) := by decide +kernel
theorem dX10_sweep_120 : decode cX10_sweep 120 = .ok (.bastore, 1) := by decide +kernel
theorem dX10_sweep_121 : decode cX10_sweep 121 = .ok (.iload_n 2, 1) := by decide +kernel
theorem dX10_sweep_122 : decode cX10_sweep 122 = .ok (.iload 4, 2) := by decide +kernel
theorem dX10_sweep_124 : decode cX10_sweep 124 = .ok (.ifCond .eq 7, 3) := by decide +kernel
theorem dX10_sweep_127 : decode cX10_sweep 127 = .ok (.iconst 1, 1) := by decide +kernel
theorem dX10_sweep_128 : decode cX10_sweep 128 = .ok (.goto 4, 3) := by decide +kernel
theorem dX10_sweep_131 : decode cX10_sweep 131 = .ok (.iconst 0, 1) := by decide +kernel
theorem dX10_sweep_132 : decode cX10_sweep 132 = .ok (.iadd, 1) := by decide +kernel
theorem dX10_sweep_133 : decode cX10_sweep 133 = .ok (.istore_n 2, 1) := by decide +kernel
theorem dX10_sweep_134 : decode cX10_sweep 134 = .ok (.iinc 3 1, 3) := by decide +kernel
theorem dX10_sweep_137 : decode cX10_sweep 137 = .ok (.goto (-115), 3) := by decide +kernel
theorem dX10_sweep_140 : decode cX10_sweep 140 = .ok (.iload_n 2, 1) := by decide +kernel
theorem dX10_sweep_141 : decode cX10_sweep 141 = .ok (.ireturn, 1) := by decide +kernel
theorem dX10_isCrowded_0 : decode cX10_isCrowded 0 = .ok (.aload_n 0, 1) := by decide +kernel
theorem dX10_isCrowded_1 : decode cX10_isCrowded 1 = .ok (.getfield 316, 3) := by decide +kernel
theorem dX10_isCrowded_4 : decode cX10_isCrowded 4 = .ok (.bipush 8, 2) := by decide +kernel
theorem dX10_isCrowded_6 : decode cX10_isCrowded 6 = .ok (.if_icmp .eq 12, 3) := by decide +kernel
theorem dX10_isCrowded_9 : decode cX10_isCrowded 9 = .ok (.aload_n 0, 1) := by decide +kernel
theorem dX10_isCrowded_10 : decode cX10_isCrowded 10 = .ok (.getfield 319, 3) := by decide +kernel
theorem dX10_isCrowded_13 : decode cX10_isCrowded 13 = .ok (.bipush 15, 2) := by decide +kernel
theorem dX10_isCrowded_15 : decode cX10_isCrowded 15 = .ok (.if_icmp .ne 7, 3) := by decide +kernel
theorem dX10_isCrowded_18 : decode cX10_isCrowded 18 = .ok (.iconst 1, 1) := by decide +kernel
theorem dX10_isCrowded_19 : decode cX10_isCrowded 19 = .ok (.goto 4, 3) := by decide +kernel
theorem dX10_isCrowded_22 : decode cX10_isCrowded 22 = .ok (.iconst 0, 1) := by decide +kernel
theorem dX10_isCrowded_23 : decode cX10_isCrowded 23 = .ok (.ireturn, 1) := by decide +kernel
theorem dX10_puts_0 : decode cX10_puts 0 = .ok (.aload_n 0, 1) := by decide +kernel
theorem dX10_puts_1 : decode cX10_puts 1 = .ok (.getfield 32, 3) := by decide +kernel
theorem dX10_puts_4 : decode cX10_puts 4 = .ok (.aload_n 0, 1) := by decide +kernel
theorem dX10_puts_5 : decode cX10_puts 5 = .ok (.getfield 319, 3) := by decide +kernel
theorem dX10_puts_8 : decode cX10_puts 8 = .ok (.iload_n 1, 1) := by decide +kernel
theorem dX10_puts_9 : decode cX10_puts 9 = .ok (.iastore, 1) := by decide +kernel
theorem dX10_puts_10 : decode cX10_puts 10 = .ok (.aload_n 0, 1) := by decide +kernel
theorem dX10_puts_11 : decode cX10_puts 11 = .ok (.getfield 35, 3) := by decide +kernel
theorem dX10_puts_14 : decode cX10_puts 14 = .ok (.aload_n 0, 1) := by decide +kernel
theorem dX10_puts_15 : decode cX10_puts 15 = .ok (.getfield 319, 3) := by decide +kernel
theorem dX10_puts_18 : decode cX10_puts 18 = .ok (.iload_n 2, 1) := by decide +kernel
theorem dX10_puts_19 : decode cX10_puts 19 = .ok (.iastore, 1) := by decide +kernel
theorem dX10_puts_20 : decode cX10_puts 20 = .ok (.aload_n 0, 1) := by decide +kernel
theorem dX10_puts_21 : decode cX10_puts 21 = .ok (.getfield 38, 3) := by decide +kernel
theorem dX10_puts_24 : decode cX10_puts 24 = .ok (.aload_n 0, 1) := by decide +kernel
theorem dX10_puts_25 : decode cX10_puts 25 = .ok (.getfield 319, 3) := by decide +kernel
theorem dX10_puts_28 : decode cX10_puts 28 = .ok (.iload_n 3, 1) := by decide +kernel
theorem dX10_puts_29 : decode cX10_puts 29 = .ok (.iastore, 1) := by decide +kernel
theorem dX10_puts_30 : decode cX10_puts 30 = .ok (.aload_n 0, 1) := by decide +kernel
theorem dX10_puts_31 : decode cX10_puts 31 = .ok (.getfield 44, 3) := by decide +kernel
theorem dX10_puts_34 : decode cX10_puts 34 = .ok (.aload_n 0, 1) := by decide +kernel
theorem dX10_puts_35 : decode cX10_puts 35 = .ok (.getfield 316, 3) := by decide +kernel
theorem dX10_puts_38 : decode cX10_puts 38 = .ok (.aload_n 0, 1) := by decide +kernel
theorem dX10_puts_39 : decode cX10_puts 39 = .ok (.getfield 319, 3) := by decide +kernel
theorem dX10_puts_42 : decode cX10_puts 42 = .ok (.iastore, 1) := by decide +kernel
theorem dX10_puts_43 : decode cX10_puts 43 = .ok (.aload_n 0, 1) := by decide +kernel
theorem dX10_puts_44 : decode cX10_puts 44 = .ok (.dup, 1) := by decide +kernel
theorem dX10_puts_45 : decode cX10_puts 45 = .ok (.getfield 319, 3) := by decide +kernel
theorem dX10_puts_48 : decode cX10_puts 48 = .ok (.iconst 1, 1) := by decide +kernel
theorem dX10_puts_49 : decode cX10_puts 49 = .ok (.iadd, 1) := by decide +kernel
theorem dX10_puts_50 : decode cX10_puts 50 = .ok (.putfield 319, 3) := by decide +kernel
theorem dX10_puts_53 : decode cX10_puts 53 = .ok (.aload_n 0, 1) := by decide +kernel
theorem dX10_puts_54 : decode cX10_puts 54 = .ok (.dup, 1) := by decide +kernel
theorem dX10_puts_55 : decode cX10_puts 55 = .ok (.getfield 316, 3) := by decide +kernel
theorem dX10_puts_58 : decode cX10_puts 58 = .ok (.iconst 1, 1) := by decide +kernel
theorem dX10_puts_59 : decode cX10_puts 59 = .ok (.iadd, 1) := by decide +kernel
theorem dX10_puts_60 : decode cX10_puts 60 = .ok (.putfield 316, 3) := by decide +kernel
theorem dX10_puts_63 : decode cX10_puts 63 = .ok (.aload_n 0, 1) := by decide +kernel
theorem dX10_puts_64 : decode cX10_puts 64 = .ok (.getfield 316, 3) := by decide +kernel
theorem dX10_puts_67 : decode cX10_puts 67 = .ok (.ireturn, 1) := by decide +kernel
theorem dX10_equal_0 : decode cX10_equal 0 = .ok (.aload_n 0, 1) := by decide +kernel
theorem dX10_equal_1 : decode cX10_equal 1 = .ok (.aload_n 0, 1) := by decide +kernel
theorem dX10_equal_2 : decode cX10_equal 2 = .ok (.iload_n 1, 1) := by decide +kernel
theorem dX10_equal_3 : decode cX10_equal 3 = .ok (.invokevirtual 250, 3) := by decide +kernel
theorem dX10_equal_6 : decode cX10_equal 6 = .ok (.ifCond .ne 7, 3) := by decide +kernel
theorem dX10_equal_9 : decode cX10_equal 9 = .ok (.iconst 1, 1) := by decide +kernel
theorem dX10_equal_10 : decode cX10_equal 10 = .ok (.goto 26, 3) := by decide +kernel
theorem dX10_equal_13 : decode cX10_equal 13 = .ok (.iload_n 2, 1) := by decide +kernel
theorem dX10_equal_14 : decode cX10_equal 14 = .ok (.invokestatic 253, 3) := by decide +kernel
theorem dX10_equal_17 : decode cX10_equal 17 = .ok (.ifCond .ne 7, 3) := by decide +kernel
theorem dX10_equal_20 : decode cX10_equal 20 = .ok (.iconst 2, 1) := by decide +kernel
theorem dX10_equal_21 : decode cX10_equal 21 = .ok (.goto 15, 3) := by decide +kernel
theorem dX10_equal_24 : decode cX10_equal 24 = .ok (.aload_n 0, 1) := by decide +kernel
theorem dX10_equal_25 : decode cX10_equal 25 = .ok (.invokevirtual 322, 3) := by decide +kernel
theorem dX10_equal_28 : decode cX10_equal 28 = .ok (.ifCond .eq 7, 3) := by decide +kernel
theorem dX10_equal_31 : decode cX10_equal 31 = .ok (.iconst 3, 1) := by decide +kernel
theorem dX10_equal_32 : decode cX10_equal 32 = .ok (.goto 4, 3) := by decide +kernel
theorem dX10_equal_35 : decode cX10_equal 35 = .ok (.iconst 0, 1) := by decide +kernel
theorem dX10_equal_36 : decode cX10_equal 36 = .ok (.putfield 177, 3) := by decide +kernel
theorem dX10_equal_39 : decode cX10_equal 39 = .ok (.aload_n 0, 1) := by decide +kernel
theorem dX10_equal_40 : decode cX10_equal 40 = .ok (.getfield 177, 3) := by decide +kernel
theorem dX10_equal_43 : decode cX10_equal 43 = .ok (.ifCond .le 7, 3) := by decide +kernel
theorem dX10_equal_46 : decode cX10_equal 46 = .ok (.iconst 0, 1) := by decide +kernel
theorem dX10_equal_47 : decode cX10_equal 47 = .ok (.goto 10, 3) := by decide +kernel
theorem dX10_equal_50 : decode cX10_equal 50 = .ok (.aload_n 0, 1) := by decide +kernel
theorem dX10_equal_51 : decode cX10_equal 51 = .ok (.iconst 0, 1) := by decide +kernel
theorem dX10_equal_52 : decode cX10_equal 52 = .ok (.iload_n 1, 1) := by decide +kernel
theorem dX10_equal_53 : decode cX10_equal 53 = .ok (.iload_n 2, 1) := by decide +kernel
theorem dX10_equal_54 : decode cX10_equal 54 = .ok (.invokevirtual 325, 3) := by decide +kernel
theorem dX10_equal_57 : decode cX10_equal 57 = .ok (.ireturn, 1) := by decide +kernel
theorem dX10_atLeast_0 : decode cX10_atLeast 0 = .ok (.aload_n 0, 1) := by decide +kernel
theorem dX10_atLeast_1 : decode cX10_atLeast 1 = .ok (.aload_n 0, 1) := by decide +kernel
theorem dX10_atLeast_2 : decode cX10_atLeast 2 = .ok (.iload_n 1, 1) := by decide +kernel
theorem dX10_atLeast_3 : decode cX10_atLeast 3 = .ok (.invokevirtual 250, 3) := by decide +kernel
theorem dX10_atLeast_6 : decode cX10_atLeast 6 = .ok (.ifCond .ne 7, 3) := by decide +kernel
theorem dX10_atLeast_9 : decode cX10_atLeast 9 = .ok (.iconst 1, 1) := by decide +kernel
theorem dX10_atLeast_10 : decode cX10_atLeast 10 = .ok (.goto 26, 3) := by decide +kernel
theorem dX10_atLeast_13 : decode cX10_atLeast 13 = .ok (.iload_n 2, 1) := by decide +kernel
theorem dX10_atLeast_14 : decode cX10_atLeast 14 = .ok (.invokestatic 253, 3) := by decide +kernel
theorem dX10_atLeast_17 : decode cX10_atLeast 17 = .ok (.ifCond .ne 7, 3) := by decide +kernel
theorem dX10_atLeast_20 : decode cX10_atLeast 20 = .ok (.iconst 2, 1) := by decide +kernel
theorem dX10_atLeast_21 : decode cX10_atLeast 21 = .ok (.goto 15, 3) := by decide +kernel
theorem dX10_atLeast_24 : decode cX10_atLeast 24 = .ok (.aload_n 0, 1) := by decide +kernel
theorem dX10_atLeast_25 : decode cX10_atLeast 25 = .ok (.invokevirtual 322, 3) := by decide +kernel
theorem dX10_atLeast_28 : decode cX10_atLeast 28 = .ok (.ifCond .eq 7, 3) := by decide +kernel
theorem dX10_atLeast_31 : decode cX10_atLeast 31 = .ok (.iconst 3, 1) := by decide +kernel
theorem dX10_atLeast_32 : decode cX10_atLeast 32 = .ok (.goto 4, 3) := by decide +kernel
theorem dX10_atLeast_35 : decode cX10_atLeast 35 = .ok (.iconst 0, 1) := by decide +kernel
theorem dX10_atLeast_36 : decode cX10_atLeast 36 = .ok (.putfield 177, 3) := by decide +kernel
theorem dX10_atLeast_39 : decode cX10_atLeast 39 = .ok (.aload_n 0, 1) := by decide +kernel
theorem dX10_atLeast_40 : decode cX10_atLeast 40 = .ok (.getfield 177, 3) := by decide +kernel
theorem dX10_atLeast_43 : decode cX10_atLeast 43 = .ok (.ifCond .le 7, 3) := by decide +kernel
theorem dX10_atLeast_46 : decode cX10_atLeast 46 = .ok (.iconst 0, 1) := by decide +kernel
theorem dX10_atLeast_47 : decode cX10_atLeast 47 = .ok (.goto 10, 3) := by decide +kernel
theorem dX10_atLeast_50 : decode cX10_atLeast 50 = .ok (.aload_n 0, 1) := by decide +kernel
theorem dX10_atLeast_51 : decode cX10_atLeast 51 = .ok (.iconst 1, 1) := by decide +kernel
theorem dX10_atLeast_52 : decode cX10_atLeast 52 = .ok (.iload_n 1, 1) := by decide +kernel
theorem dX10_atLeast_53 : decode cX10_atLeast 53 = .ok (.iload_n 2, 1) := by decide +kernel
theorem dX10_atLeast_54 : decode cX10_atLeast 54 = .ok (.invokevirtual 325, 3) := by decide +kernel
theorem dX10_atLeast_57 : decode cX10_atLeast 57 = .ok (.ireturn, 1) := by decide +kernel
theorem dX10_has_0 : decode cX10_has 0 = .ok (.aload_n 0, 1) := by decide +kernel
theorem dX10_has_1 : decode cX10_has 1 = .ok (.aload_n 0, 1) := by decide +kernel
theorem dX10_has_2 : decode cX10_has 2 = .ok (.iload_n 1, 1) := by decide +kernel
theorem dX10_has_3 : decode cX10_has 3 = .ok (.invokevirtual 250, 3) := by decide +kernel
theorem dX10_has_6 : decode cX10_has 6 = .ok (.ifCond .ne 7, 3) := by decide +kernel
theorem dX10_has_9 : decode cX10_has 9 = .ok (.iconst 1, 1) := by decide +kernel
theorem dX10_has_10 : decode cX10_has 10 = .ok (.goto 15, 3) := by decide +kernel
theorem dX10_has_13 : decode cX10_has 13 = .ok (.aload_n 0, 1) := by decide +kernel
theorem dX10_has_14 : decode cX10_has 14 = .ok (.invokevirtual 322, 3) := by decide +kernel
theorem dX10_has_17 : decode cX10_has 17 = .ok (.ifCond .eq 7, 3) := by decide +kernel
theorem dX10_has_20 : decode cX10_has 20 = .ok (.iconst 2, 1) := by decide +kernel
theorem dX10_has_21 : decode cX10_has 21 = .ok (.goto 4, 3) := by decide +kernel
theorem dX10_has_24 : decode cX10_has 24 = .ok (.iconst 0, 1) := by decide +kernel
theorem dX10_has_25 : decode cX10_has 25 = .ok (.putfield 177, 3) := by decide +kernel
theorem dX10_has_28 : decode cX10_has 28 = .ok (.aload_n 0, 1) := by decide +kernel
theorem dX10_has_29 : decode cX10_has 29 = .ok (.getfield 177, 3) := by decide +kernel
theorem dX10_has_32 : decode cX10_has 32 = .ok (.ifCond .le 7, 3) := by decide +kernel
theorem dX10_has_35 : decode cX10_has 35 = .ok (.iconst 0, 1) := by decide +kernel
theorem dX10_has_36 : decode cX10_has 36 = .ok (.goto 10, 3) := by decide +kernel
theorem dX10_has_39 : decode cX10_has 39 = .ok (.aload_n 0, 1) := by decide +kernel
theorem dX10_has_40 : decode cX10_has 40 = .ok (.iconst 2, 1) := by decide +kernel
theorem dX10_has_41 : decode cX10_has 41 = .ok (.iload_n 1, 1) := by decide +kernel
theorem dX10_has_42 : decode cX10_has 42 = .ok (.iconst 0, 1) := by decide +kernel
theorem dX10_has_43 : decode cX10_has 43 = .ok (.invokevirtual 325, 3) := by decide +kernel
theorem dX10_has_46 : decode cX10_has 46 = .ok (.ireturn, 1) := by decide +kernel
theorem dX10_ofClass_0 : decode cX10_ofClass 0 = .ok (.aload_n 0, 1) := by decide +kernel
theorem dX10_ofClass_1 : decode cX10_ofClass 1 = .ok (.aload_n 0, 1) := by decide +kernel
theorem dX10_ofClass_2 : decode cX10_ofClass 2 = .ok (.iload_n 1, 1) := by decide +kernel
theorem dX10_ofClass_3 : decode cX10_ofClass 3 = .ok (.invokevirtual 268, 3) := by decide +kernel
theorem dX10_ofClass_6 : decode cX10_ofClass 6 = .ok (.ifCond .ne 7, 3) := by decide +kernel
theorem dX10_ofClass_9 : decode cX10_ofClass 9 = .ok (.iconst 1, 1) := by decide +kernel
theorem dX10_ofClass_10 : decode cX10_ofClass 10 = .ok (.goto 15, 3) := by decide +kernel
theorem dX10_ofClass_13 : decode cX10_ofClass 13 = .ok (.aload_n 0, 1) := by decide +kernel
theorem dX10_ofClass_14 : decode cX10_ofClass 14 = .ok (.invokevirtual 322, 3) := by decide +kernel
theorem dX10_ofClass_17 : decode cX10_ofClass 17 = .ok (.ifCond .eq 7, 3) := by decide +kernel
theorem dX10_ofClass_20 : decode cX10_ofClass 20 = .ok (.iconst 2, 1) := by decide +kernel
theorem dX10_ofClass_21 : decode cX10_ofClass 21 = .ok (.goto 4, 3) := by decide +kernel
theorem dX10_ofClass_24 : decode cX10_ofClass 24 = .ok (.iconst 0, 1) := by decide +kernel
theorem dX10_ofClass_25 : decode cX10_ofClass 25 = .ok (.putfield 177, 3) := by decide +kernel
theorem dX10_ofClass_28 : decode cX10_ofClass 28 = .ok (.aload_n 0, 1) := by decide +kernel
theorem dX10_ofClass_29 : decode cX10_ofClass 29 = .ok (.getfield 177, 3) := by decide +kernel
theorem dX10_ofClass_32 : decode cX10_ofClass 32 = .ok (.ifCond .le 7, 3) := by decide +kernel
theorem dX10_ofClass_35 : decode cX10_ofClass 35 = .ok (.iconst 0, 1) := by decide +kernel
theorem dX10_ofClass_36 : decode cX10_ofClass 36 = .ok (.goto 10, 3) := by decide +kernel
theorem dX10_ofClass_39 : decode cX10_ofClass 39 = .ok (.aload_n 0, 1) := by decide +kernel
theorem dX10_ofClass_40 : decode cX10_ofClass 40 = .ok (.iconst 3, 1) := by decide +kernel
theorem dX10_ofClass_41 : decode cX10_ofClass 41 = .ok (.iload_n 1, 1) := by decide +kernel
theorem dX10_ofClass_42 : decode cX10_ofClass 42 = .ok (.iconst 0, 1) := by decide +kernel
theorem dX10_ofClass_43 : decode cX10_ofClass 43 = .ok (.invokevirtual 325, 3) := by decide +kernel
theorem dX10_ofClass_46 : decode cX10_ofClass 46 = .ok (.ireturn, 1) := by decide +kernel
theorem dX10_combine_0 : decode cX10_combine 0 = .ok (.aload_n 0, 1) := by decide +kernel
theorem dX10_combine_1 : decode cX10_combine 1 = .ok (.aload_n 0, 1) := by decide +kernel
theorem dX10_combine_2 : decode cX10_combine 2 = .ok (.getfield 316, 3) := by decide +kernel
theorem dX10_combine_5 : decode cX10_combine 5 = .ok (.iconst 2, 1) := by decide +kernel
theorem dX10_combine_6 : decode cX10_combine 6 = .ok (.if_icmp .lt 12, 3) := by decide +kernel
theorem dX10_combine_9 : decode cX10_combine 9 = .ok (.aload_n 0, 1) := by decide +kernel
theorem dX10_combine_10 : decode cX10_combine 10 = .ok (.getfield 319, 3) := by decide +kernel
theorem dX10_combine_13 : decode cX10_combine 13 = .ok (.bipush 15, 2) := by decide +kernel
theorem dX10_combine_15 : decode cX10_combine 15 = .ok (.if_icmp .ne 7, 3) := by decide +kernel
theorem dX10_combine_18 : decode cX10_combine 18 = .ok (.iconst 1, 1) := by decide +kernel
theorem dX10_combine_19 : decode cX10_combine 19 = .ok (.goto 4, 3) := by decide +kernel
theorem dX10_combine_22 : decode cX10_combine 22 = .ok (.iconst 0, 1) := by decide +kernel
theorem dX10_combine_23 : decode cX10_combine 23 = .ok (.putfield 177, 3) := by decide +kernel
theorem dX10_combine_26 : decode cX10_combine 26 = .ok (.aload_n 0, 1) := by decide +kernel
theorem dX10_combine_27 : decode cX10_combine 27 = .ok (.getfield 177, 3) := by decide +kernel
theorem dX10_combine_30 : decode cX10_combine 30 = .ok (.ifCond .le 5, 3) := by decide +kernel
theorem dX10_combine_33 : decode cX10_combine 33 = .ok (.iconst 0, 1) := by decide +kernel
theorem dX10_combine_34 : decode cX10_combine 34 = .ok (.ireturn, 1) := by decide +kernel
theorem dX10_combine_35 : decode cX10_combine 35 = .ok (.aload_n 0, 1) := by decide +kernel
theorem dX10_combine_36 : decode cX10_combine 36 = .ok (.dup, 1) := by decide +kernel
theorem dX10_combine_37 : decode cX10_combine 37 = .ok (.getfield 316, 3) := by decide +kernel
theorem dX10_combine_40 : decode cX10_combine 40 = .ok (.iconst 2, 1) := by decide +kernel
theorem dX10_combine_41 : decode cX10_combine 41 = .ok (.isub, 1) := by decide +kernel
theorem dX10_combine_42 : decode cX10_combine 42 = .ok (.putfield 316, 3) := by decide +kernel
theorem dX10_combine_45 : decode cX10_combine 45 = .ok (.aload_n 0, 1) := by decide +kernel
theorem dX10_combine_46 : decode cX10_combine 46 = .ok (.iload_n 1, 1) := by decide +kernel
theorem dX10_combine_47 : decode cX10_combine 47 = .ok (.ifCond .eq 7, 3) := by decide +kernel
theorem dX10_combine_50 : decode cX10_combine 50 = .ok (.iconst 4, 1) := by decide +kernel
theorem dX10_combine_51 : decode cX10_combine 51 = .ok (.goto 4, 3) := by decide +kernel
theorem dX10_combine_54 : decode cX10_combine 54 = .ok (.iconst 5, 1) := by decide +kernel
theorem dX10_combine_55 : decode cX10_combine 55 = .ok (.aload_n 0, 1) := by decide +kernel
theorem dX10_combine_56 : decode cX10_combine 56 = .ok (.getfield 44, 3) := by decide +kernel
theorem dX10_combine_59 : decode cX10_combine 59 = .ok (.aload_n 0, 1) := by decide +kernel
theorem dX10_combine_60 : decode cX10_combine 60 = .ok (.getfield 316, 3) := by decide +kernel
theorem dX10_combine_63 : decode cX10_combine 63 = .ok (.iaload, 1) := by decide +kernel
theorem dX10_combine_64 : decode cX10_combine 64 = .ok (.aload_n 0, 1) := by decide +kernel
theorem dX10_combine_65 : decode cX10_combine 65 = .ok (.getfield 44, 3) := by decide +kernel
theorem dX10_combine_68 : decode cX10_combine 68 = .ok (.aload_n 0, 1) := by decide +kernel
theorem dX10_combine_69 : decode cX10_combine 69 = .ok (.getfield 316, 3) := by decide +kernel
theorem dX10_combine_72 : decode cX10_combine 72 = .ok (.iconst 1, 1) := by decide +kernel
theorem dX10_combine_73 : decode cX10_combine 73 = .ok (.iadd, 1) := by decide +kernel
theorem dX10_combine_74 : decode cX10_combine 74 = .ok (.iaload, 1) := by decide +kernel
theorem dX10_combine_75 : decode cX10_combine 75 = .ok (.invokevirtual 325, 3) := by decide +kernel
theorem dX10_combine_78 : decode cX10_combine 78 = .ok (.ireturn, 1) := by decide +kernel
theorem dX10_not_0 : decode cX10_not 0 = .ok (.aload_n 0, 1) := by decide +kernel
theorem dX10_not_1 : decode cX10_not 1 = .ok (.aload_n 0, 1) := by decide +kernel
theorem dX10_not_2 : decode cX10_not 2 = .ok (.getfield 316, 3) := by decide +kernel
theorem dX10_not_5 : decode cX10_not 5 = .ok (.ifCond .eq 12, 3) := by decide +kernel
theorem dX10_not_8 : decode cX10_not 8 = .ok (.aload_n 0, 1) := by decide +kernel
theorem dX10_not_9 : decode cX10_not 9 = .ok (.getfield 319, 3) := by decide +kernel
theorem dX10_not_12 : decode cX10_not 12 = .ok (.bipush 15, 2) := by decide +kernel
theorem dX10_not_14 : decode cX10_not 14 = .ok (.if_icmp .ne 7, 3) := by decide +kernel
theorem dX10_not_17 : decode cX10_not 17 = .ok (.iconst 1, 1) := by decide +kernel
theorem dX10_not_18 : decode cX10_not 18 = .ok (.goto 4, 3) := by decide +kernel
theorem dX10_not_21 : decode cX10_not 21 = .ok (.iconst 0, 1) := by decide +kernel
theorem dX10_not_22 : decode cX10_not 22 = .ok (.putfield 177, 3) := by decide +kernel
theorem dX10_not_25 : decode cX10_not 25 = .ok (.aload_n 0, 1) := by decide +kernel
theorem dX10_not_26 : decode cX10_not 26 = .ok (.getfield 177, 3) := by decide +kernel
theorem dX10_not_29 : decode cX10_not 29 = .ok (.ifCond .le 5, 3) := by decide +kernel
theorem dX10_not_32 : decode cX10_not 32 = .ok (.iconst 0, 1) := by decide +kernel
theorem dX10_not_33 : decode cX10_not 33 = .ok (.ireturn, 1) := by decide +kernel
theorem dX10_not_34 : decode cX10_not 34 = .ok (.aload_n 0, 1) := by decide +kernel
theorem dX10_not_35 : decode cX10_not 35 = .ok (.dup, 1) := by decide +kernel
theorem dX10_not_36 : decode cX10_not 36 = .ok (.getfield 316, 3) := by decide +kernel
theorem dX10_not_39 : decode cX10_not 39 = .ok (.iconst 1, 1) := by decide +kernel
theorem dX10_not_40 : decode cX10_not 40 = .ok (.isub, 1) := by decide +kernel
theorem dX10_not_41 : decode cX10_not 41 = .ok (.putfield 316, 3) := by decide +kernel
theorem dX10_not_44 : decode cX10_not 44 = .ok (.aload_n 0, 1) := by decide +kernel
theorem dX10_not_45 : decode cX10_not 45 = .ok (.bipush 6, 2) := by decide +kernel
theorem dX10_not_47 : decode cX10_not 47 = .ok (.aload_n 0, 1) := by decide +kernel
theorem dX10_not_48 : decode cX10_not 48 = .ok (.getfield 44, 3) := by decide +kernel
theorem dX10_not_51 : decode cX10_not 51 = .ok (.aload_n 0, 1) := by decide +kernel
theorem dX10_not_52 : decode cX10_not 52 = .ok (.getfield 316, 3) := by decide +kernel
theorem dX10_not_55 : decode cX10_not 55 = .ok (.iaload, 1) := by decide +kernel
theorem dX10_not_56 : decode cX10_not 56 = .ok (.iconst 0, 1) := by decide +kernel
theorem dX10_not_57 : decode cX10_not 57 = .ok (.invokevirtual 325, 3) := by decide +kernel
theorem dX10_not_60 : decode cX10_not 60 = .ok (.ireturn, 1) := by decide +kernel
theorem dX10_wipe_0 : decode cX10_wipe 0 = .ok (.aload_n 0, 1) := by decide +kernel
theorem dX10_wipe_1 : decode cX10_wipe 1 = .ok (.iconst 0, 1) := by decide +kernel
theorem dX10_wipe_2 : decode cX10_wipe 2 = .ok (.putfield 177, 3) := by decide +kernel
theorem dX10_wipe_5 : decode cX10_wipe 5 = .ok (.aload_n 0, 1) := by decide +kernel
theorem dX10_wipe_6 : decode cX10_wipe 6 = .ok (.getfield 319, 3) := by decide +kernel
theorem dX10_wipe_9 : decode cX10_wipe 9 = .ok (.istore_n 1, 1) := by decide +kernel
theorem dX10_wipe_10 : decode cX10_wipe 10 = .ok (.aload_n 0, 1) := by decide +kernel
theorem dX10_wipe_11 : decode cX10_wipe 11 = .ok (.iconst 0, 1) := by decide +kernel
theorem dX10_wipe_12 : decode cX10_wipe 12 = .ok (.putfield 319, 3) := by decide +kernel
theorem dX10_wipe_15 : decode cX10_wipe 15 = .ok (.aload_n 0, 1) := by decide +kernel
theorem dX10_wipe_16 : decode cX10_wipe 16 = .ok (.iconst 0, 1) := by decide +kernel
theorem dX10_wipe_17 : decode cX10_wipe 17 = .ok (.putfield 316, 3) := by decide +kernel
theorem dX10_wipe_20 : decode cX10_wipe 20 = .ok (.iload_n 1, 1) := by decide +kernel
theorem dX10_wipe_21 : decode cX10_wipe 21 = .ok (.ireturn, 1) := by decide +kernel
theorem dX10_isClassOf_0 : decode cX10_isClassOf 0 = .ok (.aload_n 0, 1) := by decide +kernel
theorem dX10_isClassOf_1 : decode cX10_isClassOf 1 = .ok (.getfield 108, 3) := by decide +kernel
theorem dX10_isClassOf_4 : decode cX10_isClassOf 4 = .ok (.iload_n 1, 1) := by decide +kernel
theorem dX10_isClassOf_5 : decode cX10_isClassOf 5 = .ok (.iaload, 1) := by decide +kernel
theorem dX10_isClassOf_6 : decode cX10_isClassOf 6 = .ok (.istore_n 3, 1) := by decide +kernel
theorem dX10_isClassOf_7 : decode cX10_isClassOf 7 = .ok (.iload_n 3, 1) := by decide +kernel
theorem dX10_isClassOf_8 : decode cX10_isClassOf 8 = .ok (.iconst (-1), 1) := by decide +kernel
theorem dX10_isClassOf_9 : decode cX10_isClassOf 9 = .ok (.if_icmp .eq 18, 3) := by decide +kernel
theorem dX10_isClassOf_12 : decode cX10_isClassOf 12 = .ok (.iload_n 3, 1) := by decide +kernel
theorem dX10_isClassOf_13 : decode cX10_isClassOf 13 = .ok (.iload_n 2, 1) := by decide +kernel
theorem dX10_isClassOf_14 : decode cX10_isClassOf 14 = .ok (.if_icmp .eq 13, 3) := by decide +kernel
theorem dX10_isClassOf_17 : decode cX10_isClassOf 17 = .ok (.aload_n 0, 1) := by decide +kernel
theorem dX10_isClassOf_18 : decode cX10_isClassOf 18 = .ok (.getfield 16, 3) := by decide +kernel
theorem dX10_isClassOf_21 : decode cX10_isClassOf 21 = .ok (.iload_n 3, 1) := by decide +kernel
theorem dX10_isClassOf_22 : decode cX10_isClassOf 22 = .ok (.iaload, 1) := by decide +kernel
theorem dX10_isClassOf_23 : decode cX10_isClassOf 23 = .ok (.istore_n 3, 1) := by decide +kernel
theorem dX10_isClassOf_24 : decode cX10_isClassOf 24 = .ok (.goto (-17), 3) := by decide +kernel
theorem dX10_isClassOf_27 : decode cX10_isClassOf 27 = .ok (.iload_n 3, 1) := by decide +kernel
theorem dX10_isClassOf_28 : decode cX10_isClassOf 28 = .ok (.iload_n 2, 1) := by decide +kernel
theorem dX10_isClassOf_29 : decode cX10_isClassOf 29 = .ok (.if_icmp .ne 7, 3) := by decide +kernel
theorem dX10_isClassOf_32 : decode cX10_isClassOf 32 = .ok (.iconst 1, 1) := by decide +kernel
theorem dX10_isClassOf_33 : decode cX10_isClassOf 33 = .ok (.goto 4, 3) := by decide +kernel
theorem dX10_isClassOf_36 : decode cX10_isClassOf 36 = .ok (.iconst 0, 1) := by decide +kernel
theorem dX10_isClassOf_37 : decode cX10_isClassOf 37 = .ok (.ireturn, 1) := by decide +kernel
theorem dX10_isAsMuch_0 : decode cX10_isAsMuch 0 = .ok (.iconst 0, 1) := by decide +kernel
theorem dX10_isAsMuch_1 : decode cX10_isAsMuch 1 = .ok (.istore 4, 2) := by decide +kernel
theorem dX10_isAsMuch_3 : decode cX10_isAsMuch 3 = .ok (.iconst 0, 1) := by decide +kernel
theorem dX10_isAsMuch_4 : decode cX10_isAsMuch 4 = .ok (.istore 5, 2) := by decide +kernel
theorem dX10_isAsMuch_6 : decode cX10_isAsMuch 6 = .ok (.iload 5, 2) := by decide +kernel
theorem dX10_isAsMuch_8 : decode cX10_isAsMuch 8 = .ok (.aload_n 0, 1) := by decide +kernel
theorem dX10_isAsMuch_9 : decode cX10_isAsMuch 9 = .ok (.getfield 190, 3) := by decide +kernel
theorem dX10_isAsMuch_12 : decode cX10_isAsMuch 12 = .ok (.if_icmp .ge 64, 3) := by decide +kernel
theorem dX10_isAsMuch_15 : decode cX10_isAsMuch 15 = .ok (.iload 4, 2) := by decide +kernel
theorem dX10_isAsMuch_17 : decode cX10_isAsMuch 17 = .ok (.ifCond .ne 46, 3) := by decide +kernel
theorem dX10_isAsMuch_20 : decode cX10_isAsMuch 20 = .ok (.aload_n 0, 1) := by decide +kernel
theorem dX10_isAsMuch_21 : decode cX10_isAsMuch 21 = .ok (.getfield 129, 3) := by decide +kernel
theorem dX10_isAsMuch_24 : decode cX10_isAsMuch 24 = .ok (.iload 5, 2) := by decide +kernel
theorem dX10_isAsMuch_26 : decode cX10_isAsMuch 26 = .ok (.iaload, 1) := by decide +kernel
theorem dX10_isAsMuch_27 : decode cX10_isAsMuch 27 = .ok (.iload_n 1, 1) := by decide +kernel
theorem dX10_isAsMuch_28 : decode cX10_isAsMuch 28 = .ok (.if_icmp .ne 39, 3) := by decide +kernel
theorem dX10_isAsMuch_31 : decode cX10_isAsMuch 31 = .ok (.aload_n 0, 1) := by decide +kernel
theorem dX10_isAsMuch_32 : decode cX10_isAsMuch 32 = .ok (.getfield 132, 3) := by decide +kernel
theorem dX10_isAsMuch_35 : decode cX10_isAsMuch 35 = .ok (.iload 5, 2) := by decide +kernel
theorem dX10_isAsMuch_37 : decode cX10_isAsMuch 37 = .ok (.iaload, 1) := by decide +kernel
theorem dX10_isAsMuch_38 : decode cX10_isAsMuch 38 = .ok (.iload_n 2, 1) := by decide +kernel
theorem dX10_isAsMuch_39 : decode cX10_isAsMuch 39 = .ok (.if_icmp .ne 28, 3) := by decide +kernel
theorem dX10_isAsMuch_42 : decode cX10_isAsMuch 42 = .ok (.aload_n 0, 1) := by decide +kernel
theorem dX10_isAsMuch_43 : decode cX10_isAsMuch 43 = .ok (.iload_n 2, 1) := by decide +kernel
theorem dX10_isAsMuch_44 : decode cX10_isAsMuch 44 = .ok (.aload_n 0, 1) := by decide +kernel
theorem dX10_isAsMuch_45 : decode cX10_isAsMuch 45 = .ok (.getfield 135, 3) := by decide +kernel
theorem dX10_isAsMuch_48 : decode cX10_isAsMuch 48 = .ok (.iload 5, 2) := by decide +kernel
theorem dX10_isAsMuch_50 : decode cX10_isAsMuch 50 = .ok (.iaload, 1) := by decide +kernel
theorem dX10_isAsMuch_51 : decode cX10_isAsMuch 51 = .ok (.invokevirtual 193, 3) := by decide +kernel
theorem dX10_isAsMuch_54 : decode cX10_isAsMuch 54 = .ok (.aload_n 0, 1) := by decide +kernel
theorem dX10_isAsMuch_55 : decode cX10_isAsMuch 55 = .ok (.iload_n 2, 1) := by decide +kernel
theorem dX10_isAsMuch_56 : decode cX10_isAsMuch 56 = .ok (.iload_n 3, 1) := by decide +kernel
theorem dX10_isAsMuch_57 : decode cX10_isAsMuch 57 = .ok (.invokevirtual 193, 3) := by decide +kernel
theorem dX10_isAsMuch_60 : decode cX10_isAsMuch 60 = .ok (.if_icmp .lt 7, 3) := by decide +kernel
theorem dX10_isAsMuch_63 : decode cX10_isAsMuch 63 = .ok (.iconst 1, 1) := by decide +kernel
theorem dX10_isAsMuch_64 : decode cX10_isAsMuch 64 = .ok (.goto 4, 3) := by decide +kernel
theorem dX10_isAsMuch_67 : decode cX10_isAsMuch 67 = .ok (.iconst 0, 1) := by decide +kernel
theorem dX10_isAsMuch_68 : decode cX10_isAsMuch 68 = .ok (.istore 4, 2) := by decide +kernel
theorem dX10_isAsMuch_70 : decode cX10_isAsMuch 70 = .ok (.iinc 5 1, 3) := by decide +kernel
theorem dX10_isAsMuch_73 : decode cX10_isAsMuch 73 = .ok (.goto (-67), 3) := by decide +kernel
theorem dX10_isAsMuch_76 : decode cX10_isAsMuch 76 = .ok (.iload 4, 2) := by decide +kernel
theorem dX10_isAsMuch_78 : decode cX10_isAsMuch 78 = .ok (.ireturn, 1) := by decide +kernel
theorem dX10_fits_0 : decode cX10_fits 0 = .ok (.iconst 0, 1) := by decide +kernel
theorem dX10_fits_1 : decode cX10_fits 1 = .ok (.istore_n 2, 1) := by decide +kernel
theorem dX10_fits_2 : decode cX10_fits 2 = .ok (.iload_n 2, 1) := by decide +kernel
theorem dX10_fits_3 : decode cX10_fits 3 = .ok (.aload_n 0, 1) := by decide +kernel
theorem dX10_fits_4 : decode cX10_fits 4 = .ok (.getfield 319, 3) := by decide +kernel
theorem dX10_fits_7 : decode cX10_fits 7 = .ok (.if_icmp .ge 212, 3) := by decide +kernel
theorem dX10_fits_10 : decode cX10_fits 10 = .ok (.aload_n 0, 1) := by decide +kernel
theorem dX10_fits_11 : decode cX10_fits 11 = .ok (.getfield 35, 3) := by decide +kernel
theorem dX10_fits_14 : decode cX10_fits 14 = .ok (.iload_n 2, 1) := by decide +kernel
theorem dX10_fits_15 : decode cX10_fits 15 = .ok (.iaload, 1) := by decide +kernel
theorem dX10_fits_16 : decode cX10_fits 16 = .ok (.istore_n 3, 1) := by decide +kernel
theorem dX10_fits_17 : decode cX10_fits 17 = .ok (.aload_n 0, 1) := by decide +kernel
theorem dX10_fits_18 : decode cX10_fits 18 = .ok (.getfield 38, 3) := by decide +kernel
theorem dX10_fits_21 : decode cX10_fits 21 = .ok (.iload_n 2, 1) := by decide +kernel
theorem dX10_fits_22 : decode cX10_fits 22 = .ok (.iaload, 1) := by decide +kernel
theorem dX10_fits_23 : decode cX10_fits 23 = .ok (.istore 4, 2) := by decide +kernel
theorem dX10_fits_25 : decode cX10_fits 25 = .ok (.aload_n 0, 1) := by decide +kernel
theorem dX10_fits_26 : decode cX10_fits 26 = .ok (.getfield 32, 3) := by decide +kernel
theorem dX10_fits_29 : decode cX10_fits 29 = .ok (.iload_n 2, 1) := by decide +kernel
theorem dX10_fits_30 : decode cX10_fits 30 = .ok (.iaload, 1) := by decide +kernel
theorem dX10_fits_31 : decode cX10_fits 31 = .ok (.iconst 4, 1) := by decide +kernel
theorem dX10_fits_32 : decode cX10_fits 32 = .ok (.if_icmp .ge 86, 3) := by decide +kernel
theorem dX10_fits_35 : decode cX10_fits 35 = .ok (.aload_n 0, 1) := by decide +kernel
theorem dX10_fits_36 : decode cX10_fits 36 = .ok (.getfield 41, 3) := by decide +kernel
theorem dX10_fits_39 : decode cX10_fits 39 = .ok (.iload_n 2, 1) := by decide +kernel
theorem dX10_fits_40 : decode cX10_fits 40 = .ok (.aload_n 0, 1) := by decide +kernel
theorem dX10_fits_41 : decode cX10_fits 41 = .ok (.getfield 32, 3) := by decide +kernel
theorem dX10_fits_44 : decode cX10_fits 44 = .ok (.iload_n 2, 1) := by decide +kernel
theorem dX10_fits_45 : decode cX10_fits 45 = .ok (.iaload, 1) := by decide +kernel
theorem dX10_fits_46 : decode cX10_fits 46 = .ok (.ifCond .ne 14, 3) := by decide +kernel
theorem dX10_fits_49 : decode cX10_fits 49 = .ok (.aload_n 0, 1) := by decide +kernel
theorem dX10_fits_50 : decode cX10_fits 50 = .ok (.iload_n 1, 1) := by decide +kernel
theorem dX10_fits_51 : decode cX10_fits 51 = .ok (.iload_n 3, 1) := by decide +kernel
theorem dX10_fits_52 : decode cX10_fits 52 = .ok (.iload 4, 2) := by decide +kernel
theorem dX10_fits_54 : decode cX10_fits 54 = .ok (.invokevirtual 233, 3) := by decide +kernel
theorem dX10_fits_57 : decode cX10_fits 57 = .ok (.goto 57, 3) := by decide +kernel
theorem dX10_fits_60 : decode cX10_fits 60 = .ok (.aload_n 0, 1) := by decide +kernel
theorem dX10_fits_61 : decode cX10_fits 61 = .ok (.getfield 32, 3) := by decide +kernel
theorem dX10_fits_64 : decode cX10_fits 64 = .ok (.iload_n 2, 1) := by decide +kernel
theorem dX10_fits_65 : decode cX10_fits 65 = .ok (.iaload, 1) := by decide +kernel
theorem dX10_fits_66 : decode cX10_fits 66 = .ok (.iconst 1, 1) := by decide +kernel
theorem dX10_fits_67 : decode cX10_fits 67 = .ok (.if_icmp .ne 14, 3) := by decide +kernel
theorem dX10_fits_70 : decode cX10_fits 70 = .ok (.aload_n 0, 1) := by decide +kernel
theorem dX10_fits_71 : decode cX10_fits 71 = .ok (.iload_n 1, 1) := by decide +kernel
theorem dX10_fits_72 : decode cX10_fits 72 = .ok (.iload_n 3, 1) := by decide +kernel
theorem dX10_fits_73 : decode cX10_fits 73 = .ok (.iload 4, 2) := by decide +kernel
theorem dX10_fits_75 : decode cX10_fits 75 = .ok (.invokevirtual 328, 3) := by decide +kernel
theorem dX10_fits_78 : decode cX10_fits 78 = .ok (.goto 36, 3) := by decide +kernel
theorem dX10_fits_81 : decode cX10_fits 81 = .ok (.aload_n 0, 1) := by decide +kernel
theorem dX10_fits_82 : decode cX10_fits 82 = .ok (.getfield 32, 3) := by decide +kernel
theorem dX10_fits_85 : decode cX10_fits 85 = .ok (.iload_n 2, 1) := by decide +kernel
theorem dX10_fits_86 : decode cX10_fits 86 = .ok (.iaload, 1) := by decide +kernel
theorem dX10_fits_87 : decode cX10_fits 87 = .ok (.iconst 2, 1) := by decide +kernel
theorem dX10_fits_88 : decode cX10_fits 88 = .ok (.if_icmp .ne 20, 3) := by decide +kernel
theorem dX10_fits_91 : decode cX10_fits 91 = .ok (.aload_n 0, 1) := by decide +kernel
theorem dX10_fits_92 : decode cX10_fits 92 = .ok (.iload_n 1, 1) := by decide +kernel
theorem dX10_fits_93 : decode cX10_fits 93 = .ok (.iload_n 3, 1) := by decide +kernel
theorem dX10_fits_94 : decode cX10_fits 94 = .ok (.invokevirtual 291, 3) := by decide +kernel
theorem dX10_fits_97 : decode cX10_fits 97 = .ok (.ifCond .le 7, 3) := by decide +kernel
theorem dX10_fits_100 : decode cX10_fits 100 = .ok (.iconst 1, 1) := by decide +kernel
theorem dX10_fits_101 : decode cX10_fits 101 = .ok (.goto 13, 3) := by decide +kernel
theorem dX10_fits_104 : decode cX10_fits 104 = .ok (.iconst 0, 1) := by decide +kernel
theorem dX10_fits_105 : decode cX10_fits 105 = .ok (.goto 9, 3) := by decide +kernel
theorem dX10_fits_108 : decode cX10_fits 108 = .ok (.aload_n 0, 1) := by decide +kernel
theorem dX10_fits_109 : decode cX10_fits 109 = .ok (.iload_n 1, 1) := by decide +kernel
theorem dX10_fits_110 : decode cX10_fits 110 = .ok (.iload_n 3, 1) := by decide +kernel
theorem dX10_fits_111 : decode cX10_fits 111 = .ok (.invokevirtual 331, 3) := by decide +kernel
theorem dX10_fits_114 : decode cX10_fits 114 = .ok (.bastore, 1) := by decide +kernel
theorem dX10_fits_115 : decode cX10_fits 115 = .ok (.goto 98, 3) := by decide +kernel
theorem dX10_fits_118 : decode cX10_fits 118 = .ok (.aload_n 0, 1) := by decide +kernel
theorem dX10_fits_119 : decode cX10_fits 119 = .ok (.getfield 41, 3) := by decide +kernel
theorem dX10_fits_122 : decode cX10_fits 122 = .ok (.iload_n 2, 1) := by decide +kernel
theorem dX10_fits_123 : decode cX10_fits 123 = .ok (.aload_n 0, 1) := by decide +kernel
theorem dX10_fits_124 : decode cX10_fits 124 = .ok (.getfield 32, 3) := by decide +kernel
theorem dX10_fits_127 : decode cX10_fits 127 = .ok (.iload_n 2, 1) := by decide +kernel
theorem dX10_fits_128 : decode cX10_fits 128 = .ok (.iaload, 1) := by decide +kernel
theorem dX10_fits_129 : decode cX10_fits 129 = .ok (.bipush 6, 2) := by decide +kernel
theorem dX10_fits_131 : decode cX10_fits 131 = .ok (.if_icmp .ne 20, 3) := by decide +kernel
theorem dX10_fits_134 : decode cX10_fits 134 = .ok (.aload_n 0, 1) := by decide +kernel
theorem dX10_fits_135 : decode cX10_fits 135 = .ok (.getfield 41, 3) := by decide +kernel
theorem dX10_fits_138 : decode cX10_fits 138 = .ok (.iload_n 3, 1) := by decide +kernel
theorem dX10_fits_139 : decode cX10_fits 139 = .ok (.baload, 1) := by decide +kernel
theorem dX10_fits_140 : decode cX10_fits 140 = .ok (.ifCond .ne 7, 3) := by decide +kernel
theorem dX10_fits_143 : decode cX10_fits 143 = .ok (.iconst 1, 1) := by decide +kernel
theorem dX10_fits_144 : decode cX10_fits 144 = .ok (.goto 68, 3) := by decide +kernel
theorem dX10_fits_147 : decode cX10_fits 147 = .ok (.iconst 0, 1) := by decide +kernel
theorem dX10_fits_148 : decode cX10_fits 148 = .ok (.goto 64, 3) := by decide +kernel
theorem dX10_fits_151 : decode cX10_fits 151 = .ok (.aload_n 0, 1) := by decide +kernel
theorem dX10_fits_152 : decode cX10_fits 152 = .ok (.getfield 32, 3) := by decide +kernel
theorem dX10_fits_155 : decode cX10_fits 155 = .ok (.iload_n 2, 1) := by decide +kernel
theorem dX10_fits_156 : decode cX10_fits 156 = .ok (.iaload, 1) := by decide +kernel
theorem dX10_fits_157 : decode cX10_fits 157 = .ok (.iconst 4, 1) := by decide +kernel
theorem dX10_fits_158 : decode cX10_fits 158 = .ok (.if_icmp .ne 30, 3) := by decide +kernel
theorem dX10_fits_161 : decode cX10_fits 161 = .ok (.aload_n 0, 1) := by decide +kernel
theorem dX10_fits_162 : decode cX10_fits 162 = .ok (.getfield 41, 3) := by decide +kernel
theorem dX10_fits_165 : decode cX10_fits 165 = .ok (.iload_n 3, 1) := by decide +kernel
theorem dX10_fits_166 : decode cX10_fits 166 = .ok (.baload, 1) := by decide +kernel
theorem dX10_fits_167 : decode cX10_fits 167 = .ok (.ifCond .eq 17, 3) := by decide +kernel
theorem dX10_fits_170 : decode cX10_fits 170 = .ok (.aload_n 0, 1) := by decide +kernel
theorem dX10_fits_171 : decode cX10_fits 171 = .ok (.getfield 41, 3) := by decide +kernel
theorem dX10_fits_174 : decode cX10_fits 174 = .ok (.iload 4, 2) := by decide +kernel
theorem dX10_fits_176 : decode cX10_fits 176 = .ok (.baload, 1) := by decide +kernel
theorem dX10_fits_177 : decode cX10_fits 177 = .ok (.ifCond .eq 7, 3) := by decide +kernel
theorem dX10_fits_180 : decode cX10_fits 180 = .ok (.iconst 1, 1) := by decide +kernel
theorem dX10_fits_181 : decode cX10_fits 181 = .ok (.goto 31, 3) := by decide +kernel
theorem dX10_fits_184 : decode cX10_fits 184 = .ok (.iconst 0, 1) := by decide +kernel
theorem dX10_fits_185 : decode cX10_fits 185 = .ok (.goto 27, 3) := by decide +kernel
theorem dX10_fits_188 : decode cX10_fits 188 = .ok (.aload_n 0, 1) := by decide +kernel
theorem dX10_fits_189 : decode cX10_fits 189 = .ok (.getfield 41, 3) := by decide +kernel
theorem dX10_fits_192 : decode cX10_fits 192 = .ok (.iload_n 3, 1) := by decide +kernel
theorem dX10_fits_193 : decode cX10_fits 193 = .ok (.baload, 1) := by decide +kernel
theorem dX10_fits_194 : decode cX10_fits 194 = .ok (.ifCond .ne 13, 3) := by decide +kernel
theorem dX10_fits_197 : decode cX10_fits 197 = .ok (.aload_n 0, 1) := by decide +kernel
theorem dX10_fits_198 : decode cX10_fits 198 = .ok (.getfield 41, 3) := by decide +kernel
theorem dX10_fits_201 : decode cX10_fits 201 = .ok (.iload 4, 2) := by decide +kernel
theorem dX10_fits_203 : decode cX10_fits 203 = .ok (.baload, 1) := by decide +kernel
theorem dX10_fits_204 : decode cX10_fits 204 = .ok (.ifCond .eq 7, 3) := by decide +kernel
theorem dX10_fits_207 : decode cX10_fits 207 = .ok (.iconst 1, 1) := by decide +kernel
theorem dX10_fits_208 : decode cX10_fits 208 = .ok (.goto 4, 3) := by decide +kernel
theorem dX10_fits_211 : decode cX10_fits 211 = .ok (.iconst 0, 1) := by decide +kernel
theorem dX10_fits_212 : decode cX10_fits 212 = .ok (.bastore, 1) := by decide +kernel
theorem dX10_fits_213 : decode cX10_fits 213 = .ok (.iinc 2 1, 3) := by decide +kernel
theorem dX10_fits_216 : decode cX10_fits 216 = .ok (.goto (-214), 3) := by decide +kernel
theorem dX10_fits_219 : decode cX10_fits 219 = .ok (.aload_n 0, 1) := by decide +kernel
theorem dX10_fits_220 : decode cX10_fits 220 = .ok (.getfield 41, 3) := by decide +kernel
theorem dX10_fits_223 : decode cX10_fits 223 = .ok (.aload_n 0, 1) := by decide +kernel
theorem dX10_fits_224 : decode cX10_fits 224 = .ok (.getfield 44, 3) := by decide +kernel
theorem dX10_fits_227 : decode cX10_fits 227 = .ok (.iconst 0, 1) := by decide +kernel
theorem dX10_fits_228 : decode cX10_fits 228 = .ok (.iaload, 1) := by decide +kernel
theorem dX10_fits_229 : decode cX10_fits 229 = .ok (.baload, 1) := by decide +kernel
theorem dX10_fits_230 : decode cX10_fits 230 = .ok (.ireturn, 1) := by decide +kernel
theorem dX10_isBeneath_0 : decode cX10_isBeneath 0 = .ok (.iload_n 1, 1) := by decide +kernel
theorem dX10_isBeneath_1 : decode cX10_isBeneath 1 = .ok (.istore_n 3, 1) := by decide +kernel
theorem dX10_isBeneath_2 : decode cX10_isBeneath 2 = .ok (.iload_n 3, 1) := by decide +kernel
theorem dX10_isBeneath_3 : decode cX10_isBeneath 3 = .ok (.ifCond .lt 18, 3) := by decide +kernel
theorem dX10_isBeneath_6 : decode cX10_isBeneath 6 = .ok (.iload_n 3, 1) := by decide +kernel
theorem dX10_isBeneath_7 : decode cX10_isBeneath 7 = .ok (.iload_n 2, 1) := by decide +kernel
theorem dX10_isBeneath_8 : decode cX10_isBeneath 8 = .ok (.if_icmp .eq 13, 3) := by decide +kernel
theorem dX10_isBeneath_11 : decode cX10_isBeneath 11 = .ok (.aload_n 0, 1) := by decide +kernel
theorem dX10_isBeneath_12 : decode cX10_isBeneath 12 = .ok (.getfield 123, 3) := by decide +kernel
theorem dX10_isBeneath_15 : decode cX10_isBeneath 15 = .ok (.iload_n 3, 1) := by decide +kernel
theorem dX10_isBeneath_16 : decode cX10_isBeneath 16 = .ok (.iaload, 1) := by decide +kernel
theorem dX10_isBeneath_17 : decode cX10_isBeneath 17 = .ok (.istore_n 3, 1) := by decide +kernel
theorem dX10_isBeneath_18 : decode cX10_isBeneath 18 = .ok (.goto (-16), 3) := by decide +kernel
theorem dX10_isBeneath_21 : decode cX10_isBeneath 21 = .ok (.iload_n 3, 1) := by decide +kernel
theorem dX10_isBeneath_22 : decode cX10_isBeneath 22 = .ok (.iload_n 2, 1) := by decide +kernel
theorem dX10_isBeneath_23 : decode cX10_isBeneath 23 = .ok (.if_icmp .ne 7, 3) := by decide +kernel
theorem dX10_isBeneath_26 : decode cX10_isBeneath 26 = .ok (.iconst 1, 1) := by decide +kernel
theorem dX10_isBeneath_27 : decode cX10_isBeneath 27 = .ok (.goto 4, 3) := by decide +kernel
theorem dX10_isBeneath_30 : decode cX10_isBeneath 30 = .ok (.iconst 0, 1) := by decide +kernel
theorem dX10_isBeneath_31 : decode cX10_isBeneath 31 = .ok (.ireturn, 1) := by decide +kernel
theorem dX10_refusesSearch_0 : decode cX10_refusesSearch 0 = .ok (.aload_n 0, 1) := by decide +kernel
theorem dX10_refusesSearch_1 : decode cX10_refusesSearch 1 = .ok (.iload_n 1, 1) := by decide +kernel
theorem dX10_refusesSearch_2 : decode cX10_refusesSearch 2 = .ok (.iload_n 2, 1) := by decide +kernel
theorem dX10_refusesSearch_3 : decode cX10_refusesSearch 3 = .ok (.invokevirtual 265, 3) := by decide +kernel
theorem dX10_refusesSearch_6 : decode cX10_refusesSearch 6 = .ok (.ifCond .eq 12, 3) := by decide +kernel
theorem dX10_refusesSearch_9 : decode cX10_refusesSearch 9 = .ok (.iload_n 3, 1) := by decide +kernel
theorem dX10_refusesSearch_10 : decode cX10_refusesSearch 10 = .ok (.iconst 0, 1) := by decide +kernel
theorem dX10_refusesSearch_11 : decode cX10_refusesSearch 11 = .ok (.iconst 2, 1) := by decide +kernel
theorem dX10_refusesSearch_12 : decode cX10_refusesSearch 12 = .ok (.invokestatic 180, 3) := by decide +kernel
theorem dX10_refusesSearch_15 : decode cX10_refusesSearch 15 = .ok (.ifCond .ne 7, 3) := by decide +kernel
theorem dX10_refusesSearch_18 : decode cX10_refusesSearch 18 = .ok (.iconst 1, 1) := by decide +kernel
theorem dX10_refusesSearch_19 : decode cX10_refusesSearch 19 = .ok (.goto 16, 3) := by decide +kernel
theorem dX10_refusesSearch_22 : decode cX10_refusesSearch 22 = .ok (.aload_n 0, 1) := by decide +kernel
theorem dX10_refusesSearch_23 : decode cX10_refusesSearch 23 = .ok (.getfield 316, 3) := by decide +kernel
theorem dX10_refusesSearch_26 : decode cX10_refusesSearch 26 = .ok (.iconst 1, 1) := by decide +kernel
theorem dX10_refusesSearch_27 : decode cX10_refusesSearch 27 = .ok (.if_icmp .eq 7, 3) := by decide +kernel
theorem dX10_refusesSearch_30 : decode cX10_refusesSearch 30 = .ok (.iconst 2, 1) := by decide +kernel
theorem dX10_refusesSearch_31 : decode cX10_refusesSearch 31 = .ok (.goto 4, 3) := by decide +kernel
theorem dX10_refusesSearch_34 : decode cX10_refusesSearch 34 = .ok (.iconst 0, 1) := by decide +kernel
theorem dX10_refusesSearch_35 : decode cX10_refusesSearch 35 = .ok (.ireturn, 1) := by decide +kernel
theorem dX10_isFound_0 : decode cX10_isFound 0 = .ok (.iload 4, 2) := by decide +kernel
theorem dX10_isFound_2 : decode cX10_isFound 2 = .ok (.ifCond .ne 16, 3) := by decide +kernel
theorem dX10_isFound_5 : decode cX10_isFound 5 = .ok (.iload_n 2, 1) := by decide +kernel
theorem dX10_isFound_6 : decode cX10_isFound 6 = .ok (.iload_n 3, 1) := by decide +kernel
theorem dX10_isFound_7 : decode cX10_isFound 7 = .ok (.if_icmp .ne 7, 3) := by decide +kernel
theorem dX10_isFound_10 : decode cX10_isFound 10 = .ok (.iconst 1, 1) := by decide +kernel
theorem dX10_isFound_11 : decode cX10_isFound 11 = .ok (.goto 37, 3) := by decide +kernel
theorem dX10_isFound_14 : decode cX10_isFound 14 = .ok (.iconst 0, 1) := by decide +kernel
theorem dX10_isFound_15 : decode cX10_isFound 15 = .ok (.goto 33, 3) := by decide +kernel
theorem dX10_isFound_18 : decode cX10_isFound 18 = .ok (.iload 4, 2) := by decide +kernel
theorem dX10_isFound_20 : decode cX10_isFound 20 = .ok (.iconst 1, 1) := by decide +kernel
theorem dX10_isFound_21 : decode cX10_isFound 21 = .ok (.if_icmp .ne 21, 3) := by decide +kernel
theorem dX10_isFound_24 : decode cX10_isFound 24 = .ok (.aload_n 0, 1) := by decide +kernel
theorem dX10_isFound_25 : decode cX10_isFound 25 = .ok (.getfield 123, 3) := by decide +kernel
theorem dX10_isFound_28 : decode cX10_isFound 28 = .ok (.iload_n 2, 1) := by decide +kernel
theorem dX10_isFound_29 : decode cX10_isFound 29 = .ok (.iaload, 1) := by decide +kernel
theorem dX10_isFound_30 : decode cX10_isFound 30 = .ok (.iload_n 3, 1) := by decide +kernel
theorem dX10_isFound_31 : decode cX10_isFound 31 = .ok (.if_icmp .ne 7, 3) := by decide +kernel
theorem dX10_isFound_34 : decode cX10_isFound 34 = .ok (.iconst 1, 1) := by decide +kernel
theorem dX10_isFound_35 : decode cX10_isFound 35 = .ok (.goto 13, 3) := by decide +kernel
theorem dX10_isFound_38 : decode cX10_isFound 38 = .ok (.iconst 0, 1) := by decide +kernel
theorem dX10_isFound_39 : decode cX10_isFound 39 = .ok (.goto 9, 3) := by decide +kernel
theorem dX10_isFound_42 : decode cX10_isFound 42 = .ok (.aload_n 0, 1) := by decide +kernel
theorem dX10_isFound_43 : decode cX10_isFound 43 = .ok (.iload_n 2, 1) := by decide +kernel
theorem dX10_isFound_44 : decode cX10_isFound 44 = .ok (.iload_n 3, 1) := by decide +kernel
theorem dX10_isFound_45 : decode cX10_isFound 45 = .ok (.invokevirtual 334, 3) := by decide +kernel
theorem dX10_isFound_48 : decode cX10_isFound 48 = .ok (.istore 5, 2) := by decide +kernel
theorem dX10_isFound_50 : decode cX10_isFound 50 = .ok (.aload_n 0, 1) := by decide +kernel
theorem dX10_isFound_51 : decode cX10_isFound 51 = .ok (.iload_n 2, 1) := by decide +kernel
theorem dX10_isFound_52 : decode cX10_isFound 52 = .ok (.invokevirtual 222, 3) := by decide +kernel
theorem dX10_isFound_55 : decode cX10_isFound 55 = .ok (.ifCond .eq 35, 3) := by decide +kernel
theorem dX10_isFound_58 : decode cX10_isFound 58 = .ok (.iload 5, 2) := by decide +kernel
theorem dX10_isFound_60 : decode cX10_isFound 60 = .ok (.ifCond .eq 30, 3) := by decide +kernel
theorem dX10_isFound_63 : decode cX10_isFound 63 = .ok (.aload_n 0, 1) := by decide +kernel
theorem dX10_isFound_64 : decode cX10_isFound 64 = .ok (.iload_n 2, 1) := by decide +kernel
theorem dX10_isFound_65 : decode cX10_isFound 65 = .ok (.invokevirtual 337, 3) := by decide +kernel
theorem dX10_isFound_68 : decode cX10_isFound 68 = .ok (.ifCond .eq 22, 3) := by decide +kernel
theorem dX10_isFound_71 : decode cX10_isFound 71 = .ok (.aload_n 0, 1) := by decide +kernel
theorem dX10_isFound_72 : decode cX10_isFound 72 = .ok (.aload_n 0, 1) := by decide +kernel
theorem dX10_isFound_73 : decode cX10_isFound 73 = .ok (.getfield 47, 3) := by decide +kernel
theorem dX10_isFound_76 : decode cX10_isFound 76 = .ok (.iload_n 1, 1) := by decide +kernel
theorem dX10_isFound_77 : decode cX10_isFound 77 = .ok (.iaload, 1) := by decide +kernel
theorem dX10_isFound_78 : decode cX10_isFound 78 = .ok (.iload_n 2, 1) := by decide +kernel
theorem dX10_isFound_79 : decode cX10_isFound 79 = .ok (.iconst 0, 1) := by decide +kernel
theorem dX10_isFound_80 : decode cX10_isFound 80 = .ok (.invokevirtual 243, 3) := by decide +kernel
theorem dX10_isFound_83 : decode cX10_isFound 83 = .ok (.ifCond .eq 7, 3) := by decide +kernel
theorem dX10_isFound_86 : decode cX10_isFound 86 = .ok (.iconst 1, 1) := by decide +kernel
theorem dX10_isFound_87 : decode cX10_isFound 87 = .ok (.goto 4, 3) := by decide +kernel
theorem dX10_isFound_90 : decode cX10_isFound 90 = .ok (.iconst 0, 1) := by decide +kernel
theorem dX10_isFound_91 : decode cX10_isFound 91 = .ok (.ireturn, 1) := by decide +kernel
theorem dX10_search_0 : decode cX10_search 0 = .ok (.aload_n 0, 1) := by decide +kernel
theorem dX10_search_1 : decode cX10_search 1 = .ok (.aload_n 0, 1) := by decide +kernel
theorem dX10_search_2 : decode cX10_search 2 = .ok (.iload_n 1, 1) := by decide +kernel
theorem dX10_search_3 : decode cX10_search 3 = .ok (.iload_n 2, 1) := by decide +kernel
theorem dX10_search_4 : decode cX10_search 4 = .ok (.iload_n 3, 1) := by decide +kernel
theorem dX10_search_5 : decode cX10_search 5 = .ok (.invokevirtual 340, 3) := by decide +kernel
theorem dX10_search_8 : decode cX10_search 8 = .ok (.putfield 177, 3) := by decide +kernel
theorem dX10_search_11 : decode cX10_search 11 = .ok (.aload_n 0, 1) := by decide +kernel
theorem dX10_search_12 : decode cX10_search 12 = .ok (.getfield 177, 3) := by decide +kernel
theorem dX10_search_15 : decode cX10_search 15 = .ok (.ifCond .le 5, 3) := by decide +kernel
theorem dX10_search_18 : decode cX10_search 18 = .ok (.iconst 0, 1) := by decide +kernel
theorem dX10_search_19 : decode cX10_search 19 = .ok (.ireturn, 1) := by decide +kernel
theorem dX10_search_20 : decode cX10_search 20 = .ok (.aload_n 0, 1) := by decide +kernel
theorem dX10_search_21 : decode cX10_search 21 = .ok (.iconst 0, 1) := by decide +kernel
theorem dX10_search_22 : decode cX10_search 22 = .ok (.putfield 343, 3) := by decide +kernel
theorem dX10_search_25 : decode cX10_search 25 = .ok (.iconst 0, 1) := by decide +kernel
theorem dX10_search_26 : decode cX10_search 26 = .ok (.istore 4, 2) := by decide +kernel
theorem dX10_search_28 : decode cX10_search 28 = .ok (.iload 4, 2) := by decide +kernel
theorem dX10_search_30 : decode cX10_search 30 = .ok (.bipush 48, 2) := by decide +kernel
theorem dX10_search_32 : decode cX10_search 32 = .ok (.if_icmp .ge 47, 3) := by decide +kernel
theorem dX10_search_35 : decode cX10_search 35 = .ok (.aload_n 0, 1) := by decide +kernel
theorem dX10_search_36 : decode cX10_search 36 = .ok (.iload_n 1, 1) := by decide +kernel
theorem dX10_search_37 : decode cX10_search 37 = .ok (.iload 4, 2) := by decide +kernel
theorem dX10_search_39 : decode cX10_search 39 = .ok (.iload_n 2, 1) := by decide +kernel
theorem dX10_search_40 : decode cX10_search 40 = .ok (.iload_n 3, 1) := by decide +kernel
theorem dX10_search_41 : decode cX10_search 41 = .ok (.invokevirtual 346, 3) := by decide +kernel
theorem dX10_search_44 : decode cX10_search 44 = .ok (.ifCond .eq 29, 3) := by decide +kernel
theorem dX10_search_47 : decode cX10_search 47 = .ok (.aload_n 0, 1) := by decide +kernel
theorem dX10_search_48 : decode cX10_search 48 = .ok (.getfield 141, 3) := by decide +kernel
theorem dX10_search_51 : decode cX10_search 51 = .ok (.aload_n 0, 1) := by decide +kernel
theorem dX10_search_52 : decode cX10_search 52 = .ok (.getfield 343, 3) := by decide +kernel
theorem dX10_search_55 : decode cX10_search 55 = .ok (.bipush 100, 2) := by decide +kernel
theorem dX10_search_57 : decode cX10_search 57 = .ok (.iload_n 1, 1) := by decide +kernel
theorem dX10_search_58 : decode cX10_search 58 = .ok (.imul, 1) := by decide +kernel
theorem dX10_search_59 : decode cX10_search 59 = .ok (.iload 4, 2) := by decide +kernel
theorem dX10_search_61 : decode cX10_search 61 = .ok (.iadd, 1) := by decide +kernel
theorem dX10_search_62 : decode cX10_search 62 = .ok (.iastore, 1) := by decide +kernel
theorem dX10_search_63 : decode cX10_search 63 = .ok (.aload_n 0, 1) := by decide +kernel
theorem dX10_search_64 : decode cX10_search 64 = .ok (.dup, 1) := by decide +kernel
theorem dX10_search_65 : decode cX10_search 65 = .ok (.getfield 343, 3) := by decide +kernel
theorem dX10_search_68 : decode cX10_search 68 = .ok (.iconst 1, 1) := by decide +kernel
theorem dX10_search_69 : decode cX10_search 69 = .ok (.iadd, 1) := by decide +kernel
theorem dX10_search_70 : decode cX10_search 70 = .ok (.putfield 343, 3) := by decide +kernel
theorem dX10_search_73 : decode cX10_search 73 = .ok (.iinc 4 1, 3) := by decide +kernel
theorem dX10_search_76 : decode cX10_search 76 = .ok (.goto (-48), 3) := by decide +kernel
theorem dX10_search_79 : decode cX10_search 79 = .ok (.aload_n 0, 1) := by decide +kernel
theorem dX10_search_80 : decode cX10_search 80 = .ok (.getfield 343, 3) := by decide +kernel
theorem dX10_search_83 : decode cX10_search 83 = .ok (.ireturn, 1) := by decide +kernel
theorem dX10_searchByWalk_0 : decode cX10_searchByWalk 0 = .ok (.aload_n 0, 1) := by decide +kernel
theorem dX10_searchByWalk_1 : decode cX10_searchByWalk 1 = .ok (.aload_n 0, 1) := by decide +kernel
theorem dX10_searchByWalk_2 : decode cX10_searchByWalk 2 = .ok (.iload_n 1, 1) := by decide +kernel
theorem dX10_searchByWalk_3 : decode cX10_searchByWalk 3 = .ok (.iload_n 2, 1) := by decide +kernel
theorem dX10_searchByWalk_4 : decode cX10_searchByWalk 4 = .ok (.iload_n 3, 1) := by decide +kernel
theorem dX10_searchByWalk_5 : decode cX10_searchByWalk 5 = .ok (.invokevirtual 340, 3) := by decide +kernel
theorem dX10_searchByWalk_8 : decode cX10_searchByWalk 8 = .ok (.putfield 177, 3) := by decide +kernel
theorem dX10_searchByWalk_11 : decode cX10_searchByWalk 11 = .ok (.aload_n 0, 1) := by decide +kernel
theorem dX10_searchByWalk_12 : decode cX10_searchByWalk 12 = .ok (.getfield 177, 3) := by decide +kernel
theorem dX10_searchByWalk_15 : decode cX10_searchByWalk 15 = .ok (.ifCond .le 5, 3) := by decide +kernel
theorem dX10_searchByWalk_18 : decode cX10_searchByWalk 18 = .ok (.iconst 0, 1) := by decide +kernel
theorem dX10_searchByWalk_19 : decode cX10_searchByWalk 19 = .ok (.ireturn, 1) := by decide +kernel
theorem dX10_searchByWalk_20 : decode cX10_searchByWalk 20 = .ok (.iconst 0, 1) := by decide +kernel
theorem dX10_searchByWalk_21 : decode cX10_searchByWalk 21 = .ok (.istore 4, 2) := by decide +kernel
theorem dX10_searchByWalk_23 : decode cX10_searchByWalk 23 = .ok (.iconst 0, 1) := by decide +kernel
theorem dX10_searchByWalk_24 : decode cX10_searchByWalk 24 = .ok (.istore 5, 2) := by decide +kernel
theorem dX10_searchByWalk_26 : decode cX10_searchByWalk 26 = .ok (.iload 5, 2) := by decide +kernel
theorem dX10_searchByWalk_28 : decode cX10_searchByWalk 28 = .ok (.bipush 48, 2) := by decide +kernel
theorem dX10_searchByWalk_30 : decode cX10_searchByWalk 30 = .ok (.if_icmp .ge 31, 3) := by decide +kernel
theorem dX10_searchByWalk_33 : decode cX10_searchByWalk 33 = .ok (.iload 4, 2) := by decide +kernel
theorem dX10_searchByWalk_35 : decode cX10_searchByWalk 35 = .ok (.aload_n 0, 1) := by decide +kernel
theorem dX10_searchByWalk_36 : decode cX10_searchByWalk 36 = .ok (.iload_n 1, 1) := by decide +kernel
theorem dX10_searchByWalk_37 : decode cX10_searchByWalk 37 = .ok (.iload 5, 2) := by decide +kernel
theorem dX10_searchByWalk_39 : decode cX10_searchByWalk 39 = .ok (.iload_n 2, 1) := by decide +kernel
theorem dX10_searchByWalk_40 : decode cX10_searchByWalk 40 = .ok (.iload_n 3, 1) := by decide +kernel
theorem dX10_searchByWalk_41 : decode cX10_searchByWalk 41 = .ok (.invokevirtual 346, 3) := by decide +kernel
theorem dX10_searchByWalk_44 : decode cX10_searchByWalk 44 = .ok (.ifCond .eq 7, 3) := by decide +kernel
theorem dX10_searchByWalk_47 : decode cX10_searchByWalk 47 = .ok (.iconst 1, 1) := by decide +kernel
theorem dX10_searchByWalk_48 : decode cX10_searchByWalk 48 = .ok (.goto 4, 3) := by decide +kernel
theorem dX10_searchByWalk_51 : decode cX10_searchByWalk 51 = .ok (.iconst 0, 1) := by decide +kernel
theorem dX10_searchByWalk_52 : decode cX10_searchByWalk 52 = .ok (.iadd, 1) := by decide +kernel
theorem dX10_searchByWalk_53 : decode cX10_searchByWalk 53 = .ok (.istore 4, 2) := by decide +kernel
theorem dX10_searchByWalk_55 : decode cX10_searchByWalk 55 = .ok (.iinc 5 1, 3) := by decide +kernel
theorem dX10_searchByWalk_58 : decode cX10_searchByWalk 58 = .ok (.goto (-32), 3) := by decide +kernel
theorem dX10_searchByWalk_61 : decode cX10_searchByWalk 61 = .ok (.iload 4, 2) := by decide +kernel
theorem dX10_searchByWalk_63 : decode cX10_searchByWalk 63 = .ok (.ireturn, 1) := by decide +kernel
theorem dX10_arrives_0 : decode cX10_arrives 0 = .ok (.iload_n 1, 1) := by decide +kernel
theorem dX10_arrives_1 : decode cX10_arrives 1 = .ok (.bipush 100, 2) := by decide +kernel
theorem dX10_arrives_3 : decode cX10_arrives 3 = .ok (.idiv, 1) := by decide +kernel
theorem dX10_arrives_4 : decode cX10_arrives 4 = .ok (.istore_n 2, 1) := by decide +kernel
theorem dX10_arrives_5 : decode cX10_arrives 5 = .ok (.iload_n 1, 1) := by decide +kernel
theorem dX10_arrives_6 : decode cX10_arrives 6 = .ok (.bipush 100, 2) := by decide +kernel
theorem dX10_arrives_8 : decode cX10_arrives 8 = .ok (.irem, 1) := by decide +kernel
theorem dX10_arrives_9 : decode cX10_arrives 9 = .ok (.istore_n 3, 1) := by decide +kernel
theorem dX10_arrives_10 : decode cX10_arrives 10 = .ok (.aload_n 0, 1) := by decide +kernel
theorem dX10_arrives_11 : decode cX10_arrives 11 = .ok (.iload_n 2, 1) := by decide +kernel
theorem dX10_arrives_12 : decode cX10_arrives 12 = .ok (.invokevirtual 229, 3) := by decide +kernel
theorem dX10_arrives_15 : decode cX10_arrives 15 = .ok (.aload_n 0, 1) := by decide +kernel
theorem dX10_arrives_16 : decode cX10_arrives 16 = .ok (.iload_n 3, 1) := by decide +kernel
theorem dX10_arrives_17 : decode cX10_arrives 17 = .ok (.invokevirtual 222, 3) := by decide +kernel
theorem dX10_arrives_20 : decode cX10_arrives 20 = .ok (.ifCond .eq 101, 3) := by decide +kernel
theorem dX10_arrives_23 : decode cX10_arrives 23 = .ok (.aload_n 0, 1) := by decide +kernel
theorem dX10_arrives_24 : decode cX10_arrives 24 = .ok (.getfield 147, 3) := by decide +kernel
theorem dX10_arrives_27 : decode cX10_arrives 27 = .ok (.bipush 48, 2) := by decide +kernel
theorem dX10_arrives_29 : decode cX10_arrives 29 = .ok (.iload_n 2, 1) := by decide +kernel
theorem dX10_arrives_30 : decode cX10_arrives 30 = .ok (.imul, 1) := by decide +kernel
theorem dX10_arrives_31 : decode cX10_arrives 31 = .ok (.iload_n 3, 1) := by decide +kernel
theorem dX10_arrives_32 : decode cX10_arrives 32 = .ok (.iadd, 1) := by decide +kernel
theorem dX10_arrives_33 : decode cX10_arrives 33 = .ok (.baload, 1) := by decide +kernel
theorem dX10_arrives_34 : decode cX10_arrives 34 = .ok (.ifCond .ne 87, 3) := by decide +kernel
theorem dX10_arrives_37 : decode cX10_arrives 37 = .ok (.aload_n 0, 1) := by decide +kernel
theorem dX10_arrives_38 : decode cX10_arrives 38 = .ok (.getfield 147, 3) := by decide +kernel
theorem dX10_arrives_41 : decode cX10_arrives 41 = .ok (.bipush 48, 2) := by decide +kernel
theorem dX10_arrives_43 : decode cX10_arrives 43 = .ok (.iload_n 2, 1) := by decide +kernel
theorem dX10_arrives_44 : decode cX10_arrives 44 = .ok (.imul, 1) := by decide +kernel
theorem dX10_arrives_45 : decode cX10_arrives 45 = .ok (.iload_n 3, 1) := by decide +kernel
theorem dX10_arrives_46 : decode cX10_arrives 46 = .ok (.iadd, 1) := by decide +kernel
theorem dX10_arrives_47 : decode cX10_arrives 47 = .ok (.iconst 1, 1) := by decide +kernel
theorem dX10_arrives_48 : decode cX10_arrives 48 = .ok (.bastore, 1) := by decide +kernel
theorem dX10_arrives_49 : decode cX10_arrives 49 = .ok (.aload_n 0, 1) := by decide +kernel
theorem dX10_arrives_50 : decode cX10_arrives 50 = .ok (.getfield 117, 3) := by decide +kernel
theorem dX10_arrives_53 : decode cX10_arrives 53 = .ok (.iload_n 3, 1) := by decide +kernel
theorem dX10_arrives_54 : decode cX10_arrives 54 = .ok (.iaload, 1) := by decide +kernel
theorem dX10_arrives_55 : decode cX10_arrives 55 = .ok (.iconst (-1), 1) := by decide +kernel
theorem dX10_arrives_56 : decode cX10_arrives 56 = .ok (.if_icmp .ne 10, 3) := by decide +kernel
theorem dX10_arrives_59 : decode cX10_arrives 59 = .ok (.bipush 100, 2) := by decide +kernel
theorem dX10_arrives_61 : decode cX10_arrives 61 = .ok (.iload_n 2, 1) := by decide +kernel
theorem dX10_arrives_62 : decode cX10_arrives 62 = .ok (.imul, 1) := by decide +kernel
theorem dX10_arrives_63 : decode cX10_arrives 63 = .ok (.iload_n 3, 1) := by decide +kernel
theorem dX10_arrives_64 : decode cX10_arrives 64 = .ok (.iadd, 1) := by decide +kernel
theorem dX10_arrives_65 : decode cX10_arrives 65 = .ok (.ireturn, 1) := by decide +kernel
theorem dX10_arrives_66 : decode cX10_arrives 66 = .ok (.aload_n 0, 1) := by decide +kernel
theorem dX10_arrives_67 : decode cX10_arrives 67 = .ok (.getfield 117, 3) := by decide +kernel
theorem dX10_arrives_70 : decode cX10_arrives 70 = .ok (.iload_n 3, 1) := by decide +kernel
theorem dX10_arrives_71 : decode cX10_arrives 71 = .ok (.iaload, 1) := by decide +kernel
theorem dX10_arrives_72 : decode cX10_arrives 72 = .ok (.bipush 100, 2) := by decide +kernel
theorem dX10_arrives_74 : decode cX10_arrives 74 = .ok (.if_icmp .lt 15, 3) := by decide +kernel
theorem dX10_arrives_77 : decode cX10_arrives 77 = .ok (.aload_n 0, 1) := by decide +kernel
theorem dX10_arrives_78 : decode cX10_arrives 78 = .ok (.getfield 117, 3) := by decide +kernel
theorem dX10_arrives_81 : decode cX10_arrives 81 = .ok (.iload_n 3, 1) := by decide +kernel
theorem dX10_arrives_82 : decode cX10_arrives 82 = .ok (.iaload, 1) := by decide +kernel
theorem dX10_arrives_83 : decode cX10_arrives 83 = .ok (.bipush 100, 2) := by decide +kernel
theorem dX10_arrives_85 : decode cX10_arrives 85 = .ok (.isub, 1) := by decide +kernel
theorem dX10_arrives_86 : decode cX10_arrives 86 = .ok (.goto 4, 3) := by decide +kernel
theorem dX10_arrives_89 : decode cX10_arrives 89 = .ok (.iload_n 2, 1) := by decide +kernel
theorem dX10_arrives_90 : decode cX10_arrives 90 = .ok (.istore_n 2, 1) := by decide +kernel
theorem dX10_arrives_91 : decode cX10_arrives 91 = .ok (.aload_n 0, 1) := by decide +kernel
theorem dX10_arrives_92 : decode cX10_arrives 92 = .ok (.getfield 117, 3) := by decide +kernel
theorem dX10_arrives_95 : decode cX10_arrives 95 = .ok (.iload_n 3, 1) := by decide +kernel
theorem dX10_arrives_96 : decode cX10_arrives 96 = .ok (.iaload, 1) := by decide +kernel
theorem dX10_arrives_97 : decode cX10_arrives 97 = .ok (.bipush 100, 2) := by decide +kernel
theorem dX10_arrives_99 : decode cX10_arrives 99 = .ok (.if_icmp .lt 7, 3) := by decide +kernel
theorem dX10_arrives_102 : decode cX10_arrives 102 = .ok (.iload_n 3, 1) := by decide +kernel
theorem dX10_arrives_103 : decode cX10_arrives 103 = .ok (.goto 9, 3) := by decide +kernel
theorem dX10_arrives_106 : decode cX10_arrives 106 = .ok (.aload_n 0, 1) := by decide +kernel
theorem dX10_arrives_107 : decode cX10_arrives 107 = .ok (.getfield 117, 3) := by decide +kernel
theorem dX10_arrives_110 : decode cX10_arrives 110 = .ok (.iload_n 3, 1) := by decide +kernel
theorem dX10_arrives_111 : decode cX10_arrives 111 = .ok (.iaload, 1) := by decide +kernel
theorem dX10_arrives_112 : decode cX10_arrives 112 = .ok (.istore_n 3, 1) := by decide +kernel
theorem dX10_arrives_113 : decode cX10_arrives 113 = .ok (.aload_n 0, 1) := by decide +kernel
theorem dX10_arrives_114 : decode cX10_arrives 114 = .ok (.iload_n 2, 1) := by decide +kernel
theorem dX10_arrives_115 : decode cX10_arrives 115 = .ok (.invokevirtual 229, 3) := by decide +kernel
theorem dX10_arrives_118 : decode cX10_arrives 118 = .ok (.goto (-103), 3) := by decide +kernel
theorem dX10_arrives_121 : decode cX10_arrives 121 = .ok (.iconst (-1), 1) := by decide +kernel
theorem dX10_arrives_122 : decode cX10_arrives 122 = .ok (.ireturn, 1) := by decide +kernel
theorem dX10_looks_0 : decode cX10_looks 0 = .ok (.aload_n 0, 1) := by decide +kernel
theorem dX10_looks_1 : decode cX10_looks 1 = .ok (.iload_n 1, 1) := by decide +kernel
theorem dX10_looks_2 : decode cX10_looks 2 = .ok (.bipush 100, 2) := by decide +kernel
theorem dX10_looks_4 : decode cX10_looks 4 = .ok (.irem, 1) := by decide +kernel
theorem dX10_looks_5 : decode cX10_looks 5 = .ok (.invokevirtual 337, 3) := by decide +kernel
theorem dX10_looks_8 : decode cX10_looks 8 = .ok (.ifCond .eq 36, 3) := by decide +kernel
theorem dX10_looks_11 : decode cX10_looks 11 = .ok (.aload_n 0, 1) := by decide +kernel
theorem dX10_looks_12 : decode cX10_looks 12 = .ok (.iload_n 2, 1) := by decide +kernel
theorem dX10_looks_13 : decode cX10_looks 13 = .ok (.iload_n 1, 1) := by decide +kernel
theorem dX10_looks_14 : decode cX10_looks 14 = .ok (.bipush 100, 2) := by decide +kernel
theorem dX10_looks_16 : decode cX10_looks 16 = .ok (.irem, 1) := by decide +kernel
theorem dX10_looks_17 : decode cX10_looks 17 = .ok (.iconst 0, 1) := by decide +kernel
theorem dX10_looks_18 : decode cX10_looks 18 = .ok (.invokevirtual 243, 3) := by decide +kernel
theorem dX10_looks_21 : decode cX10_looks 21 = .ok (.ifCond .eq 23, 3) := by decide +kernel
theorem dX10_looks_24 : decode cX10_looks 24 = .ok (.aload_n 0, 1) := by decide +kernel
theorem dX10_looks_25 : decode cX10_looks 25 = .ok (.getfield 141, 3) := by decide +kernel
theorem dX10_looks_28 : decode cX10_looks 28 = .ok (.aload_n 0, 1) := by decide +kernel
theorem dX10_looks_29 : decode cX10_looks 29 = .ok (.getfield 343, 3) := by decide +kernel
theorem dX10_looks_32 : decode cX10_looks 32 = .ok (.iload_n 1, 1) := by decide +kernel
theorem dX10_looks_33 : decode cX10_looks 33 = .ok (.iastore, 1) := by decide +kernel
theorem dX10_looks_34 : decode cX10_looks 34 = .ok (.aload_n 0, 1) := by decide +kernel
theorem dX10_looks_35 : decode cX10_looks 35 = .ok (.dup, 1) := by decide +kernel
theorem dX10_looks_36 : decode cX10_looks 36 = .ok (.getfield 343, 3) := by decide +kernel
theorem dX10_looks_39 : decode cX10_looks 39 = .ok (.iconst 1, 1) := by decide +kernel
theorem dX10_looks_40 : decode cX10_looks 40 = .ok (.iadd, 1) := by decide +kernel
theorem dX10_looks_41 : decode cX10_looks 41 = .ok (.putfield 343, 3) := by decide +kernel
theorem dX10_looks_44 : decode cX10_looks 44 = .ok (.return_, 1) := by decide +kernel
theorem dX10_waits_0 : decode cX10_waits 0 = .ok (.aload_n 0, 1) := by decide +kernel
theorem dX10_waits_1 : decode cX10_waits 1 = .ok (.getfield 350, 3) := by decide +kernel
theorem dX10_waits_4 : decode cX10_waits 4 = .ok (.istore_n 2, 1) := by decide +kernel
theorem dX10_waits_5 : decode cX10_waits 5 = .ok (.iconst 1, 1) := by decide +kernel
theorem dX10_waits_6 : decode cX10_waits 6 = .ok (.istore_n 3, 1) := by decide +kernel
theorem dX10_waits_7 : decode cX10_waits 7 = .ok (.iload_n 3, 1) := by decide +kernel
theorem dX10_waits_8 : decode cX10_waits 8 = .ok (.bipush 48, 2) := by decide +kernel
theorem dX10_waits_10 : decode cX10_waits 10 = .ok (.if_icmp .ge 115, 3) := by decide +kernel
theorem dX10_waits_13 : decode cX10_waits 13 = .ok (.aload_n 0, 1) := by decide +kernel
theorem dX10_waits_14 : decode cX10_waits 14 = .ok (.iload_n 3, 1) := by decide +kernel
theorem dX10_waits_15 : decode cX10_waits 15 = .ok (.invokevirtual 222, 3) := by decide +kernel
theorem dX10_waits_18 : decode cX10_waits 18 = .ok (.ifCond .eq 101, 3) := by decide +kernel
theorem dX10_waits_21 : decode cX10_waits 21 = .ok (.aload_n 0, 1) := by decide +kernel
theorem dX10_waits_22 : decode cX10_waits 22 = .ok (.getfield 123, 3) := by decide +kernel
theorem dX10_waits_25 : decode cX10_waits 25 = .ok (.iload_n 3, 1) := by decide +kernel
theorem dX10_waits_26 : decode cX10_waits 26 = .ok (.iaload, 1) := by decide +kernel
theorem dX10_waits_27 : decode cX10_waits 27 = .ok (.iload_n 1, 1) := by decide +kernel
theorem dX10_waits_28 : decode cX10_waits 28 = .ok (.bipush 100, 2) := by decide +kernel
theorem dX10_waits_30 : decode cX10_waits 30 = .ok (.irem, 1) := by decide +kernel
theorem dX10_waits_31 : decode cX10_waits 31 = .ok (.if_icmp .ne 88, 3) := by decide +kernel
theorem dX10_waits_34 : decode cX10_waits 34 = .ok (.aload_n 0, 1) := by decide +kernel
theorem dX10_waits_35 : decode cX10_waits 35 = .ok (.getfield 350, 3) := by decide +kernel
theorem dX10_waits_38 : decode cX10_waits 38 = .ok (.istore 4, 2) := by decide +kernel
theorem dX10_waits_40 : decode cX10_waits 40 = .ok (.iload 4, 2) := by decide +kernel
theorem dX10_waits_42 : decode cX10_waits 42 = .ok (.iload_n 2, 1) := by decide +kernel
theorem dX10_waits_43 : decode cX10_waits 43 = .ok (.if_icmp .le 51, 3) := by decide +kernel
theorem dX10_waits_46 : decode cX10_waits 46 = .ok (.aload_n 0, 1) := by decide +kernel
theorem dX10_waits_47 : decode cX10_waits 47 = .ok (.getfield 126, 3) := by decide +kernel
theorem dX10_waits_50 : decode cX10_waits 50 = .ok (.aload_n 0, 1) := by decide +kernel
theorem dX10_waits_51 : decode cX10_waits 51 = .ok (.getfield 144, 3) := by decide +kernel
theorem dX10_waits_54 : decode cX10_waits 54 = .ok (.iload 4, 2) := by decide +kernel
theorem dX10_waits_56 : decode cX10_waits 56 = .ok (.iconst 1, 1) := by decide +kernel
theorem dX10_waits_57 : decode cX10_waits 57 = .ok (.isub, 1) := by decide +kernel
theorem dX10_waits_58 : decode cX10_waits 58 = .ok (.iaload, 1) := by decide +kernel
theorem dX10_waits_59 : decode cX10_waits 59 = .ok (.bipush 100, 2) := by decide +kernel
theorem dX10_waits_61 : decode cX10_waits 61 = .ok (.irem, 1) := by decide +kernel
theorem dX10_waits_62 : decode cX10_waits 62 = .ok (.iaload, 1) := by decide +kernel
theorem dX10_waits_63 : decode cX10_waits 63 = .ok (.aload_n 0, 1) := by decide +kernel
theorem dX10_waits_64 : decode cX10_waits 64 = .ok (.getfield 126, 3) := by decide +kernel
theorem dX10_waits_67 : decode cX10_waits 67 = .ok (.iload_n 3, 1) := by decide +kernel
theorem dX10_waits_68 : decode cX10_waits 68 = .ok (.iaload, 1) := by decide +kernel
theorem dX10_waits_69 : decode cX10_waits 69 = .ok (.if_icmp .ge 25, 3) := by decide +kernel
theorem dX10_waits_72 : decode cX10_waits 72 = .ok (.aload_n 0, 1) := by decide +kernel
theorem dX10_waits_73 : decode cX10_waits 73 = .ok (.getfield 144, 3) := by decide +kernel
theorem dX10_waits_76 : decode cX10_waits 76 = .ok (.iload 4, 2) := by decide +kernel
theorem dX10_waits_78 : decode cX10_waits 78 = .ok (.aload_n 0, 1) := by decide +kernel
theorem dX10_waits_79 : decode cX10_waits 79 = .ok (.getfield 144, 3) := by decide +kernel
theorem dX10_waits_82 : decode cX10_waits 82 = .ok (.iload 4, 2) := by decide +kernel
theorem dX10_waits_84 : decode cX10_waits 84 = .ok (.iconst 1, 1) := by decide +kernel
theorem dX10_waits_85 : decode cX10_waits 85 = .ok (.isub, 1) := by decide +kernel
theorem dX10_waits_86 : decode cX10_waits 86 = .ok (.iaload, 1) := by decide +kernel
theorem dX10_waits_87 : decode cX10_waits 87 = .ok (.iastore, 1) := by decide +kernel
theorem dX10_waits_88 : decode cX10_waits 88 = .ok (.iinc 4 (-1), 3) := by decide +kernel
theorem dX10_waits_91 : decode cX10_waits 91 = .ok (.goto (-51), 3) := by decide +kernel
theorem dX10_waits_94 : decode cX10_waits 94 = .ok (.aload_n 0, 1) := by decide +kernel
theorem dX10_waits_95 : decode cX10_waits 95 = .ok (.getfield 144, 3) := by decide +kernel
theorem dX10_waits_98 : decode cX10_waits 98 = .ok (.iload 4, 2) := by decide +kernel
theorem dX10_waits_100 : decode cX10_waits 100 = .ok (.iload_n 1, 1) := by decide +kernel
theorem dX10_waits_101 : decode cX10_waits 101 = .ok (.iload_n 1, 1) := by decide +kernel
theorem dX10_waits_102 : decode cX10_waits 102 = .ok (.bipush 100, 2) := by decide +kernel
theorem dX10_waits_104 : decode cX10_waits 104 = .ok (.irem, 1) := by decide +kernel
theorem dX10_waits_105 : decode cX10_waits 105 = .ok (.isub, 1) := by decide +kernel
theorem dX10_waits_106 : decode cX10_waits 106 = .ok (.iload_n 3, 1) := by decide +kernel
theorem dX10_waits_107 : decode cX10_waits 107 = .ok (.iadd, 1) := by decide +kernel
theorem dX10_waits_108 : decode cX10_waits 108 = .ok (.iastore, 1) := by decide +kernel
theorem dX10_waits_109 : decode cX10_waits 109 = .ok (.aload_n 0, 1) := by decide +kernel
theorem dX10_waits_110 : decode cX10_waits 110 = .ok (.dup, 1) := by decide +kernel
theorem dX10_waits_111 : decode cX10_waits 111 = .ok (.getfield 350, 3) := by decide +kernel
theorem dX10_waits_114 : decode cX10_waits 114 = .ok (.iconst 1, 1) := by decide +kernel
theorem dX10_waits_115 : decode cX10_waits 115 = .ok (.iadd, 1) := by decide +kernel
theorem dX10_waits_116 : decode cX10_waits 116 = .ok (.putfield 350, 3) := by decide +kernel
theorem dX10_waits_119 : decode cX10_waits 119 = .ok (.iinc 3 1, 3) := by decide +kernel
theorem dX10_waits_122 : decode cX10_waits 122 = .ok (.goto (-115), 3) := by decide +kernel
theorem dX10_waits_125 : decode cX10_waits 125 = .ok (.return_, 1) := by decide +kernel
theorem dX10_follow_0 : decode cX10_follow 0 = .ok (.aload_n 0, 1) := by decide +kernel
theorem dX10_follow_1 : decode cX10_follow 1 = .ok (.aload_n 0, 1) := by decide +kernel
theorem dX10_follow_2 : decode cX10_follow 2 = .ok (.iload_n 1, 1) := by decide +kernel
theorem dX10_follow_3 : decode cX10_follow 3 = .ok (.iload_n 2, 1) := by decide +kernel
theorem dX10_follow_4 : decode cX10_follow 4 = .ok (.iload_n 3, 1) := by decide +kernel
theorem dX10_follow_5 : decode cX10_follow 5 = .ok (.invokevirtual 340, 3) := by decide +kernel
theorem dX10_follow_8 : decode cX10_follow 8 = .ok (.putfield 177, 3) := by decide +kernel
theorem dX10_follow_11 : decode cX10_follow 11 = .ok (.aload_n 0, 1) := by decide +kernel
theorem dX10_follow_12 : decode cX10_follow 12 = .ok (.getfield 177, 3) := by decide +kernel
theorem dX10_follow_15 : decode cX10_follow 15 = .ok (.ifCond .le 5, 3) := by decide +kernel
theorem dX10_follow_18 : decode cX10_follow 18 = .ok (.iconst 0, 1) := by decide +kernel
theorem dX10_follow_19 : decode cX10_follow 19 = .ok (.ireturn, 1) := by decide +kernel
theorem dX10_follow_20 : decode cX10_follow 20 = .ok (.iconst 0, 1) := by decide +kernel
theorem dX10_follow_21 : decode cX10_follow 21 = .ok (.istore 4, 2) := by decide +kernel
theorem dX10_follow_23 : decode cX10_follow 23 = .ok (.iload 4, 2) := by decide +kernel
theorem dX10_follow_25 : decode cX10_follow 25 = .ok (.sipush 192, 3) := by decide +kernel
theorem dX10_follow_28 : decode cX10_follow 28 = .ok (.if_icmp .ge 17, 3) := by decide +kernel
theorem dX10_follow_31 : decode cX10_follow 31 = .ok (.aload_n 0, 1) := by decide +kernel
theorem dX10_follow_32 : decode cX10_follow 32 = .ok (.getfield 147, 3) := by decide +kernel
theorem dX10_follow_35 : decode cX10_follow 35 = .ok (.iload 4, 2) := by decide +kernel
theorem dX10_follow_37 : decode cX10_follow 37 = .ok (.iconst 0, 1) := by decide +kernel
theorem dX10_follow_38 : decode cX10_follow 38 = .ok (.bastore, 1) := by decide +kernel
theorem dX10_follow_39 : decode cX10_follow 39 = .ok (.iinc 4 1, 3) := by decide +kernel
theorem dX10_follow_42 : decode cX10_follow 42 = .ok (.goto (-19), 3) := by decide +kernel
theorem dX10_follow_45 : decode cX10_follow 45 = .ok (.aload_n 0, 1) := by decide +kernel
theorem dX10_follow_46 : decode cX10_follow 46 = .ok (.iconst 0, 1) := by decide +kernel
theorem dX10_follow_47 : decode cX10_follow 47 = .ok (.putfield 343, 3) := by decide +kernel
theorem dX10_follow_50 : decode cX10_follow 50 = .ok (.aload_n 0, 1) := by decide +kernel
theorem dX10_follow_51 : decode cX10_follow 51 = .ok (.getfield 144, 3) := by decide +kernel
theorem dX10_follow_54 : decode cX10_follow 54 = .ok (.iconst 0, 1) := by decide +kernel
theorem dX10_follow_55 : decode cX10_follow 55 = .ok (.bipush 100, 2) := by decide +kernel
theorem dX10_follow_57 : decode cX10_follow 57 = .ok (.iload_n 1, 1) := by decide +kernel
theorem dX10_follow_58 : decode cX10_follow 58 = .ok (.imul, 1) := by decide +kernel
theorem dX10_follow_59 : decode cX10_follow 59 = .ok (.iload_n 2, 1) := by decide +kernel
theorem dX10_follow_60 : decode cX10_follow 60 = .ok (.iadd, 1) := by decide +kernel
theorem dX10_follow_61 : decode cX10_follow 61 = .ok (.iastore, 1) := by decide +kernel
theorem dX10_follow_62 : decode cX10_follow 62 = .ok (.aload_n 0, 1) := by decide +kernel
theorem dX10_follow_63 : decode cX10_follow 63 = .ok (.iconst 1, 1) := by decide +kernel
theorem dX10_follow_64 : decode cX10_follow 64 = .ok (.putfield 350, 3) := by decide +kernel
theorem dX10_follow_67 : decode cX10_follow 67 = .ok (.iconst 1, 1) := by decide +kernel
theorem dX10_follow_68 : decode cX10_follow 68 = .ok (.istore 4, 2) := by decide +kernel
theorem dX10_follow_70 : decode cX10_follow 70 = .ok (.aload_n 0, 1) := by decide +kernel
theorem dX10_follow_71 : decode cX10_follow 71 = .ok (.getfield 350, 3) := by decide +kernel
theorem dX10_follow_74 : decode cX10_follow 74 = .ok (.ifCond .le 89, 3) := by decide +kernel
theorem dX10_follow_77 : decode cX10_follow 77 = .ok (.aload_n 0, 1) := by decide +kernel
theorem dX10_follow_78 : decode cX10_follow 78 = .ok (.dup, 1) := by decide +kernel
theorem dX10_follow_79 : decode cX10_follow 79 = .ok (.getfield 350, 3) := by decide +kernel
theorem dX10_follow_82 : decode cX10_follow 82 = .ok (.iconst 1, 1) := by decide +kernel
theorem dX10_follow_83 : decode cX10_follow 83 = .ok (.isub, 1) := by decide +kernel
theorem dX10_follow_84 : decode cX10_follow 84 = .ok (.putfield 350, 3) := by decide +kernel
theorem dX10_follow_87 : decode cX10_follow 87 = .ok (.aload_n 0, 1) := by decide +kernel
theorem dX10_follow_88 : decode cX10_follow 88 = .ok (.aload_n 0, 1) := by decide +kernel
theorem dX10_follow_89 : decode cX10_follow 89 = .ok (.getfield 144, 3) := by decide +kernel
theorem dX10_follow_92 : decode cX10_follow 92 = .ok (.aload_n 0, 1) := by decide +kernel
theorem dX10_follow_93 : decode cX10_follow 93 = .ok (.getfield 350, 3) := by decide +kernel
theorem dX10_follow_96 : decode cX10_follow 96 = .ok (.iaload, 1) := by decide +kernel
theorem dX10_follow_97 : decode cX10_follow 97 = .ok (.invokevirtual 353, 3) := by decide +kernel
theorem dX10_follow_100 : decode cX10_follow 100 = .ok (.istore 5, 2) := by decide +kernel
theorem dX10_follow_102 : decode cX10_follow 102 = .ok (.iload 5, 2) := by decide +kernel
theorem dX10_follow_104 : decode cX10_follow 104 = .ok (.iconst (-1), 1) := by decide +kernel
theorem dX10_follow_105 : decode cX10_follow 105 = .ok (.if_icmp .eq 25, 3) := by decide +kernel
theorem dX10_follow_108 : decode cX10_follow 108 = .ok (.iload_n 3, 1) := by decide +kernel
theorem dX10_follow_109 : decode cX10_follow 109 = .ok (.iconst 1, 1) := by decide +kernel
theorem dX10_follow_110 : decode cX10_follow 110 = .ok (.if_icmp .ne 8, 3) := by decide +kernel
theorem dX10_follow_113 : decode cX10_follow 113 = .ok (.iload 4, 2) := by decide +kernel
theorem dX10_follow_115 : decode cX10_follow 115 = .ok (.ifCond .ne 15, 3) := by decide +kernel
theorem dX10_follow_118 : decode cX10_follow 118 = .ok (.aload_n 0, 1) := by decide +kernel
theorem dX10_follow_119 : decode cX10_follow 119 = .ok (.iload 5, 2) := by decide +kernel
theorem dX10_follow_121 : decode cX10_follow 121 = .ok (.aload_n 0, 1) := by decide +kernel
theorem dX10_follow_122 : decode cX10_follow 122 = .ok (.getfield 47, 3) := by decide +kernel
theorem dX10_follow_125 : decode cX10_follow 125 = .ok (.iload_n 1, 1) := by decide +kernel
theorem dX10_follow_126 : decode cX10_follow 126 = .ok (.iaload, 1) := by decide +kernel
theorem dX10_follow_127 : decode cX10_follow 127 = .ok (.invokevirtual 356, 3) := by decide +kernel
theorem dX10_follow_130 : decode cX10_follow 130 = .ok (.iload 5, 2) := by decide +kernel
theorem dX10_follow_132 : decode cX10_follow 132 = .ok (.iconst (-1), 1) := by decide +kernel
theorem dX10_follow_133 : decode cX10_follow 133 = .ok (.if_icmp .eq 24, 3) := by decide +kernel
theorem dX10_follow_136 : decode cX10_follow 136 = .ok (.iload_n 3, 1) := by decide +kernel
theorem dX10_follow_137 : decode cX10_follow 137 = .ok (.iconst 2, 1) := by decide +kernel
theorem dX10_follow_138 : decode cX10_follow 138 = .ok (.if_icmp .eq 13, 3) := by decide +kernel
theorem dX10_follow_141 : decode cX10_follow 141 = .ok (.iload_n 3, 1) := by decide +kernel
theorem dX10_follow_142 : decode cX10_follow 142 = .ok (.iconst 1, 1) := by decide +kernel
theorem dX10_follow_143 : decode cX10_follow 143 = .ok (.if_icmp .ne 14, 3) := by decide +kernel
theorem dX10_follow_146 : decode cX10_follow 146 = .ok (.iload 4, 2) := by decide +kernel
theorem dX10_follow_148 : decode cX10_follow 148 = .ok (.ifCond .eq 9, 3) := by decide +kernel
theorem dX10_follow_151 : decode cX10_follow 151 = .ok (.aload_n 0, 1) := by decide +kernel
theorem dX10_follow_152 : decode cX10_follow 152 = .ok (.iload 5, 2) := by decide +kernel
theorem dX10_follow_154 : decode cX10_follow 154 = .ok (.invokevirtual 359, 3) := by decide +kernel
theorem dX10_follow_157 : decode cX10_follow 157 = .ok (.iconst 0, 1) := by decide +kernel
theorem dX10_follow_158 : decode cX10_follow 158 = .ok (.istore 4, 2) := by decide +kernel
theorem dX10_follow_160 : decode cX10_follow 160 = .ok (.goto (-90), 3) := by decide +kernel
theorem dX10_follow_163 : decode cX10_follow 163 = .ok (.aload_n 0, 1) := by decide +kernel
theorem dX10_follow_164 : decode cX10_follow 164 = .ok (.getfield 343, 3) := by decide +kernel
theorem dX10_follow_167 : decode cX10_follow 167 = .ok (.ireturn, 1) := by decide +kernel
theorem dX10_found_0 : decode cX10_found 0 = .ok (.aload_n 0, 1) := by decide +kernel
theorem dX10_found_1 : decode cX10_found 1 = .ok (.iconst 0, 1) := by decide +kernel
theorem dX10_found_2 : decode cX10_found 2 = .ok (.putfield 177, 3) := by decide +kernel
theorem dX10_found_5 : decode cX10_found 5 = .ok (.iload_n 1, 1) := by decide +kernel
theorem dX10_found_6 : decode cX10_found 6 = .ok (.iconst 0, 1) := by decide +kernel
theorem dX10_found_7 : decode cX10_found 7 = .ok (.aload_n 0, 1) := by decide +kernel
theorem dX10_found_8 : decode cX10_found 8 = .ok (.getfield 343, 3) := by decide +kernel
theorem dX10_found_11 : decode cX10_found 11 = .ok (.iconst 1, 1) := by decide +kernel
theorem dX10_found_12 : decode cX10_found 12 = .ok (.isub, 1) := by decide +kernel
theorem dX10_found_13 : decode cX10_found 13 = .ok (.invokestatic 180, 3) := by decide +kernel
theorem dX10_found_16 : decode cX10_found 16 = .ok (.ifCond .eq 12, 3) := by decide +kernel
theorem dX10_found_19 : decode cX10_found 19 = .ok (.aload_n 0, 1) := by decide +kernel
theorem dX10_found_20 : decode cX10_found 20 = .ok (.getfield 141, 3) := by decide +kernel
theorem dX10_found_23 : decode cX10_found 23 = .ok (.iload_n 1, 1) := by decide +kernel
theorem dX10_found_24 : decode cX10_found 24 = .ok (.iaload, 1) := by decide +kernel
theorem dX10_found_25 : decode cX10_found 25 = .ok (.goto 8, 3) := by decide +kernel
theorem dX10_found_28 : decode cX10_found 28 = .ok (.aload_n 0, 1) := by decide +kernel
theorem dX10_found_29 : decode cX10_found 29 = .ok (.iconst 1, 1) := by decide +kernel
theorem dX10_found_30 : decode cX10_found 30 = .ok (.invokevirtual 246, 3) := by decide +kernel
theorem dX10_found_33 : decode cX10_found 33 = .ok (.ireturn, 1) := by decide +kernel
theorem dX10_live_0 : decode cX10_live 0 = .ok (.aload_n 0, 1) := by decide +kernel
theorem dX10_live_1 : decode cX10_live 1 = .ok (.iconst 0, 1) := by decide +kernel
theorem dX10_live_2 : decode cX10_live 2 = .ok (.putfield 177, 3) := by decide +kernel
theorem dX10_live_5 : decode cX10_live 5 = .ok (.iload_n 1, 1) := by decide +kernel
theorem dX10_live_6 : decode cX10_live 6 = .ok (.invokestatic 226, 3) := by decide +kernel
theorem dX10_live_9 : decode cX10_live 9 = .ok (.ifCond .ne 9, 3) := by decide +kernel
theorem dX10_live_12 : decode cX10_live 12 = .ok (.aload_n 0, 1) := by decide +kernel
theorem dX10_live_13 : decode cX10_live 13 = .ok (.iconst 1, 1) := by decide +kernel
theorem dX10_live_14 : decode cX10_live 14 = .ok (.invokevirtual 246, 3) := by decide +kernel
theorem dX10_live_17 : decode cX10_live 17 = .ok (.ireturn, 1) := by decide +kernel
theorem dX10_live_18 : decode cX10_live 18 = .ok (.aload_n 0, 1) := by decide +kernel
theorem dX10_live_19 : decode cX10_live 19 = .ok (.iload_n 1, 1) := by decide +kernel
theorem dX10_live_20 : decode cX10_live 20 = .ok (.invokevirtual 229, 3) := by decide +kernel
theorem dX10_live_23 : decode cX10_live 23 = .ok (.iconst 0, 1) := by decide +kernel
theorem dX10_live_24 : decode cX10_live 24 = .ok (.istore_n 2, 1) := by decide +kernel
theorem dX10_live_25 : decode cX10_live 25 = .ok (.iconst 0, 1) := by decide +kernel
theorem dX10_live_26 : decode cX10_live 26 = .ok (.istore_n 3, 1) := by decide +kernel
theorem dX10_live_27 : decode cX10_live 27 = .ok (.iload_n 3, 1) := by decide +kernel
theorem dX10_live_28 : decode cX10_live 28 = .ok (.bipush 48, 2) := by decide +kernel
theorem dX10_live_30 : decode cX10_live 30 = .ok (.if_icmp .ge 25, 3) := by decide +kernel
theorem dX10_live_33 : decode cX10_live 33 = .ok (.iload_n 2, 1) := by decide +kernel
theorem dX10_live_34 : decode cX10_live 34 = .ok (.aload_n 0, 1) := by decide +kernel
theorem dX10_live_35 : decode cX10_live 35 = .ok (.iload_n 3, 1) := by decide +kernel
theorem dX10_live_36 : decode cX10_live 36 = .ok (.invokevirtual 222, 3) := by decide +kernel
theorem dX10_live_39 : decode cX10_live 39 = .ok (.ifCond .eq 7, 3) := by decide +kernel
theorem dX10_live_42 : decode cX10_live 42 = .ok (.iconst 1, 1) := by decide +kernel
theorem dX10_live_43 : decode cX10_live 43 = .ok (.goto 4, 3) := by decide +kernel
theorem dX10_live_46 : decode cX10_live 46 = .ok (.iconst 0, 1) := by decide +kernel
theorem dX10_live_47 : decode cX10_live 47 = .ok (.iadd, 1) := by decide +kernel
theorem dX10_live_48 : decode cX10_live 48 = .ok (.istore_n 2, 1) := by decide +kernel
theorem dX10_live_49 : decode cX10_live 49 = .ok (.iinc 3 1, 3) := by decide +kernel
theorem dX10_live_52 : decode cX10_live 52 = .ok (.goto (-25), 3) := by decide +kernel
theorem dX10_live_55 : decode cX10_live 55 = .ok (.iload_n 2, 1) := by decide +kernel
theorem dX10_live_56 : decode cX10_live 56 = .ok (.ireturn, 1) := by decide +kernel
theorem dX10_parentOf_0 : decode cX10_parentOf 0 = .ok (.aload_n 0, 1) := by decide +kernel
theorem dX10_parentOf_1 : decode cX10_parentOf 1 = .ok (.iconst 0, 1) := by decide +kernel
theorem dX10_parentOf_2 : decode cX10_parentOf 2 = .ok (.putfield 177, 3) := by decide +kernel
theorem dX10_parentOf_5 : decode cX10_parentOf 5 = .ok (.aload_n 0, 1) := by decide +kernel
theorem dX10_parentOf_6 : decode cX10_parentOf 6 = .ok (.iload_n 1, 1) := by decide +kernel
theorem dX10_parentOf_7 : decode cX10_parentOf 7 = .ok (.iload_n 2, 1) := by decide +kernel
theorem dX10_parentOf_8 : decode cX10_parentOf 8 = .ok (.invokevirtual 265, 3) := by decide +kernel
theorem dX10_parentOf_11 : decode cX10_parentOf 11 = .ok (.ifCond .eq 12, 3) := by decide +kernel
theorem dX10_parentOf_14 : decode cX10_parentOf 14 = .ok (.aload_n 0, 1) := by decide +kernel
theorem dX10_parentOf_15 : decode cX10_parentOf 15 = .ok (.getfield 123, 3) := by decide +kernel
theorem dX10_parentOf_18 : decode cX10_parentOf 18 = .ok (.iload_n 2, 1) := by decide +kernel
theorem dX10_parentOf_19 : decode cX10_parentOf 19 = .ok (.iaload, 1) := by decide +kernel
theorem dX10_parentOf_20 : decode cX10_parentOf 20 = .ok (.goto 8, 3) := by decide +kernel
theorem dX10_parentOf_23 : decode cX10_parentOf 23 = .ok (.aload_n 0, 1) := by decide +kernel
theorem dX10_parentOf_24 : decode cX10_parentOf 24 = .ok (.iconst 1, 1) := by decide +kernel
theorem dX10_parentOf_25 : decode cX10_parentOf 25 = .ok (.invokevirtual 246, 3) := by decide +kernel
theorem dX10_parentOf_28 : decode cX10_parentOf 28 = .ok (.ireturn, 1) := by decide +kernel
theorem dX10_parentAnew_0 : decode cX10_parentAnew 0 = .ok (.aload_n 0, 1) := by decide +kernel
theorem dX10_parentAnew_1 : decode cX10_parentAnew 1 = .ok (.iconst 0, 1) := by decide +kernel
theorem dX10_parentAnew_2 : decode cX10_parentAnew 2 = .ok (.putfield 177, 3) := by decide +kernel
theorem dX10_parentAnew_5 : decode cX10_parentAnew 5 = .ok (.aload_n 0, 1) := by decide +kernel
theorem dX10_parentAnew_6 : decode cX10_parentAnew 6 = .ok (.iload_n 1, 1) := by decide +kernel
theorem dX10_parentAnew_7 : decode cX10_parentAnew 7 = .ok (.iload_n 2, 1) := by decide +kernel
theorem dX10_parentAnew_8 : decode cX10_parentAnew 8 = .ok (.invokevirtual 265, 3) := by decide +kernel
theorem dX10_parentAnew_11 : decode cX10_parentAnew 11 = .ok (.ifCond .eq 12, 3) := by decide +kernel
theorem dX10_parentAnew_14 : decode cX10_parentAnew 14 = .ok (.aload_n 0, 1) := by decide +kernel
theorem dX10_parentAnew_15 : decode cX10_parentAnew 15 = .ok (.getfield 123, 3) := by decide +kernel
theorem dX10_parentAnew_18 : decode cX10_parentAnew 18 = .ok (.iload_n 2, 1) := by decide +kernel
theorem dX10_parentAnew_19 : decode cX10_parentAnew 19 = .ok (.iaload, 1) := by decide +kernel
theorem dX10_parentAnew_20 : decode cX10_parentAnew 20 = .ok (.goto 8, 3) := by decide +kernel
theorem dX10_parentAnew_23 : decode cX10_parentAnew 23 = .ok (.aload_n 0, 1) := by decide +kernel
theorem dX10_parentAnew_24 : decode cX10_parentAnew 24 = .ok (.iconst 1, 1) := by decide +kernel
theorem dX10_parentAnew_25 : decode cX10_parentAnew 25 = .ok (.invokevirtual 246, 3) := by decide +kernel
theorem dX10_parentAnew_28 : decode cX10_parentAnew 28 = .ok (.ireturn, 1) := by decide +kernel
theorem dX10_nameOf_0 : decode cX10_nameOf 0 = .ok (.aload_n 0, 1) := by decide +kernel
theorem dX10_nameOf_1 : decode cX10_nameOf 1 = .ok (.iconst 0, 1) := by decide +kernel
theorem dX10_nameOf_2 : decode cX10_nameOf 2 = .ok (.putfield 177, 3) := by decide +kernel
theorem dX10_nameOf_5 : decode cX10_nameOf 5 = .ok (.aload_n 0, 1) := by decide +kernel
theorem dX10_nameOf_6 : decode cX10_nameOf 6 = .ok (.iload_n 1, 1) := by decide +kernel
theorem dX10_nameOf_7 : decode cX10_nameOf 7 = .ok (.iload_n 2, 1) := by decide +kernel
theorem dX10_nameOf_8 : decode cX10_nameOf 8 = .ok (.invokevirtual 265, 3) := by decide +kernel
theorem dX10_nameOf_11 : decode cX10_nameOf 11 = .ok (.ifCond .eq 12, 3) := by decide +kernel
theorem dX10_nameOf_14 : decode cX10_nameOf 14 = .ok (.aload_n 0, 1) := by decide +kernel
theorem dX10_nameOf_15 : decode cX10_nameOf 15 = .ok (.getfield 126, 3) := by decide +kernel
theorem dX10_nameOf_18 : decode cX10_nameOf 18 = .ok (.iload_n 2, 1) := by decide +kernel
theorem dX10_nameOf_19 : decode cX10_nameOf 19 = .ok (.iaload, 1) := by decide +kernel
theorem dX10_nameOf_20 : decode cX10_nameOf 20 = .ok (.goto 8, 3) := by decide +kernel
theorem dX10_nameOf_23 : decode cX10_nameOf 23 = .ok (.aload_n 0, 1) := by decide +kernel
theorem dX10_nameOf_24 : decode cX10_nameOf 24 = .ok (.iconst 1, 1) := by decide +kernel
theorem dX10_nameOf_25 : decode cX10_nameOf 25 = .ok (.invokevirtual 246, 3) := by decide +kernel
theorem dX10_nameOf_28 : decode cX10_nameOf 28 = .ok (.ireturn, 1) := by decide +kernel
theorem dX10_valueAt_0 : decode cX10_valueAt 0 = .ok (.aload_n 0, 1) := by decide +kernel
theorem dX10_valueAt_1 : decode cX10_valueAt 1 = .ok (.iconst 0, 1) := by decide +kernel
theorem dX10_valueAt_2 : decode cX10_valueAt 2 = .ok (.putfield 177, 3) := by decide +kernel
theorem dX10_valueAt_5 : decode cX10_valueAt 5 = .ok (.aload_n 0, 1) := by decide +kernel
theorem dX10_valueAt_6 : decode cX10_valueAt 6 = .ok (.iload_n 1, 1) := by decide +kernel
theorem dX10_valueAt_7 : decode cX10_valueAt 7 = .ok (.iload_n 2, 1) := by decide +kernel
theorem dX10_valueAt_8 : decode cX10_valueAt 8 = .ok (.invokevirtual 265, 3) := by decide +kernel
theorem dX10_valueAt_11 : decode cX10_valueAt 11 = .ok (.ifCond .eq 16, 3) := by decide +kernel
theorem dX10_valueAt_14 : decode cX10_valueAt 14 = .ok (.aload_n 0, 1) := by decide +kernel
theorem dX10_valueAt_15 : decode cX10_valueAt 15 = .ok (.iload_n 3, 1) := by decide +kernel
theorem dX10_valueAt_16 : decode cX10_valueAt 16 = .ok (.invokevirtual 250, 3) := by decide +kernel
theorem dX10_valueAt_19 : decode cX10_valueAt 19 = .ok (.ifCond .eq 8, 3) := by decide +kernel
theorem dX10_valueAt_22 : decode cX10_valueAt 22 = .ok (.iload 4, 2) := by decide +kernel
theorem dX10_valueAt_24 : decode cX10_valueAt 24 = .ok (.ifCond .ge 9, 3) := by decide +kernel
theorem dX10_valueAt_27 : decode cX10_valueAt 27 = .ok (.aload_n 0, 1) := by decide +kernel
theorem dX10_valueAt_28 : decode cX10_valueAt 28 = .ok (.iconst 1, 1) := by decide +kernel
theorem dX10_valueAt_29 : decode cX10_valueAt 29 = .ok (.invokevirtual 246, 3) := by decide +kernel
theorem dX10_valueAt_32 : decode cX10_valueAt 32 = .ok (.ireturn, 1) := by decide +kernel
theorem dX10_valueAt_33 : decode cX10_valueAt 33 = .ok (.iconst (-1), 1) := by decide +kernel
theorem dX10_valueAt_34 : decode cX10_valueAt 34 = .ok (.istore 5, 2) := by decide +kernel
theorem dX10_valueAt_36 : decode cX10_valueAt 36 = .ok (.iconst 0, 1) := by decide +kernel
theorem dX10_valueAt_37 : decode cX10_valueAt 37 = .ok (.istore 6, 2) := by decide +kernel
theorem dX10_valueAt_39 : decode cX10_valueAt 39 = .ok (.iload 6, 2) := by decide +kernel
theorem dX10_valueAt_41 : decode cX10_valueAt 41 = .ok (.iload 4, 2) := by decide +kernel
theorem dX10_valueAt_43 : decode cX10_valueAt 43 = .ok (.if_icmp .gt 117, 3) := by decide +kernel
theorem dX10_valueAt_46 : decode cX10_valueAt 46 = .ok (.iload 6, 2) := by decide +kernel
theorem dX10_valueAt_48 : decode cX10_valueAt 48 = .ok (.aload_n 0, 1) := by decide +kernel
theorem dX10_valueAt_49 : decode cX10_valueAt 49 = .ok (.getfield 190, 3) := by decide +kernel
theorem dX10_valueAt_52 : decode cX10_valueAt 52 = .ok (.if_icmp .gt 108, 3) := by decide +kernel
theorem dX10_valueAt_55 : decode cX10_valueAt 55 = .ok (.sipush 1000, 3) := by decide +kernel
theorem dX10_valueAt_58 : decode cX10_valueAt 58 = .ok (.istore 7, 2) := by decide +kernel
theorem dX10_valueAt_60 : decode cX10_valueAt 60 = .ok (.iconst 0, 1) := by decide +kernel
theorem dX10_valueAt_61 : decode cX10_valueAt 61 = .ok (.istore 8, 2) := by decide +kernel
theorem dX10_valueAt_63 : decode cX10_valueAt 63 = .ok (.iload 8, 2) := by decide +kernel
theorem dX10_valueAt_65 : decode cX10_valueAt 65 = .ok (.aload_n 0, 1) := by decide +kernel
theorem dX10_valueAt_66 : decode cX10_valueAt 66 = .ok (.getfield 190, 3) := by decide +kernel
theorem dX10_valueAt_69 : decode cX10_valueAt 69 = .ok (.if_icmp .ge 81, 3) := by decide +kernel
theorem dX10_valueAt_72 : decode cX10_valueAt 72 = .ok (.aload_n 0, 1) := by decide +kernel
theorem dX10_valueAt_73 : decode cX10_valueAt 73 = .ok (.getfield 129, 3) := by decide +kernel
theorem dX10_valueAt_76 : decode cX10_valueAt 76 = .ok (.iload 8, 2) := by decide +kernel
theorem dX10_valueAt_78 : decode cX10_valueAt 78 = .ok (.iaload, 1) := by decide +kernel
theorem dX10_valueAt_79 : decode cX10_valueAt 79 = .ok (.iload_n 2, 1) := by decide +kernel
theorem dX10_valueAt_80 : decode cX10_valueAt 80 = .ok (.if_icmp .ne 42, 3) := by decide +kernel
theorem dX10_valueAt_83 : decode cX10_valueAt 83 = .ok (.aload_n 0, 1) := by decide +kernel
theorem dX10_valueAt_84 : decode cX10_valueAt 84 = .ok (.getfield 132, 3) := by decide +kernel
theorem dX10_valueAt_87 : decode cX10_valueAt 87 = .ok (.iload 8, 2) := by decide +kernel
theorem dX10_valueAt_89 : decode cX10_valueAt 89 = .ok (.iaload, 1) := by decide +kernel
theorem dX10_valueAt_90 : decode cX10_valueAt 90 = .ok (.iload_n 3, 1) := by decide +kernel
theorem dX10_valueAt_91 : decode cX10_valueAt 91 = .ok (.if_icmp .ne 31, 3) := by decide +kernel
theorem dX10_valueAt_94 : decode cX10_valueAt 94 = .ok (.aload_n 0, 1) := by decide +kernel
theorem dX10_valueAt_95 : decode cX10_valueAt 95 = .ok (.getfield 135, 3) := by decide +kernel
theorem dX10_valueAt_98 : decode cX10_valueAt 98 = .ok (.iload 8, 2) := by decide +kernel
theorem dX10_valueAt_100 : decode cX10_valueAt 100 = .ok (.iaload, 1) := by decide +kernel
theorem dX10_valueAt_101 : decode cX10_valueAt 101 = .ok (.iload 5, 2) := by decide +kernel
theorem dX10_valueAt_103 : decode cX10_valueAt 103 = .ok (.if_icmp .le 19, 3) := by decide +kernel
theorem dX10_valueAt_106 : decode cX10_valueAt 106 = .ok (.aload_n 0, 1) := by decide +kernel
theorem dX10_valueAt_107 : decode cX10_valueAt 107 = .ok (.getfield 135, 3) := by decide +kernel
theorem dX10_valueAt_110 : decode cX10_valueAt 110 = .ok (.iload 8, 2) := by decide +kernel
theorem dX10_valueAt_112 : decode cX10_valueAt 112 = .ok (.iaload, 1) := by decide +kernel
theorem dX10_valueAt_113 : decode cX10_valueAt 113 = .ok (.iload 7, 2) := by decide +kernel
theorem dX10_valueAt_115 : decode cX10_valueAt 115 = .ok (.if_icmp .ge 7, 3) := by decide +kernel
theorem dX10_valueAt_118 : decode cX10_valueAt 118 = .ok (.iconst 1, 1) := by decide +kernel
theorem dX10_valueAt_119 : decode cX10_valueAt 119 = .ok (.goto 4, 3) := by decide +kernel
theorem dX10_valueAt_122 : decode cX10_valueAt 122 = .ok (.iconst 0, 1) := by decide +kernel
theorem dX10_valueAt_123 : decode cX10_valueAt 123 = .ok (.istore 9, 2) := by decide +kernel
theorem dX10_valueAt_125 : decode cX10_valueAt 125 = .ok (.iload 9, 2) := by decide +kernel
theorem dX10_valueAt_127 : decode cX10_valueAt 127 = .ok (.ifCond .eq 13, 3) := by decide +kernel
theorem dX10_valueAt_130 : decode cX10_valueAt 130 = .ok (.aload_n 0, 1) := by decide +kernel
theorem dX10_valueAt_131 : decode cX10_valueAt 131 = .ok (.getfield 135, 3) := by decide +kernel
theorem dX10_valueAt_134 : decode cX10_valueAt 134 = .ok (.iload 8, 2) := by decide +kernel
theorem dX10_valueAt_136 : decode cX10_valueAt 136 = .ok (.iaload, 1) := by decide +kernel
theorem dX10_valueAt_137 : decode cX10_valueAt 137 = .ok (.goto 5, 3) := by decide +kernel
theorem dX10_valueAt_140 : decode cX10_valueAt 140 = .ok (.iload 7, 2) := by decide +kernel
theorem dX10_valueAt_142 : decode cX10_valueAt 142 = .ok (.istore 7, 2) := by decide +kernel
theorem dX10_valueAt_144 : decode cX10_valueAt 144 = .ok (.iinc 8 1, 3) := by decide +kernel
theorem dX10_valueAt_147 : decode cX10_valueAt 147 = .ok (.goto (-84), 3) := by decide +kernel
theorem dX10_valueAt_150 : decode cX10_valueAt 150 = .ok (.iload 7, 2) := by decide +kernel
theorem dX10_valueAt_152 : decode cX10_valueAt 152 = .ok (.istore 5, 2) := by decide +kernel
theorem dX10_valueAt_154 : decode cX10_valueAt 154 = .ok (.iinc 6 1, 3) := by decide +kernel
theorem dX10_valueAt_157 : decode cX10_valueAt 157 = .ok (.goto (-118), 3) := by decide +kernel
theorem dX10_valueAt_160 : decode cX10_valueAt 160 = .ok (.iload 5, 2) := by decide +kernel
theorem dX10_valueAt_162 : decode cX10_valueAt 162 = .ok (.sipush 1000, 3) := by decide +kernel
theorem dX10_valueAt_165 : decode cX10_valueAt 165 = .ok (.if_icmp .ne 7, 3) := by decide +kernel
theorem dX10_valueAt_168 : decode cX10_valueAt 168 = .ok (.iconst (-1), 1) := by decide +kernel
theorem dX10_valueAt_169 : decode cX10_valueAt 169 = .ok (.goto 5, 3) := by decide +kernel
theorem dX10_valueAt_172 : decode cX10_valueAt 172 = .ok (.iload 5, 2) := by decide +kernel
theorem dX10_valueAt_174 : decode cX10_valueAt 174 = .ok (.ireturn, 1) := by decide +kernel
theorem dX10_valuesAnew_0 : decode cX10_valuesAnew 0 = .ok (.aload_n 0, 1) := by decide +kernel
theorem dX10_valuesAnew_1 : decode cX10_valuesAnew 1 = .ok (.iconst 0, 1) := by decide +kernel
theorem dX10_valuesAnew_2 : decode cX10_valuesAnew 2 = .ok (.putfield 177, 3) := by decide +kernel
theorem dX10_valuesAnew_5 : decode cX10_valuesAnew 5 = .ok (.aload_n 0, 1) := by decide +kernel
theorem dX10_valuesAnew_6 : decode cX10_valuesAnew 6 = .ok (.iload_n 1, 1) := by decide +kernel
theorem dX10_valuesAnew_7 : decode cX10_valuesAnew 7 = .ok (.iload_n 2, 1) := by decide +kernel
theorem dX10_valuesAnew_8 : decode cX10_valuesAnew 8 = .ok (.invokevirtual 265, 3) := by decide +kernel
theorem dX10_valuesAnew_11 : decode cX10_valuesAnew 11 = .ok (.ifCond .eq 20, 3) := by decide +kernel
theorem dX10_valuesAnew_14 : decode cX10_valuesAnew 14 = .ok (.aload_n 0, 1) := by decide +kernel
theorem dX10_valuesAnew_15 : decode cX10_valuesAnew 15 = .ok (.iload_n 3, 1) := by decide +kernel
theorem dX10_valuesAnew_16 : decode cX10_valuesAnew 16 = .ok (.invokevirtual 250, 3) := by decide +kernel
theorem dX10_valuesAnew_19 : decode cX10_valuesAnew 19 = .ok (.ifCond .eq 12, 3) := by decide +kernel
theorem dX10_valuesAnew_22 : decode cX10_valuesAnew 22 = .ok (.aload_n 0, 1) := by decide +kernel
theorem dX10_valuesAnew_23 : decode cX10_valuesAnew 23 = .ok (.iload_n 2, 1) := by decide +kernel
theorem dX10_valuesAnew_24 : decode cX10_valuesAnew 24 = .ok (.iload_n 3, 1) := by decide +kernel
theorem dX10_valuesAnew_25 : decode cX10_valuesAnew 25 = .ok (.invokevirtual 291, 3) := by decide +kernel
theorem dX10_valuesAnew_28 : decode cX10_valuesAnew 28 = .ok (.goto 8, 3) := by decide +kernel
theorem dX10_valuesAnew_31 : decode cX10_valuesAnew 31 = .ok (.aload_n 0, 1) := by decide +kernel
theorem dX10_valuesAnew_32 : decode cX10_valuesAnew 32 = .ok (.iconst 1, 1) := by decide +kernel
theorem dX10_valuesAnew_33 : decode cX10_valuesAnew 33 = .ok (.invokevirtual 246, 3) := by decide +kernel
theorem dX10_valuesAnew_36 : decode cX10_valuesAnew 36 = .ok (.ireturn, 1) := by decide +kernel
theorem dX10_linkOf_0 : decode cX10_linkOf 0 = .ok (.aload_n 0, 1) := by decide +kernel
theorem dX10_linkOf_1 : decode cX10_linkOf 1 = .ok (.iconst 0, 1) := by decide +kernel
theorem dX10_linkOf_2 : decode cX10_linkOf 2 = .ok (.putfield 177, 3) := by decide +kernel
theorem dX10_linkOf_5 : decode cX10_linkOf 5 = .ok (.aload_n 0, 1) := by decide +kernel
theorem dX10_linkOf_6 : decode cX10_linkOf 6 = .ok (.iload_n 1, 1) := by decide +kernel
theorem dX10_linkOf_7 : decode cX10_linkOf 7 = .ok (.iload_n 2, 1) := by decide +kernel
theorem dX10_linkOf_8 : decode cX10_linkOf 8 = .ok (.invokevirtual 265, 3) := by decide +kernel
theorem dX10_linkOf_11 : decode cX10_linkOf 11 = .ok (.ifCond .eq 12, 3) := by decide +kernel
theorem dX10_linkOf_14 : decode cX10_linkOf 14 = .ok (.aload_n 0, 1) := by decide +kernel
theorem dX10_linkOf_15 : decode cX10_linkOf 15 = .ok (.getfield 117, 3) := by decide +kernel
theorem dX10_linkOf_18 : decode cX10_linkOf 18 = .ok (.iload_n 2, 1) := by decide +kernel
theorem dX10_linkOf_19 : decode cX10_linkOf 19 = .ok (.iaload, 1) := by decide +kernel
theorem dX10_linkOf_20 : decode cX10_linkOf 20 = .ok (.goto 8, 3) := by decide +kernel
theorem dX10_linkOf_23 : decode cX10_linkOf 23 = .ok (.aload_n 0, 1) := by decide +kernel
theorem dX10_linkOf_24 : decode cX10_linkOf 24 = .ok (.iconst 1, 1) := by decide +kernel
theorem dX10_linkOf_25 : decode cX10_linkOf 25 = .ok (.invokevirtual 246, 3) := by decide +kernel
theorem dX10_linkOf_28 : decode cX10_linkOf 28 = .ok (.ireturn, 1) := by decide +kernel
theorem dX10_may_0 : decode cX10_may 0 = .ok (.aload_n 0, 1) := by decide +kernel
theorem dX10_may_1 : decode cX10_may 1 = .ok (.aload_n 0, 1) := by decide +kernel
theorem dX10_may_2 : decode cX10_may 2 = .ok (.iload_n 1, 1) := by decide +kernel
theorem dX10_may_3 : decode cX10_may 3 = .ok (.iload_n 3, 1) := by decide +kernel
theorem dX10_may_4 : decode cX10_may 4 = .ok (.invokevirtual 265, 3) := by decide +kernel
theorem dX10_may_7 : decode cX10_may 7 = .ok (.ifCond .eq 26, 3) := by decide +kernel
theorem dX10_may_10 : decode cX10_may 10 = .ok (.iload_n 2, 1) := by decide +kernel
theorem dX10_may_11 : decode cX10_may 11 = .ok (.iconst 0, 1) := by decide +kernel
theorem dX10_may_12 : decode cX10_may 12 = .ok (.iconst 5, 1) := by decide +kernel
theorem dX10_may_13 : decode cX10_may 13 = .ok (.invokestatic 180, 3) := by decide +kernel
theorem dX10_may_16 : decode cX10_may 16 = .ok (.ifCond .eq 17, 3) := by decide +kernel
theorem dX10_may_19 : decode cX10_may 19 = .ok (.iload 4, 2) := by decide +kernel
theorem dX10_may_21 : decode cX10_may 21 = .ok (.iconst 0, 1) := by decide +kernel
theorem dX10_may_22 : decode cX10_may 22 = .ok (.iconst 1, 1) := by decide +kernel
theorem dX10_may_23 : decode cX10_may 23 = .ok (.invokestatic 180, 3) := by decide +kernel
theorem dX10_may_26 : decode cX10_may 26 = .ok (.ifCond .eq 7, 3) := by decide +kernel
theorem dX10_may_29 : decode cX10_may 29 = .ok (.iconst 0, 1) := by decide +kernel
theorem dX10_may_30 : decode cX10_may 30 = .ok (.goto 4, 3) := by decide +kernel
theorem dX10_may_33 : decode cX10_may 33 = .ok (.iconst 1, 1) := by decide +kernel
theorem dX10_may_34 : decode cX10_may 34 = .ok (.putfield 177, 3) := by decide +kernel
theorem dX10_may_37 : decode cX10_may 37 = .ok (.aload_n 0, 1) := by decide +kernel
theorem dX10_may_38 : decode cX10_may 38 = .ok (.getfield 177, 3) := by decide +kernel
theorem dX10_may_41 : decode cX10_may 41 = .ok (.ifCond .ne 18, 3) := by decide +kernel
theorem dX10_may_44 : decode cX10_may 44 = .ok (.aload_n 0, 1) := by decide +kernel
theorem dX10_may_45 : decode cX10_may 45 = .ok (.iload_n 2, 1) := by decide +kernel
theorem dX10_may_46 : decode cX10_may 46 = .ok (.iload_n 3, 1) := by decide +kernel
theorem dX10_may_47 : decode cX10_may 47 = .ok (.iload 4, 2) := by decide +kernel
theorem dX10_may_49 : decode cX10_may 49 = .ok (.invokevirtual 243, 3) := by decide +kernel
theorem dX10_may_52 : decode cX10_may 52 = .ok (.ifCond .eq 7, 3) := by decide +kernel
theorem dX10_may_55 : decode cX10_may 55 = .ok (.iconst 1, 1) := by decide +kernel
theorem dX10_may_56 : decode cX10_may 56 = .ok (.goto 4, 3) := by decide +kernel
theorem dX10_may_59 : decode cX10_may 59 = .ok (.iconst 0, 1) := by decide +kernel
theorem dX10_may_60 : decode cX10_may 60 = .ok (.ireturn, 1) := by decide +kernel
theorem dX10_childAt_0 : decode cX10_childAt 0 = .ok (.aload_n 0, 1) := by decide +kernel
theorem dX10_childAt_1 : decode cX10_childAt 1 = .ok (.iconst 0, 1) := by decide +kernel
theorem dX10_childAt_2 : decode cX10_childAt 2 = .ok (.putfield 177, 3) := by decide +kernel
theorem dX10_childAt_5 : decode cX10_childAt 5 = .ok (.iload_n 1, 1) := by decide +kernel
theorem dX10_childAt_6 : decode cX10_childAt 6 = .ok (.invokestatic 226, 3) := by decide +kernel
theorem dX10_childAt_9 : decode cX10_childAt 9 = .ok (.ifCond .eq 22, 3) := by decide +kernel
theorem dX10_childAt_12 : decode cX10_childAt 12 = .ok (.iload_n 2, 1) := by decide +kernel
theorem dX10_childAt_13 : decode cX10_childAt 13 = .ok (.bipush (-2), 2) := by decide +kernel
theorem dX10_childAt_15 : decode cX10_childAt 15 = .ok (.if_icmp .eq 12, 3) := by decide +kernel
theorem dX10_childAt_18 : decode cX10_childAt 18 = .ok (.aload_n 0, 1) := by decide +kernel
theorem dX10_childAt_19 : decode cX10_childAt 19 = .ok (.iload_n 1, 1) := by decide +kernel
theorem dX10_childAt_20 : decode cX10_childAt 20 = .ok (.iload_n 2, 1) := by decide +kernel
theorem dX10_childAt_21 : decode cX10_childAt 21 = .ok (.invokevirtual 265, 3) := by decide +kernel
theorem dX10_childAt_24 : decode cX10_childAt 24 = .ok (.ifCond .eq 7, 3) := by decide +kernel
theorem dX10_childAt_27 : decode cX10_childAt 27 = .ok (.iload_n 3, 1) := by decide +kernel
theorem dX10_childAt_28 : decode cX10_childAt 28 = .ok (.ifCond .ge 9, 3) := by decide +kernel
theorem dX10_childAt_31 : decode cX10_childAt 31 = .ok (.aload_n 0, 1) := by decide +kernel
theorem dX10_childAt_32 : decode cX10_childAt 32 = .ok (.iconst 1, 1) := by decide +kernel
theorem dX10_childAt_33 : decode cX10_childAt 33 = .ok (.invokevirtual 246, 3) := by decide +kernel
theorem dX10_childAt_36 : decode cX10_childAt 36 = .ok (.ireturn, 1) := by decide +kernel
theorem dX10_childAt_37 : decode cX10_childAt 37 = .ok (.aload_n 0, 1) := by decide +kernel
theorem dX10_childAt_38 : decode cX10_childAt 38 = .ok (.iload_n 1, 1) := by decide +kernel
theorem dX10_childAt_39 : decode cX10_childAt 39 = .ok (.invokevirtual 229, 3) := by decide +kernel
theorem dX10_childAt_42 : decode cX10_childAt 42 = .ok (.iconst (-1), 1) := by decide +kernel
theorem dX10_childAt_43 : decode cX10_childAt 43 = .ok (.istore 4, 2) := by decide +kernel
theorem dX10_childAt_45 : decode cX10_childAt 45 = .ok (.iconst (-1), 1) := by decide +kernel
theorem dX10_childAt_46 : decode cX10_childAt 46 = .ok (.istore 5, 2) := by decide +kernel
theorem dX10_childAt_48 : decode cX10_childAt 48 = .ok (.iconst 0, 1) := by decide +kernel
theorem dX10_childAt_49 : decode cX10_childAt 49 = .ok (.istore 6, 2) := by decide +kernel
theorem dX10_childAt_51 : decode cX10_childAt 51 = .ok (.iload 6, 2) := by decide +kernel
theorem dX10_childAt_53 : decode cX10_childAt 53 = .ok (.iload_n 3, 1) := by decide +kernel
theorem dX10_childAt_54 : decode cX10_childAt 54 = .ok (.if_icmp .gt 136, 3) := by decide +kernel
theorem dX10_childAt_57 : decode cX10_childAt 57 = .ok (.iload 6, 2) := by decide +kernel
theorem dX10_childAt_59 : decode cX10_childAt 59 = .ok (.bipush 48, 2) := by decide +kernel
theorem dX10_childAt_61 : decode cX10_childAt 61 = .ok (.if_icmp .gt 129, 3) := by decide +kernel
theorem dX10_childAt_64 : decode cX10_childAt 64 = .ok (.iconst (-1), 1) := by decide +kernel
theorem dX10_childAt_65 : decode cX10_childAt 65 = .ok (.istore 7, 2) := by decide +kernel
theorem dX10_childAt_67 : decode cX10_childAt 67 = .ok (.iconst 1, 1) := by decide +kernel
theorem dX10_childAt_68 : decode cX10_childAt 68 = .ok (.istore 8, 2) := by decide +kernel
theorem dX10_childAt_70 : decode cX10_childAt 70 = .ok (.iload 8, 2) := by decide +kernel
theorem dX10_childAt_72 : decode cX10_childAt 72 = .ok (.bipush 48, 2) := by decide +kernel
theorem dX10_childAt_74 : decode cX10_childAt 74 = .ok (.if_icmp .ge 85, 3) := by decide +kernel
theorem dX10_childAt_77 : decode cX10_childAt 77 = .ok (.aload_n 0, 1) := by decide +kernel
theorem dX10_childAt_78 : decode cX10_childAt 78 = .ok (.iload 8, 2) := by decide +kernel
theorem dX10_childAt_80 : decode cX10_childAt 80 = .ok (.invokevirtual 222, 3) := by decide +kernel
theorem dX10_childAt_83 : decode cX10_childAt 83 = .ok (.ifCond .eq 30, 3) := by decide +kernel
theorem dX10_childAt_86 : decode cX10_childAt 86 = .ok (.aload_n 0, 1) := by decide +kernel
theorem dX10_childAt_87 : decode cX10_childAt 87 = .ok (.getfield 123, 3) := by decide +kernel
theorem dX10_childAt_90 : decode cX10_childAt 90 = .ok (.iload 8, 2) := by decide +kernel
theorem dX10_childAt_92 : decode cX10_childAt 92 = .ok (.iaload, 1) := by decide +kernel
theorem dX10_childAt_93 : decode cX10_childAt 93 = .ok (.iload_n 2, 1) := by decide +kernel
theorem dX10_childAt_94 : decode cX10_childAt 94 = .ok (.if_icmp .ne 19, 3) := by decide +kernel
theorem dX10_childAt_97 : decode cX10_childAt 97 = .ok (.aload_n 0, 1) := by decide +kernel
theorem dX10_childAt_98 : decode cX10_childAt 98 = .ok (.getfield 126, 3) := by decide +kernel
theorem dX10_childAt_101 : decode cX10_childAt 101 = .ok (.iload 8, 2) := by decide +kernel
theorem dX10_childAt_103 : decode cX10_childAt 103 = .ok (.iaload, 1) := by decide +kernel
theorem dX10_childAt_104 : decode cX10_childAt 104 = .ok (.iload 5, 2) := by decide +kernel
theorem dX10_childAt_106 : decode cX10_childAt 106 = .ok (.if_icmp .le 7, 3) := by decide +kernel
theorem dX10_childAt_109 : decode cX10_childAt 109 = .ok (.iconst 1, 1) := by decide +kernel
theorem dX10_childAt_110 : decode cX10_childAt 110 = .ok (.goto 4, 3) := by decide +kernel
theorem dX10_childAt_113 : decode cX10_childAt 113 = .ok (.iconst 0, 1) := by decide +kernel
theorem dX10_childAt_114 : decode cX10_childAt 114 = .ok (.istore 9, 2) := by decide +kernel
theorem dX10_childAt_116 : decode cX10_childAt 116 = .ok (.iload 9, 2) := by decide +kernel
theorem dX10_childAt_118 : decode cX10_childAt 118 = .ok (.ifCond .eq 31, 3) := by decide +kernel
theorem dX10_childAt_121 : decode cX10_childAt 121 = .ok (.iload 7, 2) := by decide +kernel
theorem dX10_childAt_123 : decode cX10_childAt 123 = .ok (.iconst (-1), 1) := by decide +kernel
theorem dX10_childAt_124 : decode cX10_childAt 124 = .ok (.if_icmp .eq 20, 3) := by decide +kernel
theorem dX10_childAt_127 : decode cX10_childAt 127 = .ok (.aload_n 0, 1) := by decide +kernel
theorem dX10_childAt_128 : decode cX10_childAt 128 = .ok (.getfield 126, 3) := by decide +kernel
theorem dX10_childAt_131 : decode cX10_childAt 131 = .ok (.iload 8, 2) := by decide +kernel
theorem dX10_childAt_133 : decode cX10_childAt 133 = .ok (.iaload, 1) := by decide +kernel
theorem dX10_childAt_134 : decode cX10_childAt 134 = .ok (.aload_n 0, 1) := by decide +kernel
theorem dX10_childAt_135 : decode cX10_childAt 135 = .ok (.getfield 126, 3) := by decide +kernel
theorem dX10_childAt_138 : decode cX10_childAt 138 = .ok (.iload 7, 2) := by decide +kernel
theorem dX10_childAt_140 : decode cX10_childAt 140 = .ok (.iaload, 1) := by decide +kernel
theorem dX10_childAt_141 : decode cX10_childAt 141 = .ok (.if_icmp .ge 8, 3) := by decide +kernel
theorem dX10_childAt_144 : decode cX10_childAt 144 = .ok (.iload 8, 2) := by decide +kernel
theorem dX10_childAt_146 : decode cX10_childAt 146 = .ok (.goto 5, 3) := by decide +kernel
theorem dX10_childAt_149 : decode cX10_childAt 149 = .ok (.iload 7, 2) := by decide +kernel
theorem dX10_childAt_151 : decode cX10_childAt 151 = .ok (.istore 7, 2) := by decide +kernel
theorem dX10_childAt_153 : decode cX10_childAt 153 = .ok (.iinc 8 1, 3) := by decide +kernel
theorem dX10_childAt_156 : decode cX10_childAt 156 = .ok (.goto (-86), 3) := by decide +kernel
theorem dX10_childAt_159 : decode cX10_childAt 159 = .ok (.iload 7, 2) := by decide +kernel
theorem dX10_childAt_161 : decode cX10_childAt 161 = .ok (.istore 4, 2) := by decide +kernel
theorem dX10_childAt_163 : decode cX10_childAt 163 = .ok (.iload 7, 2) := by decide +kernel
theorem dX10_childAt_165 : decode cX10_childAt 165 = .ok (.iconst (-1), 1) := by decide +kernel
theorem dX10_childAt_166 : decode cX10_childAt 166 = .ok (.if_icmp .ne 9, 3) := by decide +kernel
theorem dX10_childAt_169 : decode cX10_childAt 169 = .ok (.sipush 1000, 3) := by decide +kernel
theorem dX10_childAt_172 : decode cX10_childAt 172 = .ok (.goto 10, 3) := by decide +kernel
theorem dX10_childAt_175 : decode cX10_childAt 175 = .ok (.aload_n 0, 1) := by decide +kernel
theorem dX10_childAt_176 : decode cX10_childAt 176 = .ok (.getfield 126, 3) := by decide +kernel
theorem dX10_childAt_179 : decode cX10_childAt 179 = .ok (.iload 7, 2) := by decide +kernel
theorem dX10_childAt_181 : decode cX10_childAt 181 = .ok (.iaload, 1) := by decide +kernel
theorem dX10_childAt_182 : decode cX10_childAt 182 = .ok (.istore 5, 2) := by decide +kernel
theorem dX10_childAt_184 : decode cX10_childAt 184 = .ok (.iinc 6 1, 3) := by decide +kernel
theorem dX10_childAt_187 : decode cX10_childAt 187 = .ok (.goto (-136), 3) := by decide +kernel
theorem dX10_childAt_190 : decode cX10_childAt 190 = .ok (.iload 4, 2) := by decide +kernel
theorem dX10_childAt_192 : decode cX10_childAt 192 = .ok (.ireturn, 1) := by decide +kernel
theorem dX10_isIncomplete_0 : decode cX10_isIncomplete 0 = .ok (.iconst 0, 1) := by decide +kernel
theorem dX10_isIncomplete_1 : decode cX10_isIncomplete 1 = .ok (.istore_n 2, 1) := by decide +kernel
theorem dX10_isIncomplete_2 : decode cX10_isIncomplete 2 = .ok (.iconst 0, 1) := by decide +kernel
theorem dX10_isIncomplete_3 : decode cX10_isIncomplete 3 = .ok (.istore_n 3, 1) := by decide +kernel
theorem dX10_isIncomplete_4 : decode cX10_isIncomplete 4 = .ok (.iload_n 3, 1) := by decide +kernel
theorem dX10_isIncomplete_5 : decode cX10_isIncomplete 5 = .ok (.aload_n 0, 1) := by decide +kernel
theorem dX10_isIncomplete_6 : decode cX10_isIncomplete 6 = .ok (.getfield 184, 3) := by decide +kernel
theorem dX10_isIncomplete_9 : decode cX10_isIncomplete 9 = .ok (.if_icmp .ge 46, 3) := by decide +kernel
theorem dX10_isIncomplete_12 : decode cX10_isIncomplete 12 = .ok (.iload_n 2, 1) := by decide +kernel
theorem dX10_isIncomplete_13 : decode cX10_isIncomplete 13 = .ok (.ifCond .ne 30, 3) := by decide +kernel
theorem dX10_isIncomplete_16 : decode cX10_isIncomplete 16 = .ok (.aload_n 0, 1) := by decide +kernel
theorem dX10_isIncomplete_17 : decode cX10_isIncomplete 17 = .ok (.aload_n 0, 1) := by decide +kernel
theorem dX10_isIncomplete_18 : decode cX10_isIncomplete 18 = .ok (.getfield 108, 3) := by decide +kernel
theorem dX10_isIncomplete_21 : decode cX10_isIncomplete 21 = .ok (.iload_n 1, 1) := by decide +kernel
theorem dX10_isIncomplete_22 : decode cX10_isIncomplete 22 = .ok (.iaload, 1) := by decide +kernel
theorem dX10_isIncomplete_23 : decode cX10_isIncomplete 23 = .ok (.invokevirtual 262, 3) := by decide +kernel
theorem dX10_isIncomplete_26 : decode cX10_isIncomplete 26 = .ok (.iload_n 3, 1) := by decide +kernel
theorem dX10_isIncomplete_27 : decode cX10_isIncomplete 27 = .ok (.ishr, 1) := by decide +kernel
theorem dX10_isIncomplete_28 : decode cX10_isIncomplete 28 = .ok (.iconst 1, 1) := by decide +kernel
theorem dX10_isIncomplete_29 : decode cX10_isIncomplete 29 = .ok (.iand, 1) := by decide +kernel
theorem dX10_isIncomplete_30 : decode cX10_isIncomplete 30 = .ok (.iconst 1, 1) := by decide +kernel
theorem dX10_isIncomplete_31 : decode cX10_isIncomplete 31 = .ok (.if_icmp .ne 16, 3) := by decide +kernel
theorem dX10_isIncomplete_34 : decode cX10_isIncomplete 34 = .ok (.aload_n 0, 1) := by decide +kernel
theorem dX10_isIncomplete_35 : decode cX10_isIncomplete 35 = .ok (.iload_n 1, 1) := by decide +kernel
theorem dX10_isIncomplete_36 : decode cX10_isIncomplete 36 = .ok (.iload_n 3, 1) := by decide +kernel
theorem dX10_isIncomplete_37 : decode cX10_isIncomplete 37 = .ok (.invokevirtual 291, 3) := by decide +kernel
theorem dX10_isIncomplete_40 : decode cX10_isIncomplete 40 = .ok (.ifCond .ne 7, 3) := by decide +kernel
theorem dX10_isIncomplete_43 : decode cX10_isIncomplete 43 = .ok (.iconst 1, 1) := by decide +kernel
theorem dX10_isIncomplete_44 : decode cX10_isIncomplete 44 = .ok (.goto 4, 3) := by decide +kernel
theorem dX10_isIncomplete_47 : decode cX10_isIncomplete 47 = .ok (.iconst 0, 1) := by decide +kernel
theorem dX10_isIncomplete_48 : decode cX10_isIncomplete 48 = .ok (.istore_n 2, 1) := by decide +kernel
theorem dX10_isIncomplete_49 : decode cX10_isIncomplete 49 = .ok (.iinc 3 1, 3) := by decide +kernel
theorem dX10_isIncomplete_52 : decode cX10_isIncomplete 52 = .ok (.goto (-48), 3) := by decide +kernel
theorem dX10_isIncomplete_55 : decode cX10_isIncomplete 55 = .ok (.iload_n 2, 1) := by decide +kernel
theorem dX10_isIncomplete_56 : decode cX10_isIncomplete 56 = .ok (.ireturn, 1) := by decide +kernel
theorem dX10_conflicts_0 : decode cX10_conflicts 0 = .ok (.aload_n 0, 1) := by decide +kernel
theorem dX10_conflicts_1 : decode cX10_conflicts 1 = .ok (.iconst 0, 1) := by decide +kernel
theorem dX10_conflicts_2 : decode cX10_conflicts 2 = .ok (.putfield 177, 3) := by decide +kernel
theorem dX10_conflicts_5 : decode cX10_conflicts 5 = .ok (.iload_n 1, 1) := by decide +kernel
theorem dX10_conflicts_6 : decode cX10_conflicts 6 = .ok (.invokestatic 226, 3) := by decide +kernel
theorem dX10_conflicts_9 : decode cX10_conflicts 9 = .ok (.ifCond .eq 12, 3) := by decide +kernel
theorem dX10_conflicts_12 : decode cX10_conflicts 12 = .ok (.iload_n 2, 1) := by decide +kernel
theorem dX10_conflicts_13 : decode cX10_conflicts 13 = .ok (.iconst 0, 1) := by decide +kernel
theorem dX10_conflicts_14 : decode cX10_conflicts 14 = .ok (.iconst 2, 1) := by decide +kernel
theorem dX10_conflicts_15 : decode cX10_conflicts 15 = .ok (.invokestatic 180, 3) := by decide +kernel
theorem dX10_conflicts_18 : decode cX10_conflicts 18 = .ok (.ifCond .ne 9, 3) := by decide +kernel
theorem dX10_conflicts_21 : decode cX10_conflicts 21 = .ok (.aload_n 0, 1) := by decide +kernel
theorem dX10_conflicts_22 : decode cX10_conflicts 22 = .ok (.iconst 1, 1) := by decide +kernel
theorem dX10_conflicts_23 : decode cX10_conflicts 23 = .ok (.invokevirtual 246, 3) := by decide +kernel
theorem dX10_conflicts_26 : decode cX10_conflicts 26 = .ok (.ireturn, 1) := by decide +kernel
theorem dX10_conflicts_27 : decode cX10_conflicts 27 = .ok (.aload_n 0, 1) := by decide +kernel
theorem dX10_conflicts_28 : decode cX10_conflicts 28 = .ok (.iload_n 1, 1) := by decide +kernel
theorem dX10_conflicts_29 : decode cX10_conflicts 29 = .ok (.invokevirtual 229, 3) := by decide +kernel
theorem dX10_conflicts_32 : decode cX10_conflicts 32 = .ok (.iconst 0, 1) := by decide +kernel
theorem dX10_conflicts_33 : decode cX10_conflicts 33 = .ok (.istore_n 3, 1) := by decide +kernel
theorem dX10_conflicts_34 : decode cX10_conflicts 34 = .ok (.iconst 1, 1) := by decide +kernel
theorem dX10_conflicts_35 : decode cX10_conflicts 35 = .ok (.istore 4, 2) := by decide +kernel
theorem dX10_conflicts_37 : decode cX10_conflicts 37 = .ok (.iload 4, 2) := by decide +kernel
theorem dX10_conflicts_39 : decode cX10_conflicts 39 = .ok (.bipush 48, 2) := by decide +kernel
theorem dX10_conflicts_41 : decode cX10_conflicts 41 = .ok (.if_icmp .ge 88, 3) := by decide +kernel
theorem dX10_conflicts_44 : decode cX10_conflicts 44 = .ok (.iload_n 2, 1) := by decide +kernel
theorem dX10_conflicts_45 : decode cX10_conflicts 45 = .ok (.ifCond .ne 23, 3) := by decide +kernel
theorem dX10_conflicts_48 : decode cX10_conflicts 48 = .ok (.aload_n 0, 1) := by decide +kernel
theorem dX10_conflicts_49 : decode cX10_conflicts 49 = .ok (.getfield 126, 3) := by decide +kernel
theorem dX10_conflicts_52 : decode cX10_conflicts 52 = .ok (.iload 4, 2) := by decide +kernel
theorem dX10_conflicts_54 : decode cX10_conflicts 54 = .ok (.iaload, 1) := by decide +kernel
theorem dX10_conflicts_55 : decode cX10_conflicts 55 = .ok (.bipush 100, 2) := by decide +kernel
theorem dX10_conflicts_57 : decode cX10_conflicts 57 = .ok (.if_icmp .lt 7, 3) := by decide +kernel
theorem dX10_conflicts_60 : decode cX10_conflicts 60 = .ok (.iconst 1, 1) := by decide +kernel
theorem dX10_conflicts_61 : decode cX10_conflicts 61 = .ok (.goto 38, 3) := by decide +kernel
theorem dX10_conflicts_64 : decode cX10_conflicts 64 = .ok (.iconst 0, 1) := by decide +kernel
theorem dX10_conflicts_65 : decode cX10_conflicts 65 = .ok (.goto 34, 3) := by decide +kernel
theorem dX10_conflicts_68 : decode cX10_conflicts 68 = .ok (.iload_n 2, 1) := by decide +kernel
theorem dX10_conflicts_69 : decode cX10_conflicts 69 = .ok (.iconst 1, 1) := by decide +kernel
theorem dX10_conflicts_70 : decode cX10_conflicts 70 = .ok (.if_icmp .ne 23, 3) := by decide +kernel
theorem dX10_conflicts_73 : decode cX10_conflicts 73 = .ok (.aload_n 0, 1) := by decide +kernel
theorem dX10_conflicts_74 : decode cX10_conflicts 74 = .ok (.getfield 123, 3) := by decide +kernel
theorem dX10_conflicts_77 : decode cX10_conflicts 77 = .ok (.iload 4, 2) := by decide +kernel
theorem dX10_conflicts_79 : decode cX10_conflicts 79 = .ok (.iaload, 1) := by decide +kernel
theorem dX10_conflicts_80 : decode cX10_conflicts 80 = .ok (.bipush (-2), 2) := by decide +kernel
theorem dX10_conflicts_82 : decode cX10_conflicts 82 = .ok (.if_icmp .ne 7, 3) := by decide +kernel
theorem dX10_conflicts_85 : decode cX10_conflicts 85 = .ok (.iconst 1, 1) := by decide +kernel
theorem dX10_conflicts_86 : decode cX10_conflicts 86 = .ok (.goto 13, 3) := by decide +kernel
theorem dX10_conflicts_89 : decode cX10_conflicts 89 = .ok (.iconst 0, 1) := by decide +kernel
theorem dX10_conflicts_90 : decode cX10_conflicts 90 = .ok (.goto 9, 3) := by decide +kernel
theorem dX10_conflicts_93 : decode cX10_conflicts 93 = .ok (.aload_n 0, 1) := by decide +kernel
theorem dX10_conflicts_94 : decode cX10_conflicts 94 = .ok (.iload 4, 2) := by decide +kernel
theorem dX10_conflicts_96 : decode cX10_conflicts 96 = .ok (.invokevirtual 362, 3) := by decide +kernel
theorem dX10_conflicts_99 : decode cX10_conflicts 99 = .ok (.istore 5, 2) := by decide +kernel
theorem dX10_conflicts_101 : decode cX10_conflicts 101 = .ok (.iload_n 3, 1) := by decide +kernel
theorem dX10_conflicts_102 : decode cX10_conflicts 102 = .ok (.aload_n 0, 1) := by decide +kernel
theorem dX10_conflicts_103 : decode cX10_conflicts 103 = .ok (.iload 4, 2) := by decide +kernel
theorem dX10_conflicts_105 : decode cX10_conflicts 105 = .ok (.invokevirtual 222, 3) := by decide +kernel
theorem dX10_conflicts_108 : decode cX10_conflicts 108 = .ok (.ifCond .eq 12, 3) := by decide +kernel
theorem dX10_conflicts_111 : decode cX10_conflicts 111 = .ok (.iload 5, 2) := by decide +kernel
theorem dX10_conflicts_113 : decode cX10_conflicts 113 = .ok (.ifCond .eq 7, 3) := by decide +kernel
theorem dX10_conflicts_116 : decode cX10_conflicts 116 = .ok (.iconst 1, 1) := by decide +kernel
theorem dX10_conflicts_117 : decode cX10_conflicts 117 = .ok (.goto 4, 3) := by decide +kernel
theorem dX10_conflicts_120 : decode cX10_conflicts 120 = .ok (.iconst 0, 1) := by decide +kernel
theorem dX10_conflicts_121 : decode cX10_conflicts 121 = .ok (.iadd, 1) := by decide +kernel
theorem dX10_conflicts_122 : decode cX10_conflicts 122 = .ok (.istore_n 3, 1) := by decide +kernel
theorem dX10_conflicts_123 : decode cX10_conflicts 123 = .ok (.iinc 4 1, 3) := by decide +kernel
theorem dX10_conflicts_126 : decode cX10_conflicts 126 = .ok (.goto (-89), 3) := by decide +kernel
theorem dX10_conflicts_129 : decode cX10_conflicts 129 = .ok (.iload_n 3, 1) := by decide +kernel
theorem dX10_conflicts_130 : decode cX10_conflicts 130 = .ok (.ireturn, 1) := by decide +kernel
theorem dX10_knows_0 : decode cX10_knows 0 = .ok (.aload_n 0, 1) := by decide +kernel
theorem dX10_knows_1 : decode cX10_knows 1 = .ok (.iconst 0, 1) := by decide +kernel
theorem dX10_knows_2 : decode cX10_knows 2 = .ok (.putfield 177, 3) := by decide +kernel
theorem dX10_knows_5 : decode cX10_knows 5 = .ok (.iload_n 1, 1) := by decide +kernel
theorem dX10_knows_6 : decode cX10_knows 6 = .ok (.invokestatic 226, 3) := by decide +kernel
theorem dX10_knows_9 : decode cX10_knows 9 = .ok (.ifCond .eq 24, 3) := by decide +kernel
theorem dX10_knows_12 : decode cX10_knows 12 = .ok (.iload_n 2, 1) := by decide +kernel
theorem dX10_knows_13 : decode cX10_knows 13 = .ok (.invokestatic 226, 3) := by decide +kernel
theorem dX10_knows_16 : decode cX10_knows 16 = .ok (.ifCond .eq 17, 3) := by decide +kernel
theorem dX10_knows_19 : decode cX10_knows 19 = .ok (.aload_n 0, 1) := by decide +kernel
theorem dX10_knows_20 : decode cX10_knows 20 = .ok (.getfield 50, 3) := by decide +kernel
theorem dX10_knows_23 : decode cX10_knows 23 = .ok (.bipush 20, 2) := by decide +kernel
theorem dX10_knows_25 : decode cX10_knows 25 = .ok (.iload_n 1, 1) := by decide +kernel
theorem dX10_knows_26 : decode cX10_knows 26 = .ok (.imul, 1) := by decide +kernel
theorem dX10_knows_27 : decode cX10_knows 27 = .ok (.iload_n 2, 1) := by decide +kernel
theorem dX10_knows_28 : decode cX10_knows 28 = .ok (.iadd, 1) := by decide +kernel
theorem dX10_knows_29 : decode cX10_knows 29 = .ok (.iaload, 1) := by decide +kernel
theorem dX10_knows_30 : decode cX10_knows 30 = .ok (.goto 8, 3) := by decide +kernel
theorem dX10_knows_33 : decode cX10_knows 33 = .ok (.aload_n 0, 1) := by decide +kernel
theorem dX10_knows_34 : decode cX10_knows 34 = .ok (.iconst 1, 1) := by decide +kernel
theorem dX10_knows_35 : decode cX10_knows 35 = .ok (.invokevirtual 246, 3) := by decide +kernel
theorem dX10_knows_38 : decode cX10_knows 38 = .ok (.ireturn, 1) := by decide +kernel
theorem dX10_marks_0 : decode cX10_marks 0 = .ok (.aload_n 0, 1) := by decide +kernel
theorem dX10_marks_1 : decode cX10_marks 1 = .ok (.iconst 0, 1) := by decide +kernel
theorem dX10_marks_2 : decode cX10_marks 2 = .ok (.putfield 177, 3) := by decide +kernel
theorem dX10_marks_5 : decode cX10_marks 5 = .ok (.iload_n 1, 1) := by decide +kernel
theorem dX10_marks_6 : decode cX10_marks 6 = .ok (.invokestatic 226, 3) := by decide +kernel
theorem dX10_marks_9 : decode cX10_marks 9 = .ok (.ifCond .eq 11, 3) := by decide +kernel
theorem dX10_marks_12 : decode cX10_marks 12 = .ok (.aload_n 0, 1) := by decide +kernel
theorem dX10_marks_13 : decode cX10_marks 13 = .ok (.iload_n 1, 1) := by decide +kernel
theorem dX10_marks_14 : decode cX10_marks 14 = .ok (.invokevirtual 304, 3) := by decide +kernel
theorem dX10_marks_17 : decode cX10_marks 17 = .ok (.goto 8, 3) := by decide +kernel
theorem dX10_marks_20 : decode cX10_marks 20 = .ok (.aload_n 0, 1) := by decide +kernel
theorem dX10_marks_21 : decode cX10_marks 21 = .ok (.iconst 1, 1) := by decide +kernel
theorem dX10_marks_22 : decode cX10_marks 22 = .ok (.invokevirtual 246, 3) := by decide +kernel
theorem dX10_marks_25 : decode cX10_marks 25 = .ok (.ireturn, 1) := by decide +kernel
theorem dX10_keeps_0 : decode cX10_keeps 0 = .ok (.iconst 0, 1) := by decide +kernel
theorem dX10_keeps_1 : decode cX10_keeps 1 = .ok (.istore_n 1, 1) := by decide +kernel
theorem dX10_keeps_2 : decode cX10_keeps 2 = .ok (.iload_n 1, 1) := by decide +kernel
theorem dX10_keeps_3 : decode cX10_keeps 3 = .ok (.bipush 48, 2) := by decide +kernel
theorem dX10_keeps_5 : decode cX10_keeps 5 = .ok (.if_icmp .ge 68, 3) := by decide +kernel
theorem dX10_keeps_8 : decode cX10_keeps 8 = .ok (.aload_n 0, 1) := by decide +kernel
theorem dX10_keeps_9 : decode cX10_keeps 9 = .ok (.getfield 150, 3) := by decide +kernel
theorem dX10_keeps_12 : decode cX10_keeps 12 = .ok (.iload_n 1, 1) := by decide +kernel
theorem dX10_keeps_13 : decode cX10_keeps 13 = .ok (.aload_n 0, 1) := by decide +kernel
theorem dX10_keeps_14 : decode cX10_keeps 14 = .ok (.iload_n 1, 1) := by decide +kernel
theorem dX10_keeps_15 : decode cX10_keeps 15 = .ok (.invokevirtual 222, 3) := by decide +kernel
theorem dX10_keeps_18 : decode cX10_keeps 18 = .ok (.bastore, 1) := by decide +kernel
theorem dX10_keeps_19 : decode cX10_keeps 19 = .ok (.aload_n 0, 1) := by decide +kernel
theorem dX10_keeps_20 : decode cX10_keeps 20 = .ok (.getfield 153, 3) := by decide +kernel
theorem dX10_keeps_23 : decode cX10_keeps 23 = .ok (.iload_n 1, 1) := by decide +kernel
theorem dX10_keeps_24 : decode cX10_keeps 24 = .ok (.aload_n 0, 1) := by decide +kernel
theorem dX10_keeps_25 : decode cX10_keeps 25 = .ok (.getfield 108, 3) := by decide +kernel
theorem dX10_keeps_28 : decode cX10_keeps 28 = .ok (.iload_n 1, 1) := by decide +kernel
theorem dX10_keeps_29 : decode cX10_keeps 29 = .ok (.iaload, 1) := by decide +kernel
theorem dX10_keeps_30 : decode cX10_keeps 30 = .ok (.iastore, 1) := by decide +kernel
theorem dX10_keeps_31 : decode cX10_keeps 31 = .ok (.aload_n 0, 1) := by decide +kernel
theorem dX10_keeps_32 : decode cX10_keeps 32 = .ok (.getfield 156, 3) := by decide +kernel
theorem dX10_keeps_35 : decode cX10_keeps 35 = .ok (.iload_n 1, 1) := by decide +kernel
theorem dX10_keeps_36 : decode cX10_keeps 36 = .ok (.aload_n 0, 1) := by decide +kernel
theorem dX10_keeps_37 : decode cX10_keeps 37 = .ok (.getfield 123, 3) := by decide +kernel
theorem dX10_keeps_40 : decode cX10_keeps 40 = .ok (.iload_n 1, 1) := by decide +kernel
theorem dX10_keeps_41 : decode cX10_keeps 41 = .ok (.iaload, 1) := by decide +kernel
theorem dX10_keeps_42 : decode cX10_keeps 42 = .ok (.iastore, 1) := by decide +kernel
theorem dX10_keeps_43 : decode cX10_keeps 43 = .ok (.aload_n 0, 1) := by decide +kernel
theorem dX10_keeps_44 : decode cX10_keeps 44 = .ok (.getfield 159, 3) := by decide +kernel
theorem dX10_keeps_47 : decode cX10_keeps 47 = .ok (.iload_n 1, 1) := by decide +kernel
theorem dX10_keeps_48 : decode cX10_keeps 48 = .ok (.aload_n 0, 1) := by decide +kernel
theorem dX10_keeps_49 : decode cX10_keeps 49 = .ok (.getfield 126, 3) := by decide +kernel
theorem dX10_keeps_52 : decode cX10_keeps 52 = .ok (.iload_n 1, 1) := by decide +kernel
theorem dX10_keeps_53 : decode cX10_keeps 53 = .ok (.iaload, 1) := by decide +kernel
theorem dX10_keeps_54 : decode cX10_keeps 54 = .ok (.iastore, 1) := by decide +kernel
theorem dX10_keeps_55 : decode cX10_keeps 55 = .ok (.aload_n 0, 1) := by decide +kernel
theorem dX10_keeps_56 : decode cX10_keeps 56 = .ok (.getfield 162, 3) := by decide +kernel
theorem dX10_keeps_59 : decode cX10_keeps 59 = .ok (.iload_n 1, 1) := by decide +kernel
theorem dX10_keeps_60 : decode cX10_keeps 60 = .ok (.aload_n 0, 1) := by decide +kernel
theorem dX10_keeps_61 : decode cX10_keeps 61 = .ok (.getfield 117, 3) := by decide +kernel
theorem dX10_keeps_64 : decode cX10_keeps 64 = .ok (.iload_n 1, 1) := by decide +kernel
theorem dX10_keeps_65 : decode cX10_keeps 65 = .ok (.iaload, 1) := by decide +kernel
theorem dX10_keeps_66 : decode cX10_keeps 66 = .ok (.iastore, 1) := by decide +kernel
theorem dX10_keeps_67 : decode cX10_keeps 67 = .ok (.iinc 1 1, 3) := by decide +kernel
theorem dX10_keeps_70 : decode cX10_keeps 70 = .ok (.goto (-68), 3) := by decide +kernel
theorem dX10_keeps_73 : decode cX10_keeps 73 = .ok (.iconst 0, 1) := by decide +kernel
theorem dX10_keeps_74 : decode cX10_keeps 74 = .ok (.istore_n 1, 1) := by decide +kernel
theorem dX10_keeps_75 : decode cX10_keeps 75 = .ok (.iload_n 1, 1) := by decide +kernel
theorem dX10_keeps_76 : decode cX10_keeps 76 = .ok (.sipush 15840, 3) := by decide +kernel
theorem dX10_keeps_79 : decode cX10_keeps 79 = .ok (.if_icmp .ge 21, 3) := by decide +kernel
theorem dX10_keeps_82 : decode cX10_keeps 82 = .ok (.aload_n 0, 1) := by decide +kernel
theorem dX10_keeps_83 : decode cX10_keeps 83 = .ok (.getfield 174, 3) := by decide +kernel
theorem dX10_keeps_86 : decode cX10_keeps 86 = .ok (.iload_n 1, 1) := by decide +kernel
theorem dX10_keeps_87 : decode cX10_keeps 87 = .ok (.aload_n 0, 1) := by decide +kernel
theorem dX10_keeps_88 : decode cX10_keeps 88 = .ok (.getfield 138, 3) := by decide +kernel
theorem dX10_keeps_91 : decode cX10_keeps 91 = .ok (.iload_n 1, 1) := by decide +kernel
theorem dX10_keeps_92 : decode cX10_keeps 92 = .ok (.iaload, 1) := by decide +kernel
theorem dX10_keeps_93 : decode cX10_keeps 93 = .ok (.iastore, 1) := by decide +kernel
theorem dX10_keeps_94 : decode cX10_keeps 94 = .ok (.iinc 1 1, 3) := by decide +kernel
theorem dX10_keeps_97 : decode cX10_keeps 97 = .ok (.goto (-22), 3) := by decide +kernel
theorem dX10_keeps_100 : decode cX10_keeps 100 = .ok (.aload_n 0, 1) := by decide +kernel
theorem dX10_keeps_101 : decode cX10_keeps 101 = .ok (.aload_n 0, 1) := by decide +kernel
theorem dX10_keeps_102 : decode cX10_keeps 102 = .ok (.getfield 190, 3) := by decide +kernel
theorem dX10_keeps_105 : decode cX10_keeps 105 = .ok (.putfield 365, 3) := by decide +kernel
theorem dX10_keeps_108 : decode cX10_keeps 108 = .ok (.iconst 0, 1) := by decide +kernel
theorem dX10_keeps_109 : decode cX10_keeps 109 = .ok (.istore_n 1, 1) := by decide +kernel
theorem dX10_keeps_110 : decode cX10_keeps 110 = .ok (.iload_n 1, 1) := by decide +kernel
theorem dX10_keeps_111 : decode cX10_keeps 111 = .ok (.aload_n 0, 1) := by decide +kernel
theorem dX10_keeps_112 : decode cX10_keeps 112 = .ok (.getfield 190, 3) := by decide +kernel
theorem dX10_keeps_115 : decode cX10_keeps 115 = .ok (.if_icmp .ge 45, 3) := by decide +kernel
theorem dX10_keeps_118 : decode cX10_keeps 118 = .ok (.aload_n 0, 1) := by decide +kernel
theorem dX10_keeps_119 : decode cX10_keeps 119 = .ok (.getfield 165, 3) := by decide +kernel
theorem dX10_keeps_122 : decode cX10_keeps 122 = .ok (.iload_n 1, 1) := by decide +kernel
theorem dX10_keeps_123 : decode cX10_keeps 123 = .ok (.aload_n 0, 1) := by decide +kernel
theorem dX10_keeps_124 : decode cX10_keeps 124 = .ok (.getfield 129, 3) := by decide +kernel
theorem dX10_keeps_127 : decode cX10_keeps 127 = .ok (.iload_n 1, 1) := by decide +kernel
theorem dX10_keeps_128 : decode cX10_keeps 128 = .ok (.iaload, 1) := by decide +kernel
theorem dX10_keeps_129 : decode cX10_keeps 129 = .ok (.iastore, 1) := by decide +kernel
theorem dX10_keeps_130 : decode cX10_keeps 130 = .ok (.aload_n 0, 1) := by decide +kernel
theorem dX10_keeps_131 : decode cX10_keeps 131 = .ok (.getfield 168, 3) := by decide +kernel
theorem dX10_keeps_134 : decode cX10_keeps 134 = .ok (.iload_n 1, 1) := by decide +kernel
theorem dX10_keeps_135 : decode cX10_keeps 135 = .ok (.aload_n 0, 1) := by decide +kernel
theorem dX10_keeps_136 : decode cX10_keeps 136 = .ok (.getfield 132, 3) := by decide +kernel
theorem dX10_keeps_139 : decode cX10_keeps 139 = .ok (.iload_n 1, 1) := by decide +kernel
theorem dX10_keeps_140 : decode cX10_keeps 140 = .ok (.iaload, 1) := by decide +kernel
theorem dX10_keeps_141 : decode cX10_keeps 141 = .ok (.iastore, 1) := by decide +kernel
theorem dX10_keeps_142 : decode cX10_keeps 142 = .ok (.aload_n 0, 1) := by decide +kernel
theorem dX10_keeps_143 : decode cX10_keeps 143 = .ok (.getfield 171, 3) := by decide +kernel
theorem dX10_keeps_146 : decode cX10_keeps 146 = .ok (.iload_n 1, 1) := by decide +kernel
theorem dX10_keeps_147 : decode cX10_keeps 147 = .ok (.aload_n 0, 1) := by decide +kernel
theorem dX10_keeps_148 : decode cX10_keeps 148 = .ok (.getfield 135, 3) := by decide +kernel
theorem dX10_keeps_151 : decode cX10_keeps 151 = .ok (.iload_n 1, 1) := by decide +kernel
theorem dX10_keeps_152 : decode cX10_keeps 152 = .ok (.iaload, 1) := by decide +kernel
theorem dX10_keeps_153 : decode cX10_keeps 153 = .ok (.iastore, 1) := by decide +kernel
theorem dX10_keeps_154 : decode cX10_keeps 154 = .ok (.iinc 1 1, 3) := by decide +kernel
theorem dX10_keeps_157 : decode cX10_keeps 157 = .ok (.goto (-47), 3) := by decide +kernel
theorem dX10_keeps_160 : decode cX10_keeps 160 = .ok (.return_, 1) := by decide +kernel
theorem dX10_hasSame_0 : decode cX10_hasSame 0 = .ok (.iconst 0, 1) := by decide +kernel
theorem dX10_hasSame_1 : decode cX10_hasSame 1 = .ok (.istore_n 2, 1) := by decide +kernel
theorem dX10_hasSame_2 : decode cX10_hasSame 2 = .ok (.iconst 1, 1) := by decide +kernel
theorem dX10_hasSame_3 : decode cX10_hasSame 3 = .ok (.istore_n 3, 1) := by decide +kernel
theorem dX10_hasSame_4 : decode cX10_hasSame 4 = .ok (.iconst 0, 1) := by decide +kernel
theorem dX10_hasSame_5 : decode cX10_hasSame 5 = .ok (.istore 4, 2) := by decide +kernel
theorem dX10_hasSame_7 : decode cX10_hasSame 7 = .ok (.iload 4, 2) := by decide +kernel
theorem dX10_hasSame_9 : decode cX10_hasSame 9 = .ok (.aload_n 0, 1) := by decide +kernel
theorem dX10_hasSame_10 : decode cX10_hasSame 10 = .ok (.getfield 190, 3) := by decide +kernel
theorem dX10_hasSame_13 : decode cX10_hasSame 13 = .ok (.if_icmp .ge 136, 3) := by decide +kernel
theorem dX10_hasSame_16 : decode cX10_hasSame 16 = .ok (.aload_n 0, 1) := by decide +kernel
theorem dX10_hasSame_17 : decode cX10_hasSame 17 = .ok (.getfield 129, 3) := by decide +kernel
theorem dX10_hasSame_20 : decode cX10_hasSame 20 = .ok (.iload 4, 2) := by decide +kernel
theorem dX10_hasSame_22 : decode cX10_hasSame 22 = .ok (.iaload, 1) := by decide +kernel
theorem dX10_hasSame_23 : decode cX10_hasSame 23 = .ok (.iload_n 1, 1) := by decide +kernel
theorem dX10_hasSame_24 : decode cX10_hasSame 24 = .ok (.if_icmp .eq 7, 3) := by decide +kernel
theorem dX10_hasSame_27 : decode cX10_hasSame 27 = .ok (.iconst 1, 1) := by decide +kernel
theorem dX10_hasSame_28 : decode cX10_hasSame 28 = .ok (.goto 4, 3) := by decide +kernel
theorem dX10_hasSame_31 : decode cX10_hasSame 31 = .ok (.iconst 0, 1) := by decide +kernel
theorem dX10_hasSame_32 : decode cX10_hasSame 32 = .ok (.istore 5, 2) := by decide +kernel
theorem dX10_hasSame_34 : decode cX10_hasSame 34 = .ok (.iconst 0, 1) := by decide +kernel
theorem dX10_hasSame_35 : decode cX10_hasSame 35 = .ok (.istore 6, 2) := by decide +kernel
theorem dX10_hasSame_37 : decode cX10_hasSame 37 = .ok (.iload 6, 2) := by decide +kernel
theorem dX10_hasSame_39 : decode cX10_hasSame 39 = .ok (.aload_n 0, 1) := by decide +kernel
theorem dX10_hasSame_40 : decode cX10_hasSame 40 = .ok (.getfield 365, 3) := by decide +kernel
theorem dX10_hasSame_43 : decode cX10_hasSame 43 = .ok (.if_icmp .ge 66, 3) := by decide +kernel
theorem dX10_hasSame_46 : decode cX10_hasSame 46 = .ok (.iload 5, 2) := by decide +kernel
theorem dX10_hasSame_48 : decode cX10_hasSame 48 = .ok (.ifCond .ne 61, 3) := by decide +kernel
theorem dX10_hasSame_51 : decode cX10_hasSame 51 = .ok (.aload_n 0, 1) := by decide +kernel
theorem dX10_hasSame_52 : decode cX10_hasSame 52 = .ok (.getfield 165, 3) := by decide +kernel
theorem dX10_hasSame_55 : decode cX10_hasSame 55 = .ok (.iload 6, 2) := by decide +kernel
theorem dX10_hasSame_57 : decode cX10_hasSame 57 = .ok (.iaload, 1) := by decide +kernel
theorem dX10_hasSame_58 : decode cX10_hasSame 58 = .ok (.iload_n 1, 1) := by decide +kernel
theorem dX10_hasSame_59 : decode cX10_hasSame 59 = .ok (.if_icmp .ne 41, 3) := by decide +kernel
theorem dX10_hasSame_62 : decode cX10_hasSame 62 = .ok (.aload_n 0, 1) := by decide +kernel
theorem dX10_hasSame_63 : decode cX10_hasSame 63 = .ok (.getfield 168, 3) := by decide +kernel
theorem dX10_hasSame_66 : decode cX10_hasSame 66 = .ok (.iload 6, 2) := by decide +kernel
theorem dX10_hasSame_68 : decode cX10_hasSame 68 = .ok (.iaload, 1) := by decide +kernel
theorem dX10_hasSame_69 : decode cX10_hasSame 69 = .ok (.aload_n 0, 1) := by decide +kernel
theorem dX10_hasSame_70 : decode cX10_hasSame 70 = .ok (.getfield 132, 3) := by decide +kernel
theorem dX10_hasSame_73 : decode cX10_hasSame 73 = .ok (.iload 4, 2) := by decide +kernel
theorem dX10_hasSame_75 : decode cX10_hasSame 75 = .ok (.iaload, 1) := by decide +kernel
theorem dX10_hasSame_76 : decode cX10_hasSame 76 = .ok (.if_icmp .ne 24, 3) := by decide +kernel
theorem dX10_hasSame_79 : decode cX10_hasSame 79 = .ok (.aload_n 0, 1) := by decide +kernel
theorem dX10_hasSame_80 : decode cX10_hasSame 80 = .ok (.getfield 171, 3) := by decide +kernel
theorem dX10_hasSame_83 : decode cX10_hasSame 83 = .ok (.iload 6, 2) := by decide +kernel
theorem dX10_hasSame_85 : decode cX10_hasSame 85 = .ok (.iaload, 1) := by decide +kernel
theorem dX10_hasSame_86 : decode cX10_hasSame 86 = .ok (.aload_n 0, 1) := by decide +kernel
theorem dX10_hasSame_87 : decode cX10_hasSame 87 = .ok (.getfield 135, 3) := by decide +kernel
theorem dX10_hasSame_90 : decode cX10_hasSame 90 = .ok (.iload 4, 2) := by decide +kernel
theorem dX10_hasSame_92 : decode cX10_hasSame 92 = .ok (.iaload, 1) := by decide +kernel
theorem dX10_hasSame_93 : decode cX10_hasSame 93 = .ok (.if_icmp .ne 7, 3) := by decide +kernel
theorem dX10_hasSame_96 : decode cX10_hasSame 96 = .ok (.iconst 1, 1) := by decide +kernel
theorem dX10_hasSame_97 : decode cX10_hasSame 97 = .ok (.goto 4, 3) := by decide +kernel
theorem dX10_hasSame_100 : decode cX10_hasSame 100 = .ok (.iconst 0, 1) := by decide +kernel
theorem dX10_hasSame_101 : decode cX10_hasSame 101 = .ok (.istore 5, 2) := by decide +kernel
theorem dX10_hasSame_103 : decode cX10_hasSame 103 = .ok (.iinc 6 1, 3) := by decide +kernel
theorem dX10_hasSame_106 : decode cX10_hasSame 106 = .ok (.goto (-69), 3) := by decide +kernel
theorem dX10_hasSame_109 : decode cX10_hasSame 109 = .ok (.iload_n 3, 1) := by decide +kernel
theorem dX10_hasSame_110 : decode cX10_hasSame 110 = .ok (.ifCond .eq 12, 3) := by decide +kernel
theorem dX10_hasSame_113 : decode cX10_hasSame 113 = .ok (.iload 5, 2) := by decide +kernel
theorem dX10_hasSame_115 : decode cX10_hasSame 115 = .ok (.ifCond .eq 7, 3) := by decide +kernel
theorem dX10_hasSame_118 : decode cX10_hasSame 118 = .ok (.iconst 1, 1) := by decide +kernel
theorem dX10_hasSame_119 : decode cX10_hasSame 119 = .ok (.goto 4, 3) := by decide +kernel
theorem dX10_hasSame_122 : decode cX10_hasSame 122 = .ok (.iconst 0, 1) := by decide +kernel
theorem dX10_hasSame_123 : decode cX10_hasSame 123 = .ok (.istore_n 3, 1) := by decide +kernel
theorem dX10_hasSame_124 : decode cX10_hasSame 124 = .ok (.iload_n 2, 1) := by decide +kernel
theorem dX10_hasSame_125 : decode cX10_hasSame 125 = .ok (.aload_n 0, 1) := by decide +kernel
theorem dX10_hasSame_126 : decode cX10_hasSame 126 = .ok (.getfield 129, 3) := by decide +kernel
theorem dX10_hasSame_129 : decode cX10_hasSame 129 = .ok (.iload 4, 2) := by decide +kernel
theorem dX10_hasSame_131 : decode cX10_hasSame 131 = .ok (.iaload, 1) := by decide +kernel
theorem dX10_hasSame_132 : decode cX10_hasSame 132 = .ok (.iload_n 1, 1) := by decide +kernel
theorem dX10_hasSame_133 : decode cX10_hasSame 133 = .ok (.if_icmp .ne 7, 3) := by decide +kernel
theorem dX10_hasSame_136 : decode cX10_hasSame 136 = .ok (.iconst 1, 1) := by decide +kernel
theorem dX10_hasSame_137 : decode cX10_hasSame 137 = .ok (.goto 4, 3) := by decide +kernel
theorem dX10_hasSame_140 : decode cX10_hasSame 140 = .ok (.iconst 0, 1) := by decide +kernel
theorem dX10_hasSame_141 : decode cX10_hasSame 141 = .ok (.iadd, 1) := by decide +kernel
theorem dX10_hasSame_142 : decode cX10_hasSame 142 = .ok (.istore_n 2, 1) := by decide +kernel
theorem dX10_hasSame_143 : decode cX10_hasSame 143 = .ok (.iinc 4 1, 3) := by decide +kernel
theorem dX10_hasSame_146 : decode cX10_hasSame 146 = .ok (.goto (-139), 3) := by decide +kernel
theorem dX10_hasSame_149 : decode cX10_hasSame 149 = .ok (.iconst 0, 1) := by decide +kernel
theorem dX10_hasSame_150 : decode cX10_hasSame 150 = .ok (.istore 4, 2) := by decide +kernel
theorem dX10_hasSame_152 : decode cX10_hasSame 152 = .ok (.iload 4, 2) := by decide +kernel
theorem dX10_hasSame_154 : decode cX10_hasSame 154 = .ok (.aload_n 0, 1) := by decide +kernel
theorem dX10_hasSame_155 : decode cX10_hasSame 155 = .ok (.getfield 365, 3) := by decide +kernel
theorem dX10_hasSame_158 : decode cX10_hasSame 158 = .ok (.if_icmp .ge 28, 3) := by decide +kernel
theorem dX10_hasSame_161 : decode cX10_hasSame 161 = .ok (.iload_n 2, 1) := by decide +kernel
theorem dX10_hasSame_162 : decode cX10_hasSame 162 = .ok (.aload_n 0, 1) := by decide +kernel
theorem dX10_hasSame_163 : decode cX10_hasSame 163 = .ok (.getfield 165, 3) := by decide +kernel
theorem dX10_hasSame_166 : decode cX10_hasSame 166 = .ok (.iload 4, 2) := by decide +kernel
theorem dX10_hasSame_168 : decode cX10_hasSame 168 = .ok (.iaload, 1) := by decide +kernel
theorem dX10_hasSame_169 : decode cX10_hasSame 169 = .ok (.iload_n 1, 1) := by decide +kernel
theorem dX10_hasSame_170 : decode cX10_hasSame 170 = .ok (.if_icmp .ne 7, 3) := by decide +kernel
theorem dX10_hasSame_173 : decode cX10_hasSame 173 = .ok (.iconst 1, 1) := by decide +kernel
theorem dX10_hasSame_174 : decode cX10_hasSame 174 = .ok (.goto 4, 3) := by decide +kernel
theorem dX10_hasSame_177 : decode cX10_hasSame 177 = .ok (.iconst 0, 1) := by decide +kernel
theorem dX10_hasSame_178 : decode cX10_hasSame 178 = .ok (.isub, 1) := by decide +kernel
theorem dX10_hasSame_179 : decode cX10_hasSame 179 = .ok (.istore_n 2, 1) := by decide +kernel
theorem dX10_hasSame_180 : decode cX10_hasSame 180 = .ok (.iinc 4 1, 3) := by decide +kernel
theorem dX10_hasSame_183 : decode cX10_hasSame 183 = .ok (.goto (-31), 3) := by decide +kernel
theorem dX10_hasSame_186 : decode cX10_hasSame 186 = .ok (.iload_n 3, 1) := by decide +kernel
theorem dX10_hasSame_187 : decode cX10_hasSame 187 = .ok (.ifCond .eq 11, 3) := by decide +kernel
theorem dX10_hasSame_190 : decode cX10_hasSame 190 = .ok (.iload_n 2, 1) := by decide +kernel
theorem dX10_hasSame_191 : decode cX10_hasSame 191 = .ok (.ifCond .ne 7, 3) := by decide +kernel
theorem dX10_hasSame_194 : decode cX10_hasSame 194 = .ok (.iconst 1, 1) := by decide +kernel
theorem dX10_hasSame_195 : decode cX10_hasSame 195 = .ok (.goto 4, 3) := by decide +kernel
theorem dX10_hasSame_198 : decode cX10_hasSame 198 = .ok (.iconst 0, 1) := by decide +kernel
theorem dX10_hasSame_199 : decode cX10_hasSame 199 = .ok (.ireturn, 1) := by decide +kernel
theorem dX10_isAlike_0 : decode cX10_isAlike 0 = .ok (.aload_n 0, 1) := by decide +kernel
theorem dX10_isAlike_1 : decode cX10_isAlike 1 = .ok (.iload_n 1, 1) := by decide +kernel
theorem dX10_isAlike_2 : decode cX10_isAlike 2 = .ok (.invokevirtual 229, 3) := by decide +kernel
theorem dX10_isAlike_5 : decode cX10_isAlike 5 = .ok (.aload_n 0, 1) := by decide +kernel
theorem dX10_isAlike_6 : decode cX10_isAlike 6 = .ok (.invokevirtual 368, 3) := by decide +kernel
theorem dX10_isAlike_9 : decode cX10_isAlike 9 = .ok (.aload_n 0, 1) := by decide +kernel
theorem dX10_isAlike_10 : decode cX10_isAlike 10 = .ok (.iload_n 2, 1) := by decide +kernel
theorem dX10_isAlike_11 : decode cX10_isAlike 11 = .ok (.invokevirtual 229, 3) := by decide +kernel
theorem dX10_isAlike_14 : decode cX10_isAlike 14 = .ok (.iconst 1, 1) := by decide +kernel
theorem dX10_isAlike_15 : decode cX10_isAlike 15 = .ok (.istore_n 3, 1) := by decide +kernel
theorem dX10_isAlike_16 : decode cX10_isAlike 16 = .ok (.iconst 0, 1) := by decide +kernel
theorem dX10_isAlike_17 : decode cX10_isAlike 17 = .ok (.istore 4, 2) := by decide +kernel
theorem dX10_isAlike_19 : decode cX10_isAlike 19 = .ok (.iload 4, 2) := by decide +kernel
theorem dX10_isAlike_21 : decode cX10_isAlike 21 = .ok (.bipush 48, 2) := by decide +kernel
theorem dX10_isAlike_23 : decode cX10_isAlike 23 = .ok (.if_icmp .ge 187, 3) := by decide +kernel
theorem dX10_isAlike_26 : decode cX10_isAlike 26 = .ok (.iload_n 3, 1) := by decide +kernel
theorem dX10_isAlike_27 : decode cX10_isAlike 27 = .ok (.ifCond .eq 23, 3) := by decide +kernel
theorem dX10_isAlike_30 : decode cX10_isAlike 30 = .ok (.aload_n 0, 1) := by decide +kernel
theorem dX10_isAlike_31 : decode cX10_isAlike 31 = .ok (.iload 4, 2) := by decide +kernel
theorem dX10_isAlike_33 : decode cX10_isAlike 33 = .ok (.invokevirtual 222, 3) := by decide +kernel
theorem dX10_isAlike_36 : decode cX10_isAlike 36 = .ok (.aload_n 0, 1) := by decide +kernel
theorem dX10_isAlike_37 : decode cX10_isAlike 37 = .ok (.getfield 150, 3) := by decide +kernel
theorem dX10_isAlike_40 : decode cX10_isAlike 40 = .ok (.iload 4, 2) := by decide +kernel
theorem dX10_isAlike_42 : decode cX10_isAlike 42 = .ok (.baload, 1) := by decide +kernel
theorem dX10_isAlike_43 : decode cX10_isAlike 43 = .ok (.if_icmp .ne 7, 3) := by decide +kernel
theorem dX10_isAlike_46 : decode cX10_isAlike 46 = .ok (.iconst 1, 1) := by decide +kernel
theorem dX10_isAlike_47 : decode cX10_isAlike 47 = .ok (.goto 4, 3) := by decide +kernel
theorem dX10_isAlike_50 : decode cX10_isAlike 50 = .ok (.iconst 0, 1) := by decide +kernel
theorem dX10_isAlike_51 : decode cX10_isAlike 51 = .ok (.istore_n 3, 1) := by decide +kernel
theorem dX10_isAlike_52 : decode cX10_isAlike 52 = .ok (.iload_n 3, 1) := by decide +kernel
theorem dX10_isAlike_53 : decode cX10_isAlike 53 = .ok (.ifCond .eq 151, 3) := by decide +kernel
theorem dX10_isAlike_56 : decode cX10_isAlike 56 = .ok (.aload_n 0, 1) := by decide +kernel
theorem dX10_isAlike_57 : decode cX10_isAlike 57 = .ok (.iload 4, 2) := by decide +kernel
theorem dX10_isAlike_59 : decode cX10_isAlike 59 = .ok (.invokevirtual 222, 3) := by decide +kernel
theorem dX10_isAlike_62 : decode cX10_isAlike 62 = .ok (.ifCond .eq 142, 3) := by decide +kernel
theorem dX10_isAlike_65 : decode cX10_isAlike 65 = .ok (.aload_n 0, 1) := by decide +kernel
theorem dX10_isAlike_66 : decode cX10_isAlike 66 = .ok (.getfield 108, 3) := by decide +kernel
theorem dX10_isAlike_69 : decode cX10_isAlike 69 = .ok (.iload 4, 2) := by decide +kernel
theorem dX10_isAlike_71 : decode cX10_isAlike 71 = .ok (.iaload, 1) := by decide +kernel
theorem dX10_isAlike_72 : decode cX10_isAlike 72 = .ok (.aload_n 0, 1) := by decide +kernel
theorem dX10_isAlike_73 : decode cX10_isAlike 73 = .ok (.getfield 153, 3) := by decide +kernel
theorem dX10_isAlike_76 : decode cX10_isAlike 76 = .ok (.iload 4, 2) := by decide +kernel
theorem dX10_isAlike_78 : decode cX10_isAlike 78 = .ok (.iaload, 1) := by decide +kernel
theorem dX10_isAlike_79 : decode cX10_isAlike 79 = .ok (.if_icmp .ne 67, 3) := by decide +kernel
theorem dX10_isAlike_82 : decode cX10_isAlike 82 = .ok (.aload_n 0, 1) := by decide +kernel
theorem dX10_isAlike_83 : decode cX10_isAlike 83 = .ok (.getfield 123, 3) := by decide +kernel
theorem dX10_isAlike_86 : decode cX10_isAlike 86 = .ok (.iload 4, 2) := by decide +kernel
theorem dX10_isAlike_88 : decode cX10_isAlike 88 = .ok (.iaload, 1) := by decide +kernel
theorem dX10_isAlike_89 : decode cX10_isAlike 89 = .ok (.aload_n 0, 1) := by decide +kernel
theorem dX10_isAlike_90 : decode cX10_isAlike 90 = .ok (.getfield 156, 3) := by decide +kernel
theorem dX10_isAlike_93 : decode cX10_isAlike 93 = .ok (.iload 4, 2) := by decide +kernel
theorem dX10_isAlike_95 : decode cX10_isAlike 95 = .ok (.iaload, 1) := by decide +kernel
theorem dX10_isAlike_96 : decode cX10_isAlike 96 = .ok (.if_icmp .ne 50, 3) := by decide +kernel
theorem dX10_isAlike_99 : decode cX10_isAlike 99 = .ok (.aload_n 0, 1) := by decide +kernel
theorem dX10_isAlike_100 : decode cX10_isAlike 100 = .ok (.getfield 126, 3) := by decide +kernel
theorem dX10_isAlike_103 : decode cX10_isAlike 103 = .ok (.iload 4, 2) := by decide +kernel
theorem dX10_isAlike_105 : decode cX10_isAlike 105 = .ok (.iaload, 1) := by decide +kernel
theorem dX10_isAlike_106 : decode cX10_isAlike 106 = .ok (.aload_n 0, 1) := by decide +kernel
theorem dX10_isAlike_107 : decode cX10_isAlike 107 = .ok (.getfield 159, 3) := by decide +kernel
theorem dX10_isAlike_110 : decode cX10_isAlike 110 = .ok (.iload 4, 2) := by decide +kernel
theorem dX10_isAlike_112 : decode cX10_isAlike 112 = .ok (.iaload, 1) := by decide +kernel
theorem dX10_isAlike_113 : decode cX10_isAlike 113 = .ok (.if_icmp .ne 33, 3) := by decide +kernel
theorem dX10_isAlike_116 : decode cX10_isAlike 116 = .ok (.aload_n 0, 1) := by decide +kernel
theorem dX10_isAlike_117 : decode cX10_isAlike 117 = .ok (.getfield 117, 3) := by decide +kernel
theorem dX10_isAlike_120 : decode cX10_isAlike 120 = .ok (.iload 4, 2) := by decide +kernel
theorem dX10_isAlike_122 : decode cX10_isAlike 122 = .ok (.iaload, 1) := by decide +kernel
theorem dX10_isAlike_123 : decode cX10_isAlike 123 = .ok (.aload_n 0, 1) := by decide +kernel
theorem dX10_isAlike_124 : decode cX10_isAlike 124 = .ok (.getfield 162, 3) := by decide +kernel
theorem dX10_isAlike_127 : decode cX10_isAlike 127 = .ok (.iload 4, 2) := by decide +kernel
theorem dX10_isAlike_129 : decode cX10_isAlike 129 = .ok (.iaload, 1) := by decide +kernel
theorem dX10_isAlike_130 : decode cX10_isAlike 130 = .ok (.if_icmp .ne 16, 3) := by decide +kernel
theorem dX10_isAlike_133 : decode cX10_isAlike 133 = .ok (.aload_n 0, 1) := by decide +kernel
theorem dX10_isAlike_134 : decode cX10_isAlike 134 = .ok (.iload 4, 2) := by decide +kernel
theorem dX10_isAlike_136 : decode cX10_isAlike 136 = .ok (.invokevirtual 371, 3) := by decide +kernel
theorem dX10_isAlike_139 : decode cX10_isAlike 139 = .ok (.ifCond .eq 7, 3) := by decide +kernel
theorem dX10_isAlike_142 : decode cX10_isAlike 142 = .ok (.iconst 1, 1) := by decide +kernel
theorem dX10_isAlike_143 : decode cX10_isAlike 143 = .ok (.goto 4, 3) := by decide +kernel
theorem dX10_isAlike_146 : decode cX10_isAlike 146 = .ok (.iconst 0, 1) := by decide +kernel
theorem dX10_isAlike_147 : decode cX10_isAlike 147 = .ok (.istore_n 3, 1) := by decide +kernel
theorem dX10_isAlike_148 : decode cX10_isAlike 148 = .ok (.sipush 330, 3) := by decide +kernel
theorem dX10_isAlike_151 : decode cX10_isAlike 151 = .ok (.iload 4, 2) := by decide +kernel
theorem dX10_isAlike_153 : decode cX10_isAlike 153 = .ok (.imul, 1) := by decide +kernel
theorem dX10_isAlike_154 : decode cX10_isAlike 154 = .ok (.istore 5, 2) := by decide +kernel
theorem dX10_isAlike_156 : decode cX10_isAlike 156 = .ok (.iload 5, 2) := by decide +kernel
theorem dX10_isAlike_158 : decode cX10_isAlike 158 = .ok (.sipush 330, 3) := by decide +kernel
theorem dX10_isAlike_161 : decode cX10_isAlike 161 = .ok (.iload 4, 2) := by decide +kernel
theorem dX10_isAlike_163 : decode cX10_isAlike 163 = .ok (.imul, 1) := by decide +kernel
theorem dX10_isAlike_164 : decode cX10_isAlike 164 = .ok (.sipush 330, 3) := by decide +kernel
theorem dX10_isAlike_167 : decode cX10_isAlike 167 = .ok (.iadd, 1) := by decide +kernel
theorem dX10_isAlike_168 : decode cX10_isAlike 168 = .ok (.if_icmp .ge 36, 3) := by decide +kernel
theorem dX10_isAlike_171 : decode cX10_isAlike 171 = .ok (.iload_n 3, 1) := by decide +kernel
theorem dX10_isAlike_172 : decode cX10_isAlike 172 = .ok (.ifCond .eq 24, 3) := by decide +kernel
theorem dX10_isAlike_175 : decode cX10_isAlike 175 = .ok (.aload_n 0, 1) := by decide +kernel
theorem dX10_isAlike_176 : decode cX10_isAlike 176 = .ok (.getfield 138, 3) := by decide +kernel
theorem dX10_isAlike_179 : decode cX10_isAlike 179 = .ok (.iload 5, 2) := by decide +kernel
theorem dX10_isAlike_181 : decode cX10_isAlike 181 = .ok (.iaload, 1) := by decide +kernel
theorem dX10_isAlike_182 : decode cX10_isAlike 182 = .ok (.aload_n 0, 1) := by decide +kernel
theorem dX10_isAlike_183 : decode cX10_isAlike 183 = .ok (.getfield 174, 3) := by decide +kernel
theorem dX10_isAlike_186 : decode cX10_isAlike 186 = .ok (.iload 5, 2) := by decide +kernel
theorem dX10_isAlike_188 : decode cX10_isAlike 188 = .ok (.iaload, 1) := by decide +kernel
theorem dX10_isAlike_189 : decode cX10_isAlike 189 = .ok (.if_icmp .ne 7, 3) := by decide +kernel
theorem dX10_isAlike_192 : decode cX10_isAlike 192 = .ok (.iconst 1, 1) := by decide +kernel
theorem dX10_isAlike_193 : decode cX10_isAlike 193 = .ok (.goto 4, 3) := by decide +kernel
theorem dX10_isAlike_196 : decode cX10_isAlike 196 = .ok (.iconst 0, 1) := by decide +kernel
theorem dX10_isAlike_197 : decode cX10_isAlike 197 = .ok (.istore_n 3, 1) := by decide +kernel
theorem dX10_isAlike_198 : decode cX10_isAlike 198 = .ok (.iinc 5 1, 3) := by decide +kernel
theorem dX10_isAlike_201 : decode cX10_isAlike 201 = .ok (.goto (-45), 3) := by decide +kernel
theorem dX10_isAlike_204 : decode cX10_isAlike 204 = .ok (.iinc 4 1, 3) := by decide +kernel
theorem dX10_isAlike_207 : decode cX10_isAlike 207 = .ok (.goto (-188), 3) := by decide +kernel
theorem dX10_isAlike_210 : decode cX10_isAlike 210 = .ok (.iload_n 3, 1) := by decide +kernel
theorem dX10_isAlike_211 : decode cX10_isAlike 211 = .ok (.ireturn, 1) := by decide +kernel
theorem dX10_areAlike_0 : decode cX10_areAlike 0 = .ok (.aload_n 0, 1) := by decide +kernel
theorem dX10_areAlike_1 : decode cX10_areAlike 1 = .ok (.iload_n 1, 1) := by decide +kernel
theorem dX10_areAlike_2 : decode cX10_areAlike 2 = .ok (.invokestatic 226, 3) := by decide +kernel
theorem dX10_areAlike_5 : decode cX10_areAlike 5 = .ok (.ifCond .eq 14, 3) := by decide +kernel
theorem dX10_areAlike_8 : decode cX10_areAlike 8 = .ok (.iload_n 2, 1) := by decide +kernel
theorem dX10_areAlike_9 : decode cX10_areAlike 9 = .ok (.invokestatic 226, 3) := by decide +kernel
theorem dX10_areAlike_12 : decode cX10_areAlike 12 = .ok (.ifCond .eq 7, 3) := by decide +kernel
theorem dX10_areAlike_15 : decode cX10_areAlike 15 = .ok (.iconst 0, 1) := by decide +kernel
theorem dX10_areAlike_16 : decode cX10_areAlike 16 = .ok (.goto 4, 3) := by decide +kernel
theorem dX10_areAlike_19 : decode cX10_areAlike 19 = .ok (.iconst 1, 1) := by decide +kernel
theorem dX10_areAlike_20 : decode cX10_areAlike 20 = .ok (.putfield 177, 3) := by decide +kernel
theorem dX10_areAlike_23 : decode cX10_areAlike 23 = .ok (.aload_n 0, 1) := by decide +kernel
theorem dX10_areAlike_24 : decode cX10_areAlike 24 = .ok (.getfield 177, 3) := by decide +kernel
theorem dX10_areAlike_27 : decode cX10_areAlike 27 = .ok (.ifCond .ne 16, 3) := by decide +kernel
theorem dX10_areAlike_30 : decode cX10_areAlike 30 = .ok (.aload_n 0, 1) := by decide +kernel
theorem dX10_areAlike_31 : decode cX10_areAlike 31 = .ok (.iload_n 1, 1) := by decide +kernel
theorem dX10_areAlike_32 : decode cX10_areAlike 32 = .ok (.iload_n 2, 1) := by decide +kernel
theorem dX10_areAlike_33 : decode cX10_areAlike 33 = .ok (.invokevirtual 374, 3) := by decide +kernel
theorem dX10_areAlike_36 : decode cX10_areAlike 36 = .ok (.ifCond .eq 7, 3) := by decide +kernel
theorem dX10_areAlike_39 : decode cX10_areAlike 39 = .ok (.iconst 1, 1) := by decide +kernel
theorem dX10_areAlike_40 : decode cX10_areAlike 40 = .ok (.goto 4, 3) := by decide +kernel
theorem dX10_areAlike_43 : decode cX10_areAlike 43 = .ok (.iconst 0, 1) := by decide +kernel
theorem dX10_areAlike_44 : decode cX10_areAlike 44 = .ok (.ireturn, 1) := by decide +kernel
