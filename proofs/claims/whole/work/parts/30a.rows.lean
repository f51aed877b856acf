theorem dX7_init_0 : decode cX7_init 0 = .ok (.aload_n 0, 1) := by decide +kernel
theorem dX7_init_1 : decode cX7_init 1 = .ok (.invokespecial 1, 3) := by decide +kernel
theorem dX7_init_4 : decode cX7_init 4 = .ok (.aload_n 0, 1) := by decide +kernel
theorem dX7_init_5 : decode cX7_init 5 = .ok (.bipush 8, 2) := by decide +kernel
theorem dX7_init_7 : decode cX7_init 7 = .ok (.newarray .int, 2) := by decide +kernel
theorem dX7_init_9 : decode cX7_init 9 = .ok (.putfield 7, 3) := by decide +kernel
theorem dX7_init_12 : decode cX7_init 12 = .ok (.aload_n 0, 1) := by decide +kernel
theorem dX7_init_13 : decode cX7_init 13 = .ok (.bipush 8, 2) := by decide +kernel
theorem dX7_init_15 : decode cX7_init 15 = .ok (.newarray .int, 2) := by decide +kernel
theorem dX7_init_17 : decode cX7_init 17 = .ok (.putfield 13, 3) := by decide +kernel
theorem dX7_init_20 : decode cX7_init 20 = .ok (.aload_n 0, 1) := by decide +kernel
theorem dX7_init_21 : decode cX7_init 21 = .ok (.bipush 64, 2) := by decide +kernel
theorem dX7_init_23 : decode cX7_init 23 = .ok (.newarray .int, 2) := by decide +kernel
theorem dX7_init_25 : decode cX7_init 25 = .ok (.putfield 16, 3) := by decide +kernel
theorem dX7_init_28 : decode cX7_init 28 = .ok (.aload_n 0, 1) := by decide +kernel
theorem dX7_init_29 : decode cX7_init 29 = .ok (.bipush 64, 2) := by decide +kernel
theorem dX7_init_31 : decode cX7_init 31 = .ok (.newarray .boolean, 2) := by decide +kernel
theorem dX7_init_33 : decode cX7_init 33 = .ok (.putfield 19, 3) := by decide +kernel
theorem dX7_init_36 : decode cX7_init 36 = .ok (.aload_n 0, 1) := by decide +kernel
theorem dX7_init_37 : decode cX7_init 37 = .ok (.bipush 12, 2) := by decide +kernel
theorem dX7_init_39 : decode cX7_init 39 = .ok (.newarray .int, 2) := by decide +kernel
theorem dX7_init_41 : decode cX7_init 41 = .ok (.putfield 23, 3) := by decide +kernel
theorem dX7_init_44 : decode cX7_init 44 = .ok (.aload_n 0, 1) := by decide +kernel
theorem dX7_init_45 : decode cX7_init 45 = .ok (.bipush 12, 2) := by decide +kernel
theorem dX7_init_47 : decode cX7_init 47 = .ok (.newarray .int, 2) := by decide +kernel
theorem dX7_init_49 : decode cX7_init 49 = .ok (.putfield 26, 3) := by decide +kernel
theorem dX7_init_52 : decode cX7_init 52 = .ok (.aload_n 0, 1) := by decide +kernel
theorem dX7_init_53 : decode cX7_init 53 = .ok (.bipush 12, 2) := by decide +kernel
theorem dX7_init_55 : decode cX7_init 55 = .ok (.newarray .int, 2) := by decide +kernel
theorem dX7_init_57 : decode cX7_init 57 = .ok (.putfield 29, 3) := by decide +kernel
theorem dX7_init_60 : decode cX7_init 60 = .ok (.aload_n 0, 1) := by decide +kernel
theorem dX7_init_61 : decode cX7_init 61 = .ok (.bipush 12, 2) := by decide +kernel
theorem dX7_init_63 : decode cX7_init 63 = .ok (.newarray .int, 2) := by decide +kernel
theorem dX7_init_65 : decode cX7_init 65 = .ok (.putfield 32, 3) := by decide +kernel
theorem dX7_init_68 : decode cX7_init 68 = .ok (.aload_n 0, 1) := by decide +kernel
theorem dX7_init_69 : decode cX7_init 69 = .ok (.bipush 12, 2) := by decide +kernel
theorem dX7_init_71 : decode cX7_init 71 = .ok (.newarray .int, 2) := by decide +kernel
theorem dX7_init_73 : decode cX7_init 73 = .ok (.putfield 35, 3) := by decide +kernel
theorem dX7_init_76 : decode cX7_init 76 = .ok (.aload_n 0, 1) := by decide +kernel
theorem dX7_init_77 : decode cX7_init 77 = .ok (.bipush 60, 2) := by decide +kernel
theorem dX7_init_79 : decode cX7_init 79 = .ok (.newarray .int, 2) := by decide +kernel
theorem dX7_init_81 : decode cX7_init 81 = .ok (.putfield 38, 3) := by decide +kernel
theorem dX7_init_84 : decode cX7_init 84 = .ok (.aload_n 0, 1) := by decide +kernel
theorem dX7_init_85 : decode cX7_init 85 = .ok (.bipush 60, 2) := by decide +kernel
theorem dX7_init_87 : decode cX7_init 87 = .ok (.newarray .int, 2) := by decide +kernel
theorem dX7_init_89 : decode cX7_init 89 = .ok (.putfield 41, 3) := by decide +kernel
theorem dX7_init_92 : decode cX7_init 92 = .ok (.aload_n 0, 1) := by decide +kernel
theorem dX7_init_93 : decode cX7_init 93 = .ok (.bipush 60, 2) := by decide +kernel
theorem dX7_init_95 : decode cX7_init 95 = .ok (.newarray .int, 2) := by decide +kernel
theorem dX7_init_97 : decode cX7_init 97 = .ok (.putfield 44, 3) := by decide +kernel
theorem dX7_init_100 : decode cX7_init 100 = .ok (.aload_n 0, 1) := by decide +kernel
theorem dX7_init_101 : decode cX7_init 101 = .ok (.bipush 60, 2) := by decide +kernel
theorem dX7_init_103 : decode cX7_init 103 = .ok (.newarray .int, 2) := by decide +kernel
theorem dX7_init_105 : decode cX7_init 105 = .ok (.putfield 47, 3) := by decide +kernel
theorem dX7_init_108 : decode cX7_init 108 = .ok (.aload_n 0, 1) := by decide +kernel
theorem dX7_init_109 : decode cX7_init 109 = .ok (.bipush 60, 2) := by decide +kernel
theorem dX7_init_111 : decode cX7_init 111 = .ok (.newarray .int, 2) := by decide +kernel
theorem dX7_init_113 : decode cX7_init 113 = .ok (.putfield 50, 3) := by decide +kernel
theorem dX7_init_116 : decode cX7_init 116 = .ok (.aload_n 0, 1) := by decide +kernel
theorem dX7_init_117 : decode cX7_init 117 = .ok (.bipush 60, 2) := by decide +kernel
theorem dX7_init_119 : decode cX7_init 119 = .ok (.newarray .int, 2) := by decide +kernel
theorem dX7_init_121 : decode cX7_init 121 = .ok (.putfield 53, 3) := by decide +kernel
theorem dX7_init_124 : decode cX7_init 124 = .ok (.aload_n 0, 1) := by decide +kernel
theorem dX7_init_125 : decode cX7_init 125 = .ok (.iconst (-1), 1) := by decide +kernel
theorem dX7_init_126 : decode cX7_init 126 = .ok (.putfield 56, 3) := by decide +kernel
theorem dX7_init_129 : decode cX7_init 129 = .ok (.aload_n 0, 1) := by decide +kernel
theorem dX7_init_130 : decode cX7_init 130 = .ok (.iconst (-1), 1) := by decide +kernel
theorem dX7_init_131 : decode cX7_init 131 = .ok (.putfield 60, 3) := by decide +kernel
theorem dX7_init_134 : decode cX7_init 134 = .ok (.aload_n 0, 1) := by decide +kernel
theorem dX7_init_135 : decode cX7_init 135 = .ok (.iconst (-1), 1) := by decide +kernel
theorem dX7_init_136 : decode cX7_init 136 = .ok (.putfield 63, 3) := by decide +kernel
theorem dX7_init_139 : decode cX7_init 139 = .ok (.aload_n 0, 1) := by decide +kernel
theorem dX7_init_140 : decode cX7_init 140 = .ok (.sipush 6000, 3) := by decide +kernel
theorem dX7_init_143 : decode cX7_init 143 = .ok (.newarray .int, 2) := by decide +kernel
theorem dX7_init_145 : decode cX7_init 145 = .ok (.putfield 66, 3) := by decide +kernel
theorem dX7_init_148 : decode cX7_init 148 = .ok (.aload_n 0, 1) := by decide +kernel
theorem dX7_init_149 : decode cX7_init 149 = .ok (.sipush 6000, 3) := by decide +kernel
theorem dX7_init_152 : decode cX7_init 152 = .ok (.newarray .int, 2) := by decide +kernel
theorem dX7_init_154 : decode cX7_init 154 = .ok (.putfield 69, 3) := by decide +kernel
theorem dX7_init_157 : decode cX7_init 157 = .ok (.aload_n 0, 1) := by decide +kernel
theorem dX7_init_158 : decode cX7_init 158 = .ok (.sipush 6000, 3) := by decide +kernel
theorem dX7_init_161 : decode cX7_init 161 = .ok (.newarray .int, 2) := by decide +kernel
theorem dX7_init_163 : decode cX7_init 163 = .ok (.putfield 72, 3) := by decide +kernel
theorem dX7_init_166 : decode cX7_init 166 = .ok (.aload_n 0, 1) := by decide +kernel
theorem dX7_init_167 : decode cX7_init 167 = .ok (.ldc 75, 2) := by decide +kernel
theorem dX7_init_169 : decode cX7_init 169 = .ok (.newarray .byte, 2) := by decide +kernel
theorem dX7_init_171 : decode cX7_init 171 = .ok (.putfield 76, 3) := by decide +kernel
theorem dX7_init_174 : decode cX7_init 174 = .ok (.aload_n 0, 1) := by decide +kernel
theorem dX7_init_175 : decode cX7_init 175 = .ok (.sipush 16384, 3) := by decide +kernel
theorem dX7_init_178 : decode cX7_init 178 = .ok (.newarray .int, 2) := by decide +kernel
theorem dX7_init_180 : decode cX7_init 180 = .ok (.putfield 80, 3) := by decide +kernel
theorem dX7_init_183 : decode cX7_init 183 = .ok (.aload_n 0, 1) := by decide +kernel
theorem dX7_init_184 : decode cX7_init 184 = .ok (.sipush 6001, 3) := by decide +kernel
theorem dX7_init_187 : decode cX7_init 187 = .ok (.newarray .int, 2) := by decide +kernel
theorem dX7_init_189 : decode cX7_init 189 = .ok (.putfield 83, 3) := by decide +kernel
theorem dX7_init_192 : decode cX7_init 192 = .ok (.aload_n 0, 1) := by decide +kernel
theorem dX7_init_193 : decode cX7_init 193 = .ok (.sipush 6001, 3) := by decide +kernel
theorem dX7_init_196 : decode cX7_init 196 = .ok (.newarray .int, 2) := by decide +kernel
theorem dX7_init_198 : decode cX7_init 198 = .ok (.putfield 86, 3) := by decide +kernel
theorem dX7_init_201 : decode cX7_init 201 = .ok (.aload_n 0, 1) := by decide +kernel
theorem dX7_init_202 : decode cX7_init 202 = .ok (.sipush 6001, 3) := by decide +kernel
theorem dX7_init_205 : decode cX7_init 205 = .ok (.newarray .int, 2) := by decide +kernel
theorem dX7_init_207 : decode cX7_init 207 = .ok (.putfield 89, 3) := by decide +kernel
theorem dX7_init_210 : decode cX7_init 210 = .ok (.aload_n 0, 1) := by decide +kernel
theorem dX7_init_211 : decode cX7_init 211 = .ok (.sipush 6001, 3) := by decide +kernel
theorem dX7_init_214 : decode cX7_init 214 = .ok (.newarray .int, 2) := by decide +kernel
theorem dX7_init_216 : decode cX7_init 216 = .ok (.putfield 92, 3) := by decide +kernel
theorem dX7_init_219 : decode cX7_init 219 = .ok (.aload_n 0, 1) := by decide +kernel
theorem dX7_init_220 : decode cX7_init 220 = .ok (.sipush 6001, 3) := by decide +kernel
theorem dX7_init_223 : decode cX7_init 223 = .ok (.newarray .int, 2) := by decide +kernel
theorem dX7_init_225 : decode cX7_init 225 = .ok (.putfield 95, 3) := by decide +kernel
theorem dX7_init_228 : decode cX7_init 228 = .ok (.aload_n 0, 1) := by decide +kernel
theorem dX7_init_229 : decode cX7_init 229 = .ok (.sipush 6001, 3) := by decide +kernel
theorem dX7_init_232 : decode cX7_init 232 = .ok (.newarray .int, 2) := by decide +kernel
theorem dX7_init_234 : decode cX7_init 234 = .ok (.putfield 98, 3) := by decide +kernel
theorem dX7_init_237 : decode cX7_init 237 = .ok (.aload_n 0, 1) := by decide +kernel
theorem dX7_init_238 : decode cX7_init 238 = .ok (.sipush 6001, 3) := by decide +kernel
theorem dX7_init_241 : decode cX7_init 241 = .ok (.newarray .int, 2) := by decide +kernel
theorem dX7_init_243 : decode cX7_init 243 = .ok (.putfield 101, 3) := by decide +kernel
theorem dX7_init_246 : decode cX7_init 246 = .ok (.aload_n 0, 1) := by decide +kernel
theorem dX7_init_247 : decode cX7_init 247 = .ok (.sipush 6002, 3) := by decide +kernel
theorem dX7_init_250 : decode cX7_init 250 = .ok (.newarray .int, 2) := by decide +kernel
theorem dX7_init_252 : decode cX7_init 252 = .ok (.putfield 104, 3) := by decide +kernel
theorem dX7_init_255 : decode cX7_init 255 = .ok (.aload_n 0, 1) := by decide +kernel
theorem dX7_init_256 : decode cX7_init 256 = .ok (.ldc 107, 2) := by decide +kernel
theorem dX7_init_258 : decode cX7_init 258 = .ok (.newarray .int, 2) := by decide +kernel
theorem dX7_init_260 : decode cX7_init 260 = .ok (.putfield 108, 3) := by decide +kernel
theorem dX7_init_263 : decode cX7_init 263 = .ok (.aload_n 0, 1) := by decide +kernel
theorem dX7_init_264 : decode cX7_init 264 = .ok (.ldc 107, 2) := by decide +kernel
theorem dX7_init_266 : decode cX7_init 266 = .ok (.newarray .byte, 2) := by decide +kernel
theorem dX7_init_268 : decode cX7_init 268 = .ok (.putfield 111, 3) := by decide +kernel
theorem dX7_init_271 : decode cX7_init 271 = .ok (.aload_n 0, 1) := by decide +kernel
theorem dX7_init_272 : decode cX7_init 272 = .ok (.sipush 6001, 3) := by decide +kernel
theorem dX7_init_275 : decode cX7_init 275 = .ok (.newarray .long, 2) := by decide +kernel
theorem dX7_init_277 : decode cX7_init 277 = .ok (.putfield 114, 3) := by decide +kernel
theorem dX7_init_280 : decode cX7_init 280 = .ok (.aload_n 0, 1) := by decide +kernel
theorem dX7_init_281 : decode cX7_init 281 = .ok (.bipush 64, 2) := by decide +kernel
theorem dX7_init_283 : decode cX7_init 283 = .ok (.newarray .int, 2) := by decide +kernel
theorem dX7_init_285 : decode cX7_init 285 = .ok (.putfield 118, 3) := by decide +kernel
theorem dX7_init_288 : decode cX7_init 288 = .ok (.aload_n 0, 1) := by decide +kernel
theorem dX7_init_289 : decode cX7_init 289 = .ok (.bipush 12, 2) := by decide +kernel
theorem dX7_init_291 : decode cX7_init 291 = .ok (.newarray .int, 2) := by decide +kernel
theorem dX7_init_293 : decode cX7_init 293 = .ok (.putfield 121, 3) := by decide +kernel
theorem dX7_init_296 : decode cX7_init 296 = .ok (.aload_n 0, 1) := by decide +kernel
theorem dX7_init_297 : decode cX7_init 297 = .ok (.iconst 4, 1) := by decide +kernel
theorem dX7_init_298 : decode cX7_init 298 = .ok (.newarray .boolean, 2) := by decide +kernel
theorem dX7_init_300 : decode cX7_init 300 = .ok (.putfield 124, 3) := by decide +kernel
theorem dX7_init_303 : decode cX7_init 303 = .ok (.aload_n 0, 1) := by decide +kernel
theorem dX7_init_304 : decode cX7_init 304 = .ok (.iconst 4, 1) := by decide +kernel
theorem dX7_init_305 : decode cX7_init 305 = .ok (.newarray .int, 2) := by decide +kernel
theorem dX7_init_307 : decode cX7_init 307 = .ok (.putfield 127, 3) := by decide +kernel
theorem dX7_init_310 : decode cX7_init 310 = .ok (.aload_n 0, 1) := by decide +kernel
theorem dX7_init_311 : decode cX7_init 311 = .ok (.iconst 4, 1) := by decide +kernel
theorem dX7_init_312 : decode cX7_init 312 = .ok (.newarray .int, 2) := by decide +kernel
theorem dX7_init_314 : decode cX7_init 314 = .ok (.putfield 130, 3) := by decide +kernel
theorem dX7_init_317 : decode cX7_init 317 = .ok (.aload_n 0, 1) := by decide +kernel
theorem dX7_init_318 : decode cX7_init 318 = .ok (.iconst 4, 1) := by decide +kernel
theorem dX7_init_319 : decode cX7_init 319 = .ok (.newarray .int, 2) := by decide +kernel
theorem dX7_init_321 : decode cX7_init 321 = .ok (.putfield 133, 3) := by decide +kernel
theorem dX7_init_324 : decode cX7_init 324 = .ok (.aload_n 0, 1) := by decide +kernel
theorem dX7_init_325 : decode cX7_init 325 = .ok (.sipush 256, 3) := by decide +kernel
theorem dX7_init_328 : decode cX7_init 328 = .ok (.newarray .boolean, 2) := by decide +kernel
theorem dX7_init_330 : decode cX7_init 330 = .ok (.putfield 136, 3) := by decide +kernel
theorem dX7_init_333 : decode cX7_init 333 = .ok (.aload_n 0, 1) := by decide +kernel
theorem dX7_init_334 : decode cX7_init 334 = .ok (.bipush 48, 2) := by decide +kernel
theorem dX7_init_336 : decode cX7_init 336 = .ok (.newarray .int, 2) := by decide +kernel
theorem dX7_init_338 : decode cX7_init 338 = .ok (.putfield 139, 3) := by decide +kernel
theorem dX7_init_341 : decode cX7_init 341 = .ok (.aload_n 0, 1) := by decide +kernel
theorem dX7_init_342 : decode cX7_init 342 = .ok (.bipush 48, 2) := by decide +kernel
theorem dX7_init_344 : decode cX7_init 344 = .ok (.newarray .int, 2) := by decide +kernel
theorem dX7_init_346 : decode cX7_init 346 = .ok (.putfield 142, 3) := by decide +kernel
theorem dX7_init_349 : decode cX7_init 349 = .ok (.aload_n 0, 1) := by decide +kernel
theorem dX7_init_350 : decode cX7_init 350 = .ok (.bipush 48, 2) := by decide +kernel
theorem dX7_init_352 : decode cX7_init 352 = .ok (.newarray .int, 2) := by decide +kernel
theorem dX7_init_354 : decode cX7_init 354 = .ok (.putfield 145, 3) := by decide +kernel
theorem dX7_init_357 : decode cX7_init 357 = .ok (.aload_n 0, 1) := by decide +kernel
theorem dX7_init_358 : decode cX7_init 358 = .ok (.bipush 48, 2) := by decide +kernel
theorem dX7_init_360 : decode cX7_init 360 = .ok (.newarray .int, 2) := by decide +kernel
theorem dX7_init_362 : decode cX7_init 362 = .ok (.putfield 148, 3) := by decide +kernel
theorem dX7_init_365 : decode cX7_init 365 = .ok (.aload_n 0, 1) := by decide +kernel
theorem dX7_init_366 : decode cX7_init 366 = .ok (.bipush 48, 2) := by decide +kernel
theorem dX7_init_368 : decode cX7_init 368 = .ok (.newarray .int, 2) := by decide +kernel
theorem dX7_init_370 : decode cX7_init 370 = .ok (.putfield 151, 3) := by decide +kernel
theorem dX7_init_373 : decode cX7_init 373 = .ok (.aload_n 0, 1) := by decide +kernel
theorem dX7_init_374 : decode cX7_init 374 = .ok (.bipush 8, 2) := by decide +kernel
theorem dX7_init_376 : decode cX7_init 376 = .ok (.newarray .byte, 2) := by decide +kernel
theorem dX7_init_378 : decode cX7_init 378 = .ok (.putfield 154, 3) := by decide +kernel
theorem dX7_init_381 : decode cX7_init 381 = .ok (.aload_n 0, 1) := by decide +kernel
theorem dX7_init_382 : decode cX7_init 382 = .ok (.bipush 12, 2) := by decide +kernel
theorem dX7_init_384 : decode cX7_init 384 = .ok (.newarray .boolean, 2) := by decide +kernel
theorem dX7_init_386 : decode cX7_init 386 = .ok (.putfield 157, 3) := by decide +kernel
theorem dX7_init_389 : decode cX7_init 389 = .ok (.aload_n 0, 1) := by decide +kernel
theorem dX7_init_390 : decode cX7_init 390 = .ok (.bipush 8, 2) := by decide +kernel
theorem dX7_init_392 : decode cX7_init 392 = .ok (.newarray .int, 2) := by decide +kernel
theorem dX7_init_394 : decode cX7_init 394 = .ok (.putfield 160, 3) := by decide +kernel
theorem dX7_init_397 : decode cX7_init 397 = .ok (.aload_n 0, 1) := by decide +kernel
theorem dX7_init_398 : decode cX7_init 398 = .ok (.bipush 64, 2) := by decide +kernel
theorem dX7_init_400 : decode cX7_init 400 = .ok (.newarray .boolean, 2) := by decide +kernel
theorem dX7_init_402 : decode cX7_init 402 = .ok (.putfield 163, 3) := by decide +kernel
theorem dX7_init_405 : decode cX7_init 405 = .ok (.aload_n 0, 1) := by decide +kernel
theorem dX7_init_406 : decode cX7_init 406 = .ok (.bipush 12, 2) := by decide +kernel
theorem dX7_init_408 : decode cX7_init 408 = .ok (.newarray .int, 2) := by decide +kernel
theorem dX7_init_410 : decode cX7_init 410 = .ok (.putfield 166, 3) := by decide +kernel
theorem dX7_init_413 : decode cX7_init 413 = .ok (.aload_n 0, 1) := by decide +kernel
theorem dX7_init_414 : decode cX7_init 414 = .ok (.bipush 12, 2) := by decide +kernel
theorem dX7_init_416 : decode cX7_init 416 = .ok (.newarray .int, 2) := by decide +kernel
theorem dX7_init_418 : decode cX7_init 418 = .ok (.putfield 169, 3) := by decide +kernel
theorem dX7_init_421 : decode cX7_init 421 = .ok (.aload_n 0, 1) := by decide +kernel
theorem dX7_init_422 : decode cX7_init 422 = .ok (.bipush 12, 2) := by decide +kernel
theorem dX7_init_424 : decode cX7_init 424 = .ok (.newarray .int, 2) := by decide +kernel
theorem dX7_init_426 : decode cX7_init 426 = .ok (.putfield 172, 3) := by decide +kernel
theorem dX7_init_429 : decode cX7_init 429 = .ok (.aload_n 0, 1) := by decide +kernel
theorem dX7_init_430 : decode cX7_init 430 = .ok (.bipush 12, 2) := by decide +kernel
theorem dX7_init_432 : decode cX7_init 432 = .ok (.newarray .int, 2) := by decide +kernel
theorem dX7_init_434 : decode cX7_init 434 = .ok (.putfield 175, 3) := by decide +kernel
theorem dX7_init_437 : decode cX7_init 437 = .ok (.aload_n 0, 1) := by decide +kernel
theorem dX7_init_438 : decode cX7_init 438 = .ok (.bipush 12, 2) := by decide +kernel
theorem dX7_init_440 : decode cX7_init 440 = .ok (.newarray .int, 2) := by decide +kernel
theorem dX7_init_442 : decode cX7_init 442 = .ok (.putfield 178, 3) := by decide +kernel
theorem dX7_init_445 : decode cX7_init 445 = .ok (.aload_n 0, 1) := by decide +kernel
theorem dX7_init_446 : decode cX7_init 446 = .ok (.bipush 64, 2) := by decide +kernel
theorem dX7_init_448 : decode cX7_init 448 = .ok (.newarray .boolean, 2) := by decide +kernel
theorem dX7_init_450 : decode cX7_init 450 = .ok (.putfield 181, 3) := by decide +kernel
theorem dX7_init_453 : decode cX7_init 453 = .ok (.return_, 1) := by decide +kernel
theorem dX7_thrown_0 : decode cX7_thrown 0 = .ok (.aload_n 0, 1) := by decide +kernel
theorem dX7_thrown_1 : decode cX7_thrown 1 = .ok (.getfield 184, 3) := by decide +kernel
theorem dX7_thrown_4 : decode cX7_thrown 4 = .ok (.ireturn, 1) := by decide +kernel
theorem dX7_refuse_0 : decode cX7_refuse 0 = .ok (.aload_n 0, 1) := by decide +kernel
theorem dX7_refuse_1 : decode cX7_refuse 1 = .ok (.iload_n 1, 1) := by decide +kernel
theorem dX7_refuse_2 : decode cX7_refuse 2 = .ok (.putfield 187, 3) := by decide +kernel
theorem dX7_refuse_5 : decode cX7_refuse 5 = .ok (.iconst (-1), 1) := by decide +kernel
theorem dX7_refuse_6 : decode cX7_refuse 6 = .ok (.ireturn, 1) := by decide +kernel
theorem dX7_no_0 : decode cX7_no 0 = .ok (.aload_n 0, 1) := by decide +kernel
theorem dX7_no_1 : decode cX7_no 1 = .ok (.iload_n 1, 1) := by decide +kernel
theorem dX7_no_2 : decode cX7_no 2 = .ok (.putfield 187, 3) := by decide +kernel
theorem dX7_no_5 : decode cX7_no 5 = .ok (.iconst 0, 1) := by decide +kernel
theorem dX7_no_6 : decode cX7_no 6 = .ok (.ireturn, 1) := by decide +kernel
theorem dX7_status_0 : decode cX7_status 0 = .ok (.aload_n 0, 1) := by decide +kernel
theorem dX7_status_1 : decode cX7_status 1 = .ok (.iconst 0, 1) := by decide +kernel
theorem dX7_status_2 : decode cX7_status 2 = .ok (.putfield 184, 3) := by decide +kernel
theorem dX7_status_5 : decode cX7_status 5 = .ok (.aload_n 0, 1) := by decide +kernel
theorem dX7_status_6 : decode cX7_status 6 = .ok (.getfield 187, 3) := by decide +kernel
theorem dX7_status_9 : decode cX7_status 9 = .ok (.ireturn, 1) := by decide +kernel
theorem dX7_isField_0 : decode cX7_isField 0 = .ok (.iload_n 1, 1) := by decide +kernel
theorem dX7_isField_1 : decode cX7_isField 1 = .ok (.ifCond .lt 27, 3) := by decide +kernel
theorem dX7_isField_4 : decode cX7_isField 4 = .ok (.iload_n 1, 1) := by decide +kernel
theorem dX7_isField_5 : decode cX7_isField 5 = .ok (.aload_n 0, 1) := by decide +kernel
theorem dX7_isField_6 : decode cX7_isField 6 = .ok (.getfield 190, 3) := by decide +kernel
theorem dX7_isField_9 : decode cX7_isField 9 = .ok (.if_icmp .ge 19, 3) := by decide +kernel
theorem dX7_isField_12 : decode cX7_isField 12 = .ok (.iload_n 2, 1) := by decide +kernel
theorem dX7_isField_13 : decode cX7_isField 13 = .ok (.ifCond .lt 15, 3) := by decide +kernel
theorem dX7_isField_16 : decode cX7_isField 16 = .ok (.iload_n 2, 1) := by decide +kernel
theorem dX7_isField_17 : decode cX7_isField 17 = .ok (.aload_n 0, 1) := by decide +kernel
theorem dX7_isField_18 : decode cX7_isField 18 = .ok (.getfield 193, 3) := by decide +kernel
theorem dX7_isField_21 : decode cX7_isField 21 = .ok (.if_icmp .ge 7, 3) := by decide +kernel
theorem dX7_isField_24 : decode cX7_isField 24 = .ok (.iconst 1, 1) := by decide +kernel
theorem dX7_isField_25 : decode cX7_isField 25 = .ok (.goto 4, 3) := by decide +kernel
theorem dX7_isField_28 : decode cX7_isField 28 = .ok (.iconst 0, 1) := by decide +kernel
theorem dX7_isField_29 : decode cX7_isField 29 = .ok (.ireturn, 1) := by decide +kernel
theorem dX7_clearUndo_0 : decode cX7_clearUndo 0 = .ok (.aload_n 0, 1) := by decide +kernel
theorem dX7_clearUndo_1 : decode cX7_clearUndo 1 = .ok (.iconst 0, 1) := by decide +kernel
theorem dX7_clearUndo_2 : decode cX7_clearUndo 2 = .ok (.putfield 196, 3) := by decide +kernel
theorem dX7_clearUndo_5 : decode cX7_clearUndo 5 = .ok (.aload_n 0, 1) := by decide +kernel
theorem dX7_clearUndo_6 : decode cX7_clearUndo 6 = .ok (.iconst 0, 1) := by decide +kernel
theorem dX7_clearUndo_7 : decode cX7_clearUndo 7 = .ok (.putfield 199, 3) := by decide +kernel
theorem dX7_clearUndo_10 : decode cX7_clearUndo 10 = .ok (.return_, 1) := by decide +kernel
theorem dX7_isLong_0 : decode cX7_isLong 0 = .ok (.aload_n 0, 1) := by decide +kernel
theorem dX7_isLong_1 : decode cX7_isLong 1 = .ok (.getfield 23, 3) := by decide +kernel
theorem dX7_isLong_4 : decode cX7_isLong 4 = .ok (.iload_n 1, 1) := by decide +kernel
theorem dX7_isLong_5 : decode cX7_isLong 5 = .ok (.iaload, 1) := by decide +kernel
theorem dX7_isLong_6 : decode cX7_isLong 6 = .ok (.iconst 1, 1) := by decide +kernel
theorem dX7_isLong_7 : decode cX7_isLong 7 = .ok (.if_icmp .eq 13, 3) := by decide +kernel
theorem dX7_isLong_10 : decode cX7_isLong 10 = .ok (.aload_n 0, 1) := by decide +kernel
theorem dX7_isLong_11 : decode cX7_isLong 11 = .ok (.getfield 23, 3) := by decide +kernel
theorem dX7_isLong_14 : decode cX7_isLong 14 = .ok (.iload_n 1, 1) := by decide +kernel
theorem dX7_isLong_15 : decode cX7_isLong 15 = .ok (.iaload, 1) := by decide +kernel
theorem dX7_isLong_16 : decode cX7_isLong 16 = .ok (.iconst 5, 1) := by decide +kernel
theorem dX7_isLong_17 : decode cX7_isLong 17 = .ok (.if_icmp .ne 7, 3) := by decide +kernel
theorem dX7_isLong_20 : decode cX7_isLong 20 = .ok (.iconst 1, 1) := by decide +kernel
theorem dX7_isLong_21 : decode cX7_isLong 21 = .ok (.goto 4, 3) := by decide +kernel
theorem dX7_isLong_24 : decode cX7_isLong 24 = .ok (.iconst 0, 1) := by decide +kernel
theorem dX7_isLong_25 : decode cX7_isLong 25 = .ok (.ireturn, 1) := by decide +kernel
set_option maxRecDepth 20000 in
theorem mc_X7_wide_X70 : mjIn wsX7_wide wsX70 := fun w h => (List.mem_cons_of_mem _ (List.mem_append_right _ h))
set_option maxRecDepth 20000 in
theorem ggX7_wide_X7_isLong : GoodIn wsX7_wide wsX7_isLong := mj_good (mj_cons (List.mem_of_getElem? (i := 8) rfl) (mj_app (mj_cons (List.mem_of_getElem? (i := 1) rfl) mj_nil) mc_X7_wide_X70)) (by decide +kernel)
set_option maxRecDepth 20000 in
theorem gX7_wide_X7_isLong : GoodIn wsX7_wide (wsV RX7 202 RX7 yX7_isLong wsX7_isLong) := goodIn_app (mj_good (mj_cons (List.mem_of_getElem? (i := 4) rfl) (mj_cons (List.mem_of_getElem? (i := 5) rfl) (mj_cons (List.mem_of_getElem? (i := 6) rfl) (mj_cons (List.mem_of_getElem? (i := 7) rfl) mj_nil)))) (by decide +kernel)) ggX7_wide_X7_isLong
theorem dX7_wide_0 : decode cX7_wide 0 = .ok (.aload_n 0, 1) := by decide +kernel
theorem dX7_wide_1 : decode cX7_wide 1 = .ok (.getfield 23, 3) := by decide +kernel
theorem dX7_wide_4 : decode cX7_wide 4 = .ok (.iload_n 1, 1) := by decide +kernel
theorem dX7_wide_5 : decode cX7_wide 5 = .ok (.iaload, 1) := by decide +kernel
theorem dX7_wide_6 : decode cX7_wide 6 = .ok (.iconst 3, 1) := by decide +kernel
theorem dX7_wide_7 : decode cX7_wide 7 = .ok (.if_icmp .ne 7, 3) := by decide +kernel
theorem dX7_wide_10 : decode cX7_wide 10 = .ok (.iconst 2, 1) := by decide +kernel
theorem dX7_wide_11 : decode cX7_wide 11 = .ok (.goto 30, 3) := by decide +kernel
theorem dX7_wide_14 : decode cX7_wide 14 = .ok (.aload_n 0, 1) := by decide +kernel
theorem dX7_wide_15 : decode cX7_wide 15 = .ok (.iload_n 1, 1) := by decide +kernel
theorem dX7_wide_16 : decode cX7_wide 16 = .ok (.invokevirtual 202, 3) := by decide +kernel
theorem dX7_wide_19 : decode cX7_wide 19 = .ok (.ifCond .eq 21, 3) := by decide +kernel
theorem dX7_wide_22 : decode cX7_wide 22 = .ok (.aload_n 0, 1) := by decide +kernel
theorem dX7_wide_23 : decode cX7_wide 23 = .ok (.getfield 32, 3) := by decide +kernel
theorem dX7_wide_26 : decode cX7_wide 26 = .ok (.iload_n 1, 1) := by decide +kernel
theorem dX7_wide_27 : decode cX7_wide 27 = .ok (.iaload, 1) := by decide +kernel
theorem dX7_wide_28 : decode cX7_wide 28 = .ok (.ifCond .ne 12, 3) := by decide +kernel
theorem dX7_wide_31 : decode cX7_wide 31 = .ok (.aload_n 0, 1) := by decide +kernel
theorem dX7_wide_32 : decode cX7_wide 32 = .ok (.getfield 29, 3) := by decide +kernel
theorem dX7_wide_35 : decode cX7_wide 35 = .ok (.iload_n 1, 1) := by decide +kernel
theorem dX7_wide_36 : decode cX7_wide 36 = .ok (.iaload, 1) := by decide +kernel
theorem dX7_wide_37 : decode cX7_wide 37 = .ok (.goto 4, 3) := by decide +kernel
theorem dX7_wide_40 : decode cX7_wide 40 = .ok (.iconst 1, 1) := by decide +kernel
theorem dX7_wide_41 : decode cX7_wide 41 = .ok (.ireturn, 1) := by decide +kernel
set_option maxRecDepth 20000 in
theorem mc_X7_tall_X70 : mjIn wsX7_tall wsX70 := fun w h => (List.mem_cons_of_mem _ (List.mem_append_right _ h))
set_option maxRecDepth 20000 in
theorem ggX7_tall_X7_isLong : GoodIn wsX7_tall wsX7_isLong := mj_good (mj_cons (List.mem_of_getElem? (i := 8) rfl) (mj_app (mj_cons (List.mem_of_getElem? (i := 1) rfl) mj_nil) mc_X7_tall_X70)) (by decide +kernel)
set_option maxRecDepth 20000 in
theorem gX7_tall_X7_isLong : GoodIn wsX7_tall (wsV RX7 202 RX7 yX7_isLong wsX7_isLong) := goodIn_app (mj_good (mj_cons (List.mem_of_getElem? (i := 4) rfl) (mj_cons (List.mem_of_getElem? (i := 5) rfl) (mj_cons (List.mem_of_getElem? (i := 6) rfl) (mj_cons (List.mem_of_getElem? (i := 7) rfl) mj_nil)))) (by decide +kernel)) ggX7_tall_X7_isLong
theorem dX7_tall_0 : decode cX7_tall 0 = .ok (.aload_n 0, 1) := by decide +kernel
theorem dX7_tall_1 : decode cX7_tall 1 = .ok (.getfield 23, 3) := by decide +kernel
theorem dX7_tall_4 : decode cX7_tall 4 = .ok (.iload_n 1, 1) := by decide +kernel
theorem dX7_tall_5 : decode cX7_tall 5 = .ok (.iaload, 1) := by decide +kernel
theorem dX7_tall_6 : decode cX7_tall 6 = .ok (.iconst 3, 1) := by decide +kernel
theorem dX7_tall_7 : decode cX7_tall 7 = .ok (.if_icmp .ne 7, 3) := by decide +kernel
theorem dX7_tall_10 : decode cX7_tall 10 = .ok (.iconst 2, 1) := by decide +kernel
theorem dX7_tall_11 : decode cX7_tall 11 = .ok (.goto 31, 3) := by decide +kernel
theorem dX7_tall_14 : decode cX7_tall 14 = .ok (.aload_n 0, 1) := by decide +kernel
theorem dX7_tall_15 : decode cX7_tall 15 = .ok (.iload_n 1, 1) := by decide +kernel
theorem dX7_tall_16 : decode cX7_tall 16 = .ok (.invokevirtual 202, 3) := by decide +kernel
theorem dX7_tall_19 : decode cX7_tall 19 = .ok (.ifCond .eq 22, 3) := by decide +kernel
theorem dX7_tall_22 : decode cX7_tall 22 = .ok (.aload_n 0, 1) := by decide +kernel
theorem dX7_tall_23 : decode cX7_tall 23 = .ok (.getfield 32, 3) := by decide +kernel
theorem dX7_tall_26 : decode cX7_tall 26 = .ok (.iload_n 1, 1) := by decide +kernel
theorem dX7_tall_27 : decode cX7_tall 27 = .ok (.iaload, 1) := by decide +kernel
theorem dX7_tall_28 : decode cX7_tall 28 = .ok (.iconst 1, 1) := by decide +kernel
theorem dX7_tall_29 : decode cX7_tall 29 = .ok (.if_icmp .ne 12, 3) := by decide +kernel
theorem dX7_tall_32 : decode cX7_tall 32 = .ok (.aload_n 0, 1) := by decide +kernel
theorem dX7_tall_33 : decode cX7_tall 33 = .ok (.getfield 29, 3) := by decide +kernel
theorem dX7_tall_36 : decode cX7_tall 36 = .ok (.iload_n 1, 1) := by decide +kernel
theorem dX7_tall_37 : decode cX7_tall 37 = .ok (.iaload, 1) := by decide +kernel
theorem dX7_tall_38 : decode cX7_tall 38 = .ok (.goto 4, 3) := by decide +kernel
theorem dX7_tall_41 : decode cX7_tall 41 = .ok (.iconst 1, 1) := by decide +kernel
theorem dX7_tall_42 : decode cX7_tall 42 = .ok (.ireturn, 1) := by decide +kernel
theorem dX7_clearWho_0 : decode cX7_clearWho 0 = .ok (.iconst 0, 1) := by decide +kernel
theorem dX7_clearWho_1 : decode cX7_clearWho 1 = .ok (.istore_n 1, 1) := by decide +kernel
theorem dX7_clearWho_2 : decode cX7_clearWho 2 = .ok (.iload_n 1, 1) := by decide +kernel
theorem dX7_clearWho_3 : decode cX7_clearWho 3 = .ok (.bipush 64, 2) := by decide +kernel
theorem dX7_clearWho_5 : decode cX7_clearWho 5 = .ok (.if_icmp .ge 16, 3) := by decide +kernel
theorem dX7_clearWho_8 : decode cX7_clearWho 8 = .ok (.aload_n 0, 1) := by decide +kernel
theorem dX7_clearWho_9 : decode cX7_clearWho 9 = .ok (.getfield 118, 3) := by decide +kernel
theorem dX7_clearWho_12 : decode cX7_clearWho 12 = .ok (.iload_n 1, 1) := by decide +kernel
theorem dX7_clearWho_13 : decode cX7_clearWho 13 = .ok (.iconst (-1), 1) := by decide +kernel
theorem dX7_clearWho_14 : decode cX7_clearWho 14 = .ok (.iastore, 1) := by decide +kernel
theorem dX7_clearWho_15 : decode cX7_clearWho 15 = .ok (.iinc 1 1, 3) := by decide +kernel
theorem dX7_clearWho_18 : decode cX7_clearWho 18 = .ok (.goto (-16), 3) := by decide +kernel
theorem dX7_clearWho_21 : decode cX7_clearWho 21 = .ok (.return_, 1) := by decide +kernel
set_option maxRecDepth 20000 in
theorem mc_X7_lay_X70 : mjIn wsX7_lay wsX70 := fun w h => (List.mem_cons_of_mem _ (List.mem_append_right _ h))
set_option maxRecDepth 20000 in
theorem ggX7_lay_X7_tall : GoodIn wsX7_lay wsX7_tall := mj_good (mj_cons (List.mem_of_getElem? (i := 6) rfl) (mj_app (mj_cons (List.mem_of_getElem? (i := 7) rfl) (mj_cons (List.mem_of_getElem? (i := 8) rfl) (mj_cons (List.mem_of_getElem? (i := 9) rfl) (mj_cons (List.mem_of_getElem? (i := 10) rfl) (mj_cons (List.mem_of_getElem? (i := 11) rfl) (mj_cons (List.mem_of_getElem? (i := 12) rfl) (mj_cons (List.mem_of_getElem? (i := 5) rfl) (mj_cons (List.mem_of_getElem? (i := 13) rfl) mj_nil)))))))) mc_X7_lay_X70)) (by decide +kernel)
set_option maxRecDepth 20000 in
theorem gX7_lay_X7_tall : GoodIn wsX7_lay (wsV RX7 206 RX7 yX7_tall wsX7_tall) := goodIn_app (mj_good (mj_cons (List.mem_of_getElem? (i := 2) rfl) (mj_cons (List.mem_of_getElem? (i := 3) rfl) (mj_cons (List.mem_of_getElem? (i := 4) rfl) (mj_cons (List.mem_of_getElem? (i := 5) rfl) mj_nil)))) (by decide +kernel)) ggX7_lay_X7_tall
set_option maxRecDepth 20000 in
theorem ggX7_lay_X7_wide : GoodIn wsX7_lay wsX7_wide := mj_good (mj_cons (List.mem_of_getElem? (i := 17) rfl) (mj_app (mj_cons (List.mem_of_getElem? (i := 7) rfl) (mj_cons (List.mem_of_getElem? (i := 8) rfl) (mj_cons (List.mem_of_getElem? (i := 9) rfl) (mj_cons (List.mem_of_getElem? (i := 10) rfl) (mj_cons (List.mem_of_getElem? (i := 11) rfl) (mj_cons (List.mem_of_getElem? (i := 12) rfl) (mj_cons (List.mem_of_getElem? (i := 5) rfl) (mj_cons (List.mem_of_getElem? (i := 13) rfl) mj_nil)))))))) mc_X7_lay_X70)) (by decide +kernel)
set_option maxRecDepth 20000 in
theorem gX7_lay_X7_wide : GoodIn wsX7_lay (wsV RX7 210 RX7 yX7_wide wsX7_wide) := goodIn_app (mj_good (mj_cons (List.mem_of_getElem? (i := 14) rfl) (mj_cons (List.mem_of_getElem? (i := 15) rfl) (mj_cons (List.mem_of_getElem? (i := 16) rfl) (mj_cons (List.mem_of_getElem? (i := 5) rfl) mj_nil)))) (by decide +kernel)) ggX7_lay_X7_wide
theorem dX7_lay_0 : decode cX7_lay 0 = .ok (.iconst 0, 1) := by decide +kernel
theorem dX7_lay_1 : decode cX7_lay 1 = .ok (.istore 4, 2) := by decide +kernel
theorem dX7_lay_3 : decode cX7_lay 3 = .ok (.iload 4, 2) := by decide +kernel
theorem dX7_lay_5 : decode cX7_lay 5 = .ok (.aload_n 0, 1) := by decide +kernel
theorem dX7_lay_6 : decode cX7_lay 6 = .ok (.iload_n 1, 1) := by decide +kernel
theorem dX7_lay_7 : decode cX7_lay 7 = .ok (.invokevirtual 206, 3) := by decide +kernel
theorem dX7_lay_10 : decode cX7_lay 10 = .ok (.if_icmp .ge 44, 3) := by decide +kernel
theorem dX7_lay_13 : decode cX7_lay 13 = .ok (.iconst 0, 1) := by decide +kernel
theorem dX7_lay_14 : decode cX7_lay 14 = .ok (.istore 5, 2) := by decide +kernel
theorem dX7_lay_16 : decode cX7_lay 16 = .ok (.iload 5, 2) := by decide +kernel
theorem dX7_lay_18 : decode cX7_lay 18 = .ok (.aload_n 0, 1) := by decide +kernel
theorem dX7_lay_19 : decode cX7_lay 19 = .ok (.iload_n 1, 1) := by decide +kernel
theorem dX7_lay_20 : decode cX7_lay 20 = .ok (.invokevirtual 210, 3) := by decide +kernel
theorem dX7_lay_23 : decode cX7_lay 23 = .ok (.if_icmp .ge 25, 3) := by decide +kernel
theorem dX7_lay_26 : decode cX7_lay 26 = .ok (.aload_n 0, 1) := by decide +kernel
theorem dX7_lay_27 : decode cX7_lay 27 = .ok (.getfield 118, 3) := by decide +kernel
theorem dX7_lay_30 : decode cX7_lay 30 = .ok (.iload_n 2, 1) := by decide +kernel
theorem dX7_lay_31 : decode cX7_lay 31 = .ok (.iload 5, 2) := by decide +kernel
theorem dX7_lay_33 : decode cX7_lay 33 = .ok (.iadd, 1) := by decide +kernel
theorem dX7_lay_34 : decode cX7_lay 34 = .ok (.bipush 8, 2) := by decide +kernel
theorem dX7_lay_36 : decode cX7_lay 36 = .ok (.iload 4, 2) := by decide +kernel
theorem dX7_lay_38 : decode cX7_lay 38 = .ok (.imul, 1) := by decide +kernel
theorem dX7_lay_39 : decode cX7_lay 39 = .ok (.iadd, 1) := by decide +kernel
theorem dX7_lay_40 : decode cX7_lay 40 = .ok (.iload_n 3, 1) := by decide +kernel
theorem dX7_lay_41 : decode cX7_lay 41 = .ok (.iastore, 1) := by decide +kernel
theorem dX7_lay_42 : decode cX7_lay 42 = .ok (.iinc 5 1, 3) := by decide +kernel
theorem dX7_lay_45 : decode cX7_lay 45 = .ok (.goto (-29), 3) := by decide +kernel
theorem dX7_lay_48 : decode cX7_lay 48 = .ok (.iinc 4 1, 3) := by decide +kernel
theorem dX7_lay_51 : decode cX7_lay 51 = .ok (.goto (-48), 3) := by decide +kernel
theorem dX7_lay_54 : decode cX7_lay 54 = .ok (.return_, 1) := by decide +kernel
set_option maxRecDepth 20000 in
theorem mc_X7_layAll_X7_layAll_r1 : mjIn wsX7_layAll wsX7_layAll_r1 := fun w h => (List.mem_cons_of_mem _ (List.mem_append_left _ (List.mem_append_left _ h)))
set_option maxRecDepth 20000 in
theorem mc_X7_layAll_X70 : mjIn wsX7_layAll wsX70 := fun w h => (List.mem_cons_of_mem _ (List.mem_append_right _ h))
set_option maxRecDepth 20000 in
theorem ggX7_layAll_X7_clearWho : GoodIn wsX7_layAll wsX7_clearWho := mj_good (mj_cons (mc_X7_layAll_X7_layAll_r1 _ (List.mem_of_getElem? (i := 7) rfl)) (mj_app (mj_cons (mc_X7_layAll_X7_layAll_r1 _ (List.mem_of_getElem? (i := 8) rfl)) mj_nil) mc_X7_layAll_X70)) (by decide +kernel)
set_option maxRecDepth 20000 in
theorem gX7_layAll_X7_clearWho : GoodIn wsX7_layAll (wsV RX7 213 RX7 yX7_clearWho wsX7_clearWho) := goodIn_app (mj_good (mj_cons (mc_X7_layAll_X7_layAll_r1 _ (List.mem_of_getElem? (i := 3) rfl)) (mj_cons (mc_X7_layAll_X7_layAll_r1 _ (List.mem_of_getElem? (i := 4) rfl)) (mj_cons (mc_X7_layAll_X7_layAll_r1 _ (List.mem_of_getElem? (i := 5) rfl)) (mj_cons (mc_X7_layAll_X7_layAll_r1 _ (List.mem_of_getElem? (i := 6) rfl)) mj_nil)))) (by decide +kernel)) ggX7_layAll_X7_clearWho
set_option maxRecDepth 20000 in
theorem mc_X7_layAll_X7_layAll_r2 : mjIn wsX7_layAll wsX7_layAll_r2 := fun w h => (List.mem_cons_of_mem _ (List.mem_append_left _ (List.mem_append_right _ h)))
set_option maxRecDepth 20000 in
theorem ggX7_layAll_X7_lay : GoodIn wsX7_layAll wsX7_lay := mj_good (mj_cons (mc_X7_layAll_X7_layAll_r1 _ (List.mem_of_getElem? (i := 12) rfl)) (mj_app (mj_cons (mc_X7_layAll_X7_layAll_r1 _ (List.mem_of_getElem? (i := 8) rfl)) (mj_cons (mc_X7_layAll_X7_layAll_r1 _ (List.mem_of_getElem? (i := 13) rfl)) (mj_cons (mc_X7_layAll_X7_layAll_r1 _ (List.mem_of_getElem? (i := 14) rfl)) (mj_cons (mc_X7_layAll_X7_layAll_r1 _ (List.mem_of_getElem? (i := 15) rfl)) (mj_cons (mc_X7_layAll_X7_layAll_r1 _ (List.mem_of_getElem? (i := 6) rfl)) (mj_cons (mc_X7_layAll_X7_layAll_r1 _ (List.mem_of_getElem? (i := 16) rfl)) (mj_cons (mc_X7_layAll_X7_layAll_r1 _ (List.mem_of_getElem? (i := 17) rfl)) (mj_cons (mc_X7_layAll_X7_layAll_r1 _ (List.mem_of_getElem? (i := 18) rfl)) (mj_cons (mc_X7_layAll_X7_layAll_r1 _ (List.mem_of_getElem? (i := 19) rfl)) (mj_cons (mc_X7_layAll_X7_layAll_r1 _ (List.mem_of_getElem? (i := 20) rfl)) (mj_cons (mc_X7_layAll_X7_layAll_r1 _ (List.mem_of_getElem? (i := 21) rfl)) (mj_cons (mc_X7_layAll_X7_layAll_r1 _ (List.mem_of_getElem? (i := 22) rfl)) (mj_cons (mc_X7_layAll_X7_layAll_r1 _ (List.mem_of_getElem? (i := 23) rfl)) (mj_cons (mc_X7_layAll_X7_layAll_r2 _ (List.mem_of_getElem? (i := 0) rfl)) (mj_cons (mc_X7_layAll_X7_layAll_r2 _ (List.mem_of_getElem? (i := 1) rfl)) (mj_cons (mc_X7_layAll_X7_layAll_r2 _ (List.mem_of_getElem? (i := 2) rfl)) (mj_cons (mc_X7_layAll_X7_layAll_r2 _ (List.mem_of_getElem? (i := 3) rfl)) mj_nil))))))))))))))))) mc_X7_layAll_X70)) (by decide +kernel)
set_option maxRecDepth 20000 in
theorem gX7_layAll_X7_lay : GoodIn wsX7_layAll (wsV RX7 219 RX7 yX7_lay wsX7_lay) := goodIn_app (mj_good (mj_cons (mc_X7_layAll_X7_layAll_r1 _ (List.mem_of_getElem? (i := 9) rfl)) (mj_cons (mc_X7_layAll_X7_layAll_r1 _ (List.mem_of_getElem? (i := 10) rfl)) (mj_cons (mc_X7_layAll_X7_layAll_r1 _ (List.mem_of_getElem? (i := 11) rfl)) (mj_cons (mc_X7_layAll_X7_layAll_r1 _ (List.mem_of_getElem? (i := 6) rfl)) mj_nil)))) (by decide +kernel)) ggX7_layAll_X7_lay
theorem dX7_layAll_0 : decode cX7_layAll 0 = .ok (.aload_n 0, 1) := by decide +kernel
theorem dX7_layAll_1 : decode cX7_layAll 1 = .ok (.invokevirtual 213, 3) := by decide +kernel
theorem dX7_layAll_4 : decode cX7_layAll 4 = .ok (.iconst 0, 1) := by decide +kernel
theorem dX7_layAll_5 : decode cX7_layAll 5 = .ok (.istore_n 1, 1) := by decide +kernel
theorem dX7_layAll_6 : decode cX7_layAll 6 = .ok (.iload_n 1, 1) := by decide +kernel
theorem dX7_layAll_7 : decode cX7_layAll 7 = .ok (.aload_n 0, 1) := by decide +kernel
theorem dX7_layAll_8 : decode cX7_layAll 8 = .ok (.getfield 216, 3) := by decide +kernel
theorem dX7_layAll_11 : decode cX7_layAll 11 = .ok (.if_icmp .ge 33, 3) := by decide +kernel
theorem dX7_layAll_14 : decode cX7_layAll 14 = .ok (.aload_n 0, 1) := by decide +kernel
theorem dX7_layAll_15 : decode cX7_layAll 15 = .ok (.getfield 121, 3) := by decide +kernel
theorem dX7_layAll_18 : decode cX7_layAll 18 = .ok (.iload_n 1, 1) := by decide +kernel
theorem dX7_layAll_19 : decode cX7_layAll 19 = .ok (.aload_n 0, 1) := by decide +kernel
theorem dX7_layAll_20 : decode cX7_layAll 20 = .ok (.getfield 26, 3) := by decide +kernel
theorem dX7_layAll_23 : decode cX7_layAll 23 = .ok (.iload_n 1, 1) := by decide +kernel
theorem dX7_layAll_24 : decode cX7_layAll 24 = .ok (.iaload, 1) := by decide +kernel
theorem dX7_layAll_25 : decode cX7_layAll 25 = .ok (.iastore, 1) := by decide +kernel
theorem dX7_layAll_26 : decode cX7_layAll 26 = .ok (.aload_n 0, 1) := by decide +kernel
theorem dX7_layAll_27 : decode cX7_layAll 27 = .ok (.iload_n 1, 1) := by decide +kernel
theorem dX7_layAll_28 : decode cX7_layAll 28 = .ok (.aload_n 0, 1) := by decide +kernel
theorem dX7_layAll_29 : decode cX7_layAll 29 = .ok (.getfield 26, 3) := by decide +kernel
theorem dX7_layAll_32 : decode cX7_layAll 32 = .ok (.iload_n 1, 1) := by decide +kernel
theorem dX7_layAll_33 : decode cX7_layAll 33 = .ok (.iaload, 1) := by decide +kernel
theorem dX7_layAll_34 : decode cX7_layAll 34 = .ok (.iload_n 1, 1) := by decide +kernel
theorem dX7_layAll_35 : decode cX7_layAll 35 = .ok (.invokevirtual 219, 3) := by decide +kernel
theorem dX7_layAll_38 : decode cX7_layAll 38 = .ok (.iinc 1 1, 3) := by decide +kernel
theorem dX7_layAll_41 : decode cX7_layAll 41 = .ok (.goto (-35), 3) := by decide +kernel
theorem dX7_layAll_44 : decode cX7_layAll 44 = .ok (.return_, 1) := by decide +kernel
set_option maxRecDepth 20000 in
theorem mc_X7_against_X70 : mjIn wsX7_against wsX70 := fun w h => (List.mem_cons_of_mem _ (List.mem_append_right _ h))
set_option maxRecDepth 20000 in
theorem ggX7_against_X7_wide : GoodIn wsX7_against wsX7_wide := mj_good (mj_cons (List.mem_of_getElem? (i := 9) rfl) (mj_app (mj_cons (List.mem_of_getElem? (i := 10) rfl) (mj_cons (List.mem_of_getElem? (i := 11) rfl) (mj_cons (List.mem_of_getElem? (i := 12) rfl) (mj_cons (List.mem_of_getElem? (i := 13) rfl) (mj_cons (List.mem_of_getElem? (i := 14) rfl) (mj_cons (List.mem_of_getElem? (i := 15) rfl) (mj_cons (List.mem_of_getElem? (i := 8) rfl) (mj_cons (List.mem_of_getElem? (i := 16) rfl) mj_nil)))))))) mc_X7_against_X70)) (by decide +kernel)
set_option maxRecDepth 20000 in
theorem gX7_against_X7_wide : GoodIn wsX7_against (wsV RX7 210 RX7 yX7_wide wsX7_wide) := goodIn_app (mj_good (mj_cons (List.mem_of_getElem? (i := 5) rfl) (mj_cons (List.mem_of_getElem? (i := 6) rfl) (mj_cons (List.mem_of_getElem? (i := 7) rfl) (mj_cons (List.mem_of_getElem? (i := 8) rfl) mj_nil)))) (by decide +kernel)) ggX7_against_X7_wide
set_option maxRecDepth 20000 in
theorem ggX7_against_X7_tall : GoodIn wsX7_against wsX7_tall := mj_good (mj_cons (List.mem_of_getElem? (i := 20) rfl) (mj_app (mj_cons (List.mem_of_getElem? (i := 10) rfl) (mj_cons (List.mem_of_getElem? (i := 11) rfl) (mj_cons (List.mem_of_getElem? (i := 12) rfl) (mj_cons (List.mem_of_getElem? (i := 13) rfl) (mj_cons (List.mem_of_getElem? (i := 14) rfl) (mj_cons (List.mem_of_getElem? (i := 15) rfl) (mj_cons (List.mem_of_getElem? (i := 8) rfl) (mj_cons (List.mem_of_getElem? (i := 16) rfl) mj_nil)))))))) mc_X7_against_X70)) (by decide +kernel)
set_option maxRecDepth 20000 in
theorem gX7_against_X7_tall : GoodIn wsX7_against (wsV RX7 206 RX7 yX7_tall wsX7_tall) := goodIn_app (mj_good (mj_cons (List.mem_of_getElem? (i := 17) rfl) (mj_cons (List.mem_of_getElem? (i := 18) rfl) (mj_cons (List.mem_of_getElem? (i := 19) rfl) (mj_cons (List.mem_of_getElem? (i := 8) rfl) mj_nil)))) (by decide +kernel)) ggX7_against_X7_tall
theorem dX7_against_0 : decode cX7_against 0 = .ok (.iload_n 2, 1) := by decide +kernel
theorem dX7_against_1 : decode cX7_against 1 = .ok (.ifCond .lt 35, 3) := by decide +kernel
theorem dX7_against_4 : decode cX7_against 4 = .ok (.iload_n 3, 1) := by decide +kernel
theorem dX7_against_5 : decode cX7_against 5 = .ok (.ifCond .lt 31, 3) := by decide +kernel
theorem dX7_against_8 : decode cX7_against 8 = .ok (.iload_n 2, 1) := by decide +kernel
theorem dX7_against_9 : decode cX7_against 9 = .ok (.aload_n 0, 1) := by decide +kernel
theorem dX7_against_10 : decode cX7_against 10 = .ok (.iload_n 1, 1) := by decide +kernel
theorem dX7_against_11 : decode cX7_against 11 = .ok (.invokevirtual 210, 3) := by decide +kernel
theorem dX7_against_14 : decode cX7_against 14 = .ok (.iadd, 1) := by decide +kernel
theorem dX7_against_15 : decode cX7_against 15 = .ok (.aload_n 0, 1) := by decide +kernel
theorem dX7_against_16 : decode cX7_against 16 = .ok (.getfield 190, 3) := by decide +kernel
theorem dX7_against_19 : decode cX7_against 19 = .ok (.if_icmp .gt 17, 3) := by decide +kernel
theorem dX7_against_22 : decode cX7_against 22 = .ok (.iload_n 3, 1) := by decide +kernel
theorem dX7_against_23 : decode cX7_against 23 = .ok (.aload_n 0, 1) := by decide +kernel
theorem dX7_against_24 : decode cX7_against 24 = .ok (.iload_n 1, 1) := by decide +kernel
theorem dX7_against_25 : decode cX7_against 25 = .ok (.invokevirtual 206, 3) := by decide +kernel
theorem dX7_against_28 : decode cX7_against 28 = .ok (.iadd, 1) := by decide +kernel
theorem dX7_against_29 : decode cX7_against 29 = .ok (.aload_n 0, 1) := by decide +kernel
theorem dX7_against_30 : decode cX7_against 30 = .ok (.getfield 193, 3) := by decide +kernel
theorem dX7_against_33 : decode cX7_against 33 = .ok (.if_icmp .le 5, 3) := by decide +kernel
theorem dX7_against_36 : decode cX7_against 36 = .ok (.iconst 2, 1) := by decide +kernel
theorem dX7_against_37 : decode cX7_against 37 = .ok (.ireturn, 1) := by decide +kernel
theorem dX7_against_38 : decode cX7_against 38 = .ok (.iconst 0, 1) := by decide +kernel
theorem dX7_against_39 : decode cX7_against 39 = .ok (.istore 4, 2) := by decide +kernel
theorem dX7_against_41 : decode cX7_against 41 = .ok (.iconst 0, 1) := by decide +kernel
theorem dX7_against_42 : decode cX7_against 42 = .ok (.istore 5, 2) := by decide +kernel
theorem dX7_against_44 : decode cX7_against 44 = .ok (.iload_n 3, 1) := by decide +kernel
theorem dX7_against_45 : decode cX7_against 45 = .ok (.istore 6, 2) := by decide +kernel
theorem dX7_against_47 : decode cX7_against 47 = .ok (.iload 6, 2) := by decide +kernel
theorem dX7_against_49 : decode cX7_against 49 = .ok (.iload_n 3, 1) := by decide +kernel
theorem dX7_against_50 : decode cX7_against 50 = .ok (.aload_n 0, 1) := by decide +kernel
theorem dX7_against_51 : decode cX7_against 51 = .ok (.iload_n 1, 1) := by decide +kernel
theorem dX7_against_52 : decode cX7_against 52 = .ok (.invokevirtual 206, 3) := by decide +kernel
theorem dX7_against_55 : decode cX7_against 55 = .ok (.iadd, 1) := by decide +kernel
theorem dX7_against_56 : decode cX7_against 56 = .ok (.if_icmp .ge 103, 3) := by decide +kernel
theorem dX7_against_59 : decode cX7_against 59 = .ok (.iload_n 2, 1) := by decide +kernel
theorem dX7_against_60 : decode cX7_against 60 = .ok (.istore 7, 2) := by decide +kernel
theorem dX7_against_62 : decode cX7_against 62 = .ok (.iload 7, 2) := by decide +kernel
theorem dX7_against_64 : decode cX7_against 64 = .ok (.iload_n 2, 1) := by decide +kernel
theorem dX7_against_65 : decode cX7_against 65 = .ok (.aload_n 0, 1) := by decide +kernel
theorem dX7_against_66 : decode cX7_against 66 = .ok (.iload_n 1, 1) := by decide +kernel
theorem dX7_against_67 : decode cX7_against 67 = .ok (.invokevirtual 210, 3) := by decide +kernel
theorem dX7_against_70 : decode cX7_against 70 = .ok (.iadd, 1) := by decide +kernel
theorem dX7_against_71 : decode cX7_against 71 = .ok (.if_icmp .ge 82, 3) := by decide +kernel
theorem dX7_against_74 : decode cX7_against 74 = .ok (.iload 4, 2) := by decide +kernel
theorem dX7_against_76 : decode cX7_against 76 = .ok (.ifCond .ne 19, 3) := by decide +kernel
theorem dX7_against_79 : decode cX7_against 79 = .ok (.aload_n 0, 1) := by decide +kernel
theorem dX7_against_80 : decode cX7_against 80 = .ok (.getfield 19, 3) := by decide +kernel
theorem dX7_against_83 : decode cX7_against 83 = .ok (.iload 7, 2) := by decide +kernel
theorem dX7_against_85 : decode cX7_against 85 = .ok (.bipush 8, 2) := by decide +kernel
theorem dX7_against_87 : decode cX7_against 87 = .ok (.iload 6, 2) := by decide +kernel
theorem dX7_against_89 : decode cX7_against 89 = .ok (.imul, 1) := by decide +kernel
theorem dX7_against_90 : decode cX7_against 90 = .ok (.iadd, 1) := by decide +kernel
theorem dX7_against_91 : decode cX7_against 91 = .ok (.baload, 1) := by decide +kernel
theorem dX7_against_92 : decode cX7_against 92 = .ok (.ifCond .eq 7, 3) := by decide +kernel
theorem dX7_against_95 : decode cX7_against 95 = .ok (.iconst 1, 1) := by decide +kernel
theorem dX7_against_96 : decode cX7_against 96 = .ok (.goto 4, 3) := by decide +kernel
theorem dX7_against_99 : decode cX7_against 99 = .ok (.iconst 0, 1) := by decide +kernel
theorem dX7_against_100 : decode cX7_against 100 = .ok (.istore 4, 2) := by decide +kernel
theorem dX7_against_102 : decode cX7_against 102 = .ok (.iload 5, 2) := by decide +kernel
theorem dX7_against_104 : decode cX7_against 104 = .ok (.ifCond .ne 36, 3) := by decide +kernel
theorem dX7_against_107 : decode cX7_against 107 = .ok (.aload_n 0, 1) := by decide +kernel
theorem dX7_against_108 : decode cX7_against 108 = .ok (.getfield 118, 3) := by decide +kernel
theorem dX7_against_111 : decode cX7_against 111 = .ok (.iload 7, 2) := by decide +kernel
theorem dX7_against_113 : decode cX7_against 113 = .ok (.bipush 8, 2) := by decide +kernel
theorem dX7_against_115 : decode cX7_against 115 = .ok (.iload 6, 2) := by decide +kernel
theorem dX7_against_117 : decode cX7_against 117 = .ok (.imul, 1) := by decide +kernel
theorem dX7_against_118 : decode cX7_against 118 = .ok (.iadd, 1) := by decide +kernel
theorem dX7_against_119 : decode cX7_against 119 = .ok (.iaload, 1) := by decide +kernel
theorem dX7_against_120 : decode cX7_against 120 = .ok (.ifCond .lt 24, 3) := by decide +kernel
theorem dX7_against_123 : decode cX7_against 123 = .ok (.aload_n 0, 1) := by decide +kernel
theorem dX7_against_124 : decode cX7_against 124 = .ok (.getfield 118, 3) := by decide +kernel
theorem dX7_against_127 : decode cX7_against 127 = .ok (.iload 7, 2) := by decide +kernel
theorem dX7_against_129 : decode cX7_against 129 = .ok (.bipush 8, 2) := by decide +kernel
theorem dX7_against_131 : decode cX7_against 131 = .ok (.iload 6, 2) := by decide +kernel
theorem dX7_against_133 : decode cX7_against 133 = .ok (.imul, 1) := by decide +kernel
theorem dX7_against_134 : decode cX7_against 134 = .ok (.iadd, 1) := by decide +kernel
theorem dX7_against_135 : decode cX7_against 135 = .ok (.iaload, 1) := by decide +kernel
theorem dX7_against_136 : decode cX7_against 136 = .ok (.iload_n 1, 1) := by decide +kernel
theorem dX7_against_137 : decode cX7_against 137 = .ok (.if_icmp .eq 7, 3) := by decide +kernel
theorem dX7_against_140 : decode cX7_against 140 = .ok (.iconst 1, 1) := by decide +kernel
theorem dX7_against_141 : decode cX7_against 141 = .ok (.goto 4, 3) := by decide +kernel
theorem dX7_against_144 : decode cX7_against 144 = .ok (.iconst 0, 1) := by decide +kernel
theorem dX7_against_145 : decode cX7_against 145 = .ok (.istore 5, 2) := by decide +kernel
theorem dX7_against_147 : decode cX7_against 147 = .ok (.iinc 7 1, 3) := by decide +kernel
theorem dX7_against_150 : decode cX7_against 150 = .ok (.goto (-88), 3) := by decide +kernel
theorem dX7_against_153 : decode cX7_against 153 = .ok (.iinc 6 1, 3) := by decide +kernel
theorem dX7_against_156 : decode cX7_against 156 = .ok (.goto (-109), 3) := by decide +kernel
theorem dX7_against_159 : decode cX7_against 159 = .ok (.iload 4, 2) := by decide +kernel
theorem dX7_against_161 : decode cX7_against 161 = .ok (.ifCond .eq 7, 3) := by decide +kernel
theorem dX7_against_164 : decode cX7_against 164 = .ok (.iconst 3, 1) := by decide +kernel
theorem dX7_against_165 : decode cX7_against 165 = .ok (.goto 13, 3) := by decide +kernel
theorem dX7_against_168 : decode cX7_against 168 = .ok (.iload 5, 2) := by decide +kernel
theorem dX7_against_170 : decode cX7_against 170 = .ok (.ifCond .eq 7, 3) := by decide +kernel
theorem dX7_against_173 : decode cX7_against 173 = .ok (.iconst 4, 1) := by decide +kernel
theorem dX7_against_174 : decode cX7_against 174 = .ok (.goto 4, 3) := by decide +kernel
theorem dX7_against_177 : decode cX7_against 177 = .ok (.iconst 0, 1) := by decide +kernel
theorem dX7_against_178 : decode cX7_against 178 = .ok (.ireturn, 1) := by decide +kernel
theorem dX7_right_0 : decode cX7_right 0 = .ok (.iload_n 0, 1) := by decide +kernel
theorem dX7_right_1 : decode cX7_right 1 = .ok (.iconst 1, 1) := by decide +kernel
theorem dX7_right_2 : decode cX7_right 2 = .ok (.if_icmp .ne 7, 3) := by decide +kernel
theorem dX7_right_5 : decode cX7_right 5 = .ok (.iconst 1, 1) := by decide +kernel
theorem dX7_right_6 : decode cX7_right 6 = .ok (.goto 13, 3) := by decide +kernel
theorem dX7_right_9 : decode cX7_right 9 = .ok (.iload_n 0, 1) := by decide +kernel
theorem dX7_right_10 : decode cX7_right 10 = .ok (.iconst 3, 1) := by decide +kernel
theorem dX7_right_11 : decode cX7_right 11 = .ok (.if_icmp .ne 7, 3) := by decide +kernel
theorem dX7_right_14 : decode cX7_right 14 = .ok (.iconst (-1), 1) := by decide +kernel
theorem dX7_right_15 : decode cX7_right 15 = .ok (.goto 4, 3) := by decide +kernel
theorem dX7_right_18 : decode cX7_right 18 = .ok (.iconst 0, 1) := by decide +kernel
theorem dX7_right_19 : decode cX7_right 19 = .ok (.ireturn, 1) := by decide +kernel
theorem dX7_down_0 : decode cX7_down 0 = .ok (.iload_n 0, 1) := by decide +kernel
theorem dX7_down_1 : decode cX7_down 1 = .ok (.iconst 2, 1) := by decide +kernel
theorem dX7_down_2 : decode cX7_down 2 = .ok (.if_icmp .ne 7, 3) := by decide +kernel
theorem dX7_down_5 : decode cX7_down 5 = .ok (.iconst 1, 1) := by decide +kernel
theorem dX7_down_6 : decode cX7_down 6 = .ok (.goto 12, 3) := by decide +kernel
theorem dX7_down_9 : decode cX7_down 9 = .ok (.iload_n 0, 1) := by decide +kernel
theorem dX7_down_10 : decode cX7_down 10 = .ok (.ifCond .ne 7, 3) := by decide +kernel
theorem dX7_down_13 : decode cX7_down 13 = .ok (.iconst (-1), 1) := by decide +kernel
theorem dX7_down_14 : decode cX7_down 14 = .ok (.goto 4, 3) := by decide +kernel
theorem dX7_down_17 : decode cX7_down 17 = .ok (.iconst 0, 1) := by decide +kernel
theorem dX7_down_18 : decode cX7_down 18 = .ok (.ireturn, 1) := by decide +kernel
set_option maxRecDepth 20000 in
theorem mc_X7_goes_X70 : mjIn wsX7_goes wsX70 := fun w h => (List.mem_cons_of_mem _ (List.mem_append_right _ h))
set_option maxRecDepth 20000 in
theorem ggX7_goes_X7_isLong : GoodIn wsX7_goes wsX7_isLong := mj_good (mj_cons (List.mem_of_getElem? (i := 6) rfl) (mj_app (mj_cons (List.mem_of_getElem? (i := 7) rfl) mj_nil) mc_X7_goes_X70)) (by decide +kernel)
set_option maxRecDepth 20000 in
theorem gX7_goes_X7_isLong : GoodIn wsX7_goes (wsV RX7 202 RX7 yX7_isLong wsX7_isLong) := goodIn_app (mj_good (mj_cons (List.mem_of_getElem? (i := 2) rfl) (mj_cons (List.mem_of_getElem? (i := 3) rfl) (mj_cons (List.mem_of_getElem? (i := 4) rfl) (mj_cons (List.mem_of_getElem? (i := 5) rfl) mj_nil)))) (by decide +kernel)) ggX7_goes_X7_isLong
theorem dX7_goes_0 : decode cX7_goes 0 = .ok (.aload_n 0, 1) := by decide +kernel
theorem dX7_goes_1 : decode cX7_goes 1 = .ok (.iload_n 1, 1) := by decide +kernel
theorem dX7_goes_2 : decode cX7_goes 2 = .ok (.invokevirtual 202, 3) := by decide +kernel
theorem dX7_goes_5 : decode cX7_goes 5 = .ok (.ifCond .eq 32, 3) := by decide +kernel
theorem dX7_goes_8 : decode cX7_goes 8 = .ok (.aload_n 0, 1) := by decide +kernel
theorem dX7_goes_9 : decode cX7_goes 9 = .ok (.getfield 32, 3) := by decide +kernel
theorem dX7_goes_12 : decode cX7_goes 12 = .ok (.iload_n 1, 1) := by decide +kernel
theorem dX7_goes_13 : decode cX7_goes 13 = .ok (.iaload, 1) := by decide +kernel
theorem dX7_goes_14 : decode cX7_goes 14 = .ok (.ifCond .ne 7, 3) := by decide +kernel
theorem dX7_goes_17 : decode cX7_goes 17 = .ok (.iconst 1, 1) := by decide +kernel
theorem dX7_goes_18 : decode cX7_goes 18 = .ok (.goto 4, 3) := by decide +kernel
theorem dX7_goes_21 : decode cX7_goes 21 = .ok (.iconst 0, 1) := by decide +kernel
theorem dX7_goes_22 : decode cX7_goes 22 = .ok (.iload_n 2, 1) := by decide +kernel
theorem dX7_goes_23 : decode cX7_goes 23 = .ok (.iconst 2, 1) := by decide +kernel
theorem dX7_goes_24 : decode cX7_goes 24 = .ok (.irem, 1) := by decide +kernel
theorem dX7_goes_25 : decode cX7_goes 25 = .ok (.iconst 1, 1) := by decide +kernel
theorem dX7_goes_26 : decode cX7_goes 26 = .ok (.if_icmp .ne 7, 3) := by decide +kernel
theorem dX7_goes_29 : decode cX7_goes 29 = .ok (.iconst 1, 1) := by decide +kernel
theorem dX7_goes_30 : decode cX7_goes 30 = .ok (.goto 4, 3) := by decide +kernel
theorem dX7_goes_33 : decode cX7_goes 33 = .ok (.iconst 0, 1) := by decide +kernel
theorem dX7_goes_34 : decode cX7_goes 34 = .ok (.if_icmp .ne 7, 3) := by decide +kernel
theorem dX7_goes_37 : decode cX7_goes 37 = .ok (.iconst 1, 1) := by decide +kernel
theorem dX7_goes_38 : decode cX7_goes 38 = .ok (.goto 4, 3) := by decide +kernel
theorem dX7_goes_41 : decode cX7_goes 41 = .ok (.iconst 0, 1) := by decide +kernel
theorem dX7_goes_42 : decode cX7_goes 42 = .ok (.ireturn, 1) := by decide +kernel
set_option maxRecDepth 20000 in
theorem ggX7_beside_X7_right : GoodIn wsX7_beside wsX7_right := mj_good (mj_cons (List.mem_of_getElem? (i := 10) rfl) mj_nil) (by decide +kernel)
set_option maxRecDepth 20000 in
theorem gX7_beside_X7_right : GoodIn wsX7_beside (va_wsS RX7 223 yX7_right wsX7_right) := goodIn_app (mj_good (mj_cons (List.mem_of_getElem? (i := 7) rfl) (mj_cons (List.mem_of_getElem? (i := 8) rfl) (mj_cons (List.mem_of_getElem? (i := 9) rfl) mj_nil))) (by decide +kernel)) ggX7_beside_X7_right
set_option maxRecDepth 20000 in
theorem ggX7_beside_X7_down : GoodIn wsX7_beside wsX7_down := mj_good (mj_cons (List.mem_of_getElem? (i := 13) rfl) mj_nil) (by decide +kernel)
set_option maxRecDepth 20000 in
theorem gX7_beside_X7_down : GoodIn wsX7_beside (va_wsS RX7 226 yX7_down wsX7_down) := goodIn_app (mj_good (mj_cons (List.mem_of_getElem? (i := 11) rfl) (mj_cons (List.mem_of_getElem? (i := 12) rfl) (mj_cons (List.mem_of_getElem? (i := 9) rfl) mj_nil))) (by decide +kernel)) ggX7_beside_X7_down
set_option maxRecDepth 20000 in
theorem mc_X7_beside_X70 : mjIn wsX7_beside wsX70 := fun w h => (List.mem_cons_of_mem _ (List.mem_append_right _ h))
set_option maxRecDepth 20000 in
theorem ggX7_beside_X7_isField : GoodIn wsX7_beside wsX7_isField := mj_good (mj_cons (List.mem_of_getElem? (i := 17) rfl) (mj_app (mj_cons (List.mem_of_getElem? (i := 18) rfl) (mj_cons (List.mem_of_getElem? (i := 19) rfl) mj_nil)) mc_X7_beside_X70)) (by decide +kernel)
set_option maxRecDepth 20000 in
theorem gX7_beside_X7_isField : GoodIn wsX7_beside (wsV RX7 229 RX7 yX7_isField wsX7_isField) := goodIn_app (mj_good (mj_cons (List.mem_of_getElem? (i := 14) rfl) (mj_cons (List.mem_of_getElem? (i := 15) rfl) (mj_cons (List.mem_of_getElem? (i := 16) rfl) (mj_cons (List.mem_of_getElem? (i := 9) rfl) mj_nil)))) (by decide +kernel)) ggX7_beside_X7_isField
theorem dX7_beside_0 : decode cX7_beside 0 = .ok (.aload_n 0, 1) := by decide +kernel
theorem dX7_beside_1 : decode cX7_beside 1 = .ok (.getfield 121, 3) := by decide +kernel
theorem dX7_beside_4 : decode cX7_beside 4 = .ok (.iload_n 1, 1) := by decide +kernel
theorem dX7_beside_5 : decode cX7_beside 5 = .ok (.iaload, 1) := by decide +kernel
theorem dX7_beside_6 : decode cX7_beside 6 = .ok (.bipush 8, 2) := by decide +kernel
theorem dX7_beside_8 : decode cX7_beside 8 = .ok (.irem, 1) := by decide +kernel
theorem dX7_beside_9 : decode cX7_beside 9 = .ok (.istore_n 2, 1) := by decide +kernel
theorem dX7_beside_10 : decode cX7_beside 10 = .ok (.aload_n 0, 1) := by decide +kernel
theorem dX7_beside_11 : decode cX7_beside 11 = .ok (.getfield 121, 3) := by decide +kernel
theorem dX7_beside_14 : decode cX7_beside 14 = .ok (.iload_n 1, 1) := by decide +kernel
theorem dX7_beside_15 : decode cX7_beside 15 = .ok (.iaload, 1) := by decide +kernel
theorem dX7_beside_16 : decode cX7_beside 16 = .ok (.bipush 8, 2) := by decide +kernel
theorem dX7_beside_18 : decode cX7_beside 18 = .ok (.idiv, 1) := by decide +kernel
theorem dX7_beside_19 : decode cX7_beside 19 = .ok (.istore_n 3, 1) := by decide +kernel
theorem dX7_beside_20 : decode cX7_beside 20 = .ok (.iconst (-1), 1) := by decide +kernel
theorem dX7_beside_21 : decode cX7_beside 21 = .ok (.istore 4, 2) := by decide +kernel
theorem dX7_beside_23 : decode cX7_beside 23 = .ok (.iconst 0, 1) := by decide +kernel
theorem dX7_beside_24 : decode cX7_beside 24 = .ok (.istore 5, 2) := by decide +kernel
theorem dX7_beside_26 : decode cX7_beside 26 = .ok (.iload 5, 2) := by decide +kernel
theorem dX7_beside_28 : decode cX7_beside 28 = .ok (.iconst 4, 1) := by decide +kernel
theorem dX7_beside_29 : decode cX7_beside 29 = .ok (.if_icmp .ge 98, 3) := by decide +kernel
theorem dX7_beside_32 : decode cX7_beside 32 = .ok (.iload_n 2, 1) := by decide +kernel
theorem dX7_beside_33 : decode cX7_beside 33 = .ok (.iload 5, 2) := by decide +kernel
theorem dX7_beside_35 : decode cX7_beside 35 = .ok (.invokestatic 223, 3) := by decide +kernel
theorem dX7_beside_38 : decode cX7_beside 38 = .ok (.iadd, 1) := by decide +kernel
theorem dX7_beside_39 : decode cX7_beside 39 = .ok (.istore 6, 2) := by decide +kernel
theorem dX7_beside_41 : decode cX7_beside 41 = .ok (.iload_n 3, 1) := by decide +kernel
theorem dX7_beside_42 : decode cX7_beside 42 = .ok (.iload 5, 2) := by decide +kernel
theorem dX7_beside_44 : decode cX7_beside 44 = .ok (.invokestatic 226, 3) := by decide +kernel
theorem dX7_beside_47 : decode cX7_beside 47 = .ok (.iadd, 1) := by decide +kernel
theorem dX7_beside_48 : decode cX7_beside 48 = .ok (.istore 7, 2) := by decide +kernel
theorem dX7_beside_50 : decode cX7_beside 50 = .ok (.aload_n 0, 1) := by decide +kernel
theorem dX7_beside_51 : decode cX7_beside 51 = .ok (.iload 6, 2) := by decide +kernel
theorem dX7_beside_53 : decode cX7_beside 53 = .ok (.iload 7, 2) := by decide +kernel
theorem dX7_beside_55 : decode cX7_beside 55 = .ok (.invokevirtual 229, 3) := by decide +kernel
theorem dX7_beside_58 : decode cX7_beside 58 = .ok (.ifCond .eq 63, 3) := by decide +kernel
theorem dX7_beside_61 : decode cX7_beside 61 = .ok (.aload_n 0, 1) := by decide +kernel
theorem dX7_beside_62 : decode cX7_beside 62 = .ok (.getfield 118, 3) := by decide +kernel
theorem dX7_beside_65 : decode cX7_beside 65 = .ok (.iload 6, 2) := by decide +kernel
theorem dX7_beside_67 : decode cX7_beside 67 = .ok (.bipush 8, 2) := by decide +kernel
theorem dX7_beside_69 : decode cX7_beside 69 = .ok (.iload 7, 2) := by decide +kernel
theorem dX7_beside_71 : decode cX7_beside 71 = .ok (.imul, 1) := by decide +kernel
theorem dX7_beside_72 : decode cX7_beside 72 = .ok (.iadd, 1) := by decide +kernel
theorem dX7_beside_73 : decode cX7_beside 73 = .ok (.iaload, 1) := by decide +kernel
theorem dX7_beside_74 : decode cX7_beside 74 = .ok (.ifCond .ge 6, 3) := by decide +kernel
theorem dX7_beside_77 : decode cX7_beside 77 = .ok (.goto 44, 3) := by decide +kernel
theorem dX7_beside_80 : decode cX7_beside 80 = .ok (.iload 4, 2) := by decide +kernel
theorem dX7_beside_82 : decode cX7_beside 82 = .ok (.ifCond .ge 19, 3) := by decide +kernel
theorem dX7_beside_85 : decode cX7_beside 85 = .ok (.aload_n 0, 1) := by decide +kernel
theorem dX7_beside_86 : decode cX7_beside 86 = .ok (.getfield 118, 3) := by decide +kernel
theorem dX7_beside_89 : decode cX7_beside 89 = .ok (.iload 6, 2) := by decide +kernel
theorem dX7_beside_91 : decode cX7_beside 91 = .ok (.bipush 8, 2) := by decide +kernel
theorem dX7_beside_93 : decode cX7_beside 93 = .ok (.iload 7, 2) := by decide +kernel
theorem dX7_beside_95 : decode cX7_beside 95 = .ok (.imul, 1) := by decide +kernel
theorem dX7_beside_96 : decode cX7_beside 96 = .ok (.iadd, 1) := by decide +kernel
theorem dX7_beside_97 : decode cX7_beside 97 = .ok (.iaload, 1) := by decide +kernel
theorem dX7_beside_98 : decode cX7_beside 98 = .ok (.goto 21, 3) := by decide +kernel
theorem dX7_beside_101 : decode cX7_beside 101 = .ok (.iload 4, 2) := by decide +kernel
theorem dX7_beside_103 : decode cX7_beside 103 = .ok (.aload_n 0, 1) := by decide +kernel
theorem dX7_beside_104 : decode cX7_beside 104 = .ok (.getfield 118, 3) := by decide +kernel
theorem dX7_beside_107 : decode cX7_beside 107 = .ok (.iload 6, 2) := by decide +kernel
theorem dX7_beside_109 : decode cX7_beside 109 = .ok (.bipush 8, 2) := by decide +kernel
theorem dX7_beside_111 : decode cX7_beside 111 = .ok (.iload 7, 2) := by decide +kernel
theorem dX7_beside_113 : decode cX7_beside 113 = .ok (.imul, 1) := by decide +kernel
theorem dX7_beside_114 : decode cX7_beside 114 = .ok (.iadd, 1) := by decide +kernel
theorem dX7_beside_115 : decode cX7_beside 115 = .ok (.iaload, 1) := by decide +kernel
theorem dX7_beside_116 : decode cX7_beside 116 = .ok (.invokestatic 233, 3) := by decide +kernel
theorem dX7_beside_119 : decode cX7_beside 119 = .ok (.istore 4, 2) := by decide +kernel
theorem dX7_beside_121 : decode cX7_beside 121 = .ok (.iinc 5 1, 3) := by decide +kernel
theorem dX7_beside_124 : decode cX7_beside 124 = .ok (.goto (-98), 3) := by decide +kernel
theorem dX7_beside_127 : decode cX7_beside 127 = .ok (.iload 4, 2) := by decide +kernel
theorem dX7_beside_129 : decode cX7_beside 129 = .ok (.ireturn, 1) := by decide +kernel
set_option maxRecDepth 20000 in
theorem mc_X7_hinders_X7_hinders_r1 : mjIn wsX7_hinders wsX7_hinders_r1 := fun w h => (List.mem_cons_of_mem _ (List.mem_append_left _ (List.mem_append_left _ h)))
set_option maxRecDepth 20000 in
theorem mc_X7_hinders_X70 : mjIn wsX7_hinders wsX70 := fun w h => (List.mem_cons_of_mem _ (List.mem_append_right _ h))
set_option maxRecDepth 20000 in
theorem ggX7_hinders_X7_goes : GoodIn wsX7_hinders wsX7_goes := mj_good (mj_cons (mc_X7_hinders_X7_hinders_r1 _ (List.mem_of_getElem? (i := 6) rfl)) (mj_app (mj_cons (mc_X7_hinders_X7_hinders_r1 _ (List.mem_of_getElem? (i := 7) rfl)) (mj_cons (mc_X7_hinders_X7_hinders_r1 _ (List.mem_of_getElem? (i := 8) rfl)) (mj_cons (mc_X7_hinders_X7_hinders_r1 _ (List.mem_of_getElem? (i := 9) rfl)) (mj_cons (mc_X7_hinders_X7_hinders_r1 _ (List.mem_of_getElem? (i := 10) rfl)) (mj_cons (mc_X7_hinders_X7_hinders_r1 _ (List.mem_of_getElem? (i := 5) rfl)) (mj_cons (mc_X7_hinders_X7_hinders_r1 _ (List.mem_of_getElem? (i := 11) rfl)) (mj_cons (mc_X7_hinders_X7_hinders_r1 _ (List.mem_of_getElem? (i := 1) rfl)) mj_nil))))))) mc_X7_hinders_X70)) (by decide +kernel)
set_option maxRecDepth 20000 in
theorem gX7_hinders_X7_goes : GoodIn wsX7_hinders (wsV RX7 239 RX7 yX7_goes wsX7_goes) := goodIn_app (mj_good (mj_cons (mc_X7_hinders_X7_hinders_r1 _ (List.mem_of_getElem? (i := 2) rfl)) (mj_cons (mc_X7_hinders_X7_hinders_r1 _ (List.mem_of_getElem? (i := 3) rfl)) (mj_cons (mc_X7_hinders_X7_hinders_r1 _ (List.mem_of_getElem? (i := 4) rfl)) (mj_cons (mc_X7_hinders_X7_hinders_r1 _ (List.mem_of_getElem? (i := 5) rfl)) mj_nil)))) (by decide +kernel)) ggX7_hinders_X7_goes
set_option maxRecDepth 20000 in
theorem ggX7_hinders_X7_right : GoodIn wsX7_hinders wsX7_right := mj_good (mj_cons (mc_X7_hinders_X7_hinders_r1 _ (List.mem_of_getElem? (i := 14) rfl)) mj_nil) (by decide +kernel)
set_option maxRecDepth 20000 in
theorem gX7_hinders_X7_right : GoodIn wsX7_hinders (va_wsS RX7 223 yX7_right wsX7_right) := goodIn_app (mj_good (mj_cons (mc_X7_hinders_X7_hinders_r1 _ (List.mem_of_getElem? (i := 12) rfl)) (mj_cons (mc_X7_hinders_X7_hinders_r1 _ (List.mem_of_getElem? (i := 13) rfl)) (mj_cons (mc_X7_hinders_X7_hinders_r1 _ (List.mem_of_getElem? (i := 5) rfl)) mj_nil))) (by decide +kernel)) ggX7_hinders_X7_right
set_option maxRecDepth 20000 in
theorem ggX7_hinders_X7_down : GoodIn wsX7_hinders wsX7_down := mj_good (mj_cons (mc_X7_hinders_X7_hinders_r1 _ (List.mem_of_getElem? (i := 17) rfl)) mj_nil) (by decide +kernel)
set_option maxRecDepth 20000 in
theorem gX7_hinders_X7_down : GoodIn wsX7_hinders (va_wsS RX7 226 yX7_down wsX7_down) := goodIn_app (mj_good (mj_cons (mc_X7_hinders_X7_hinders_r1 _ (List.mem_of_getElem? (i := 15) rfl)) (mj_cons (mc_X7_hinders_X7_hinders_r1 _ (List.mem_of_getElem? (i := 16) rfl)) (mj_cons (mc_X7_hinders_X7_hinders_r1 _ (List.mem_of_getElem? (i := 5) rfl)) mj_nil))) (by decide +kernel)) ggX7_hinders_X7_down
set_option maxRecDepth 20000 in
theorem mc_X7_hinders_X7_hinders_r2 : mjIn wsX7_hinders wsX7_hinders_r2 := fun w h => (List.mem_cons_of_mem _ (List.mem_append_left _ (List.mem_append_right _ h)))
set_option maxRecDepth 20000 in
theorem ggX7_hinders_X7_against : GoodIn wsX7_hinders wsX7_against := mj_good (mj_cons (mc_X7_hinders_X7_hinders_r1 _ (List.mem_of_getElem? (i := 21) rfl)) (mj_app (mj_cons (mc_X7_hinders_X7_hinders_r1 _ (List.mem_of_getElem? (i := 22) rfl)) (mj_cons (mc_X7_hinders_X7_hinders_r1 _ (List.mem_of_getElem? (i := 23) rfl)) (mj_cons (mc_X7_hinders_X7_hinders_r2 _ (List.mem_of_getElem? (i := 0) rfl)) (mj_cons (mc_X7_hinders_X7_hinders_r2 _ (List.mem_of_getElem? (i := 1) rfl)) (mj_cons (mc_X7_hinders_X7_hinders_r2 _ (List.mem_of_getElem? (i := 2) rfl)) (mj_cons (mc_X7_hinders_X7_hinders_r2 _ (List.mem_of_getElem? (i := 3) rfl)) (mj_cons (mc_X7_hinders_X7_hinders_r2 _ (List.mem_of_getElem? (i := 4) rfl)) (mj_cons (mc_X7_hinders_X7_hinders_r1 _ (List.mem_of_getElem? (i := 5) rfl)) (mj_cons (mc_X7_hinders_X7_hinders_r2 _ (List.mem_of_getElem? (i := 5) rfl)) (mj_cons (mc_X7_hinders_X7_hinders_r1 _ (List.mem_of_getElem? (i := 1) rfl)) (mj_cons (mc_X7_hinders_X7_hinders_r1 _ (List.mem_of_getElem? (i := 7) rfl)) (mj_cons (mc_X7_hinders_X7_hinders_r2 _ (List.mem_of_getElem? (i := 6) rfl)) (mj_cons (mc_X7_hinders_X7_hinders_r1 _ (List.mem_of_getElem? (i := 8) rfl)) (mj_cons (mc_X7_hinders_X7_hinders_r1 _ (List.mem_of_getElem? (i := 9) rfl)) (mj_cons (mc_X7_hinders_X7_hinders_r1 _ (List.mem_of_getElem? (i := 10) rfl)) (mj_cons (mc_X7_hinders_X7_hinders_r1 _ (List.mem_of_getElem? (i := 11) rfl)) (mj_cons (mc_X7_hinders_X7_hinders_r2 _ (List.mem_of_getElem? (i := 7) rfl)) (mj_cons (mc_X7_hinders_X7_hinders_r2 _ (List.mem_of_getElem? (i := 8) rfl)) (mj_cons (mc_X7_hinders_X7_hinders_r2 _ (List.mem_of_getElem? (i := 9) rfl)) (mj_cons (mc_X7_hinders_X7_hinders_r2 _ (List.mem_of_getElem? (i := 10) rfl)) mj_nil)))))))))))))))))))) mc_X7_hinders_X70)) (by decide +kernel)
set_option maxRecDepth 20000 in
theorem gX7_hinders_X7_against : GoodIn wsX7_hinders (wsV RX7 242 RX7 yX7_against wsX7_against) := goodIn_app (mj_good (mj_cons (mc_X7_hinders_X7_hinders_r1 _ (List.mem_of_getElem? (i := 18) rfl)) (mj_cons (mc_X7_hinders_X7_hinders_r1 _ (List.mem_of_getElem? (i := 19) rfl)) (mj_cons (mc_X7_hinders_X7_hinders_r1 _ (List.mem_of_getElem? (i := 20) rfl)) (mj_cons (mc_X7_hinders_X7_hinders_r1 _ (List.mem_of_getElem? (i := 5) rfl)) mj_nil)))) (by decide +kernel)) ggX7_hinders_X7_against
set_option maxRecDepth 20000 in
theorem ggX7_hinders_X7_beside : GoodIn wsX7_hinders wsX7_beside := mj_good (mj_cons (mc_X7_hinders_X7_hinders_r2 _ (List.mem_of_getElem? (i := 14) rfl)) (mj_app (mj_cons (mc_X7_hinders_X7_hinders_r1 _ (List.mem_of_getElem? (i := 0) rfl)) (mj_cons (mc_X7_hinders_X7_hinders_r2 _ (List.mem_of_getElem? (i := 1) rfl)) (mj_cons (mc_X7_hinders_X7_hinders_r2 _ (List.mem_of_getElem? (i := 15) rfl)) (mj_cons (mc_X7_hinders_X7_hinders_r2 _ (List.mem_of_getElem? (i := 16) rfl)) (mj_cons (mc_X7_hinders_X7_hinders_r2 _ (List.mem_of_getElem? (i := 17) rfl)) (mj_cons (mc_X7_hinders_X7_hinders_r2 _ (List.mem_of_getElem? (i := 18) rfl)) (mj_cons (mc_X7_hinders_X7_hinders_r1 _ (List.mem_of_getElem? (i := 12) rfl)) (mj_cons (mc_X7_hinders_X7_hinders_r1 _ (List.mem_of_getElem? (i := 13) rfl)) (mj_cons (mc_X7_hinders_X7_hinders_r1 _ (List.mem_of_getElem? (i := 5) rfl)) (mj_cons (mc_X7_hinders_X7_hinders_r1 _ (List.mem_of_getElem? (i := 14) rfl)) (mj_cons (mc_X7_hinders_X7_hinders_r1 _ (List.mem_of_getElem? (i := 15) rfl)) (mj_cons (mc_X7_hinders_X7_hinders_r1 _ (List.mem_of_getElem? (i := 16) rfl)) (mj_cons (mc_X7_hinders_X7_hinders_r1 _ (List.mem_of_getElem? (i := 17) rfl)) (mj_cons (mc_X7_hinders_X7_hinders_r2 _ (List.mem_of_getElem? (i := 19) rfl)) (mj_cons (mc_X7_hinders_X7_hinders_r2 _ (List.mem_of_getElem? (i := 20) rfl)) (mj_cons (mc_X7_hinders_X7_hinders_r2 _ (List.mem_of_getElem? (i := 21) rfl)) (mj_cons (mc_X7_hinders_X7_hinders_r2 _ (List.mem_of_getElem? (i := 22) rfl)) (mj_cons (mc_X7_hinders_X7_hinders_r1 _ (List.mem_of_getElem? (i := 22) rfl)) (mj_cons (mc_X7_hinders_X7_hinders_r1 _ (List.mem_of_getElem? (i := 23) rfl)) mj_nil))))))))))))))))))) mc_X7_hinders_X70)) (by decide +kernel)
set_option maxRecDepth 20000 in
theorem gX7_hinders_X7_beside : GoodIn wsX7_hinders (wsV RX7 246 RX7 yX7_beside wsX7_beside) := goodIn_app (mj_good (mj_cons (mc_X7_hinders_X7_hinders_r2 _ (List.mem_of_getElem? (i := 11) rfl)) (mj_cons (mc_X7_hinders_X7_hinders_r2 _ (List.mem_of_getElem? (i := 12) rfl)) (mj_cons (mc_X7_hinders_X7_hinders_r2 _ (List.mem_of_getElem? (i := 13) rfl)) (mj_cons (mc_X7_hinders_X7_hinders_r1 _ (List.mem_of_getElem? (i := 5) rfl)) mj_nil)))) (by decide +kernel)) ggX7_hinders_X7_beside
theorem dX7_hinders_0 : decode cX7_hinders 0 = .ok (.aload_n 0, 1) := by decide +kernel
theorem dX7_hinders_1 : decode cX7_hinders 1 = .ok (.iload_n 1, 1) := by decide +kernel
theorem dX7_hinders_2 : decode cX7_hinders 2 = .ok (.iload_n 2, 1) := by decide +kernel
theorem dX7_hinders_3 : decode cX7_hinders 3 = .ok (.invokevirtual 239, 3) := by decide +kernel
theorem dX7_hinders_6 : decode cX7_hinders 6 = .ok (.ifCond .ne 5, 3) := by decide +kernel
theorem dX7_hinders_9 : decode cX7_hinders 9 = .ok (.iconst 1, 1) := by decide +kernel
theorem dX7_hinders_10 : decode cX7_hinders 10 = .ok (.ireturn, 1) := by decide +kernel
theorem dX7_hinders_11 : decode cX7_hinders 11 = .ok (.aload_n 0, 1) := by decide +kernel
theorem dX7_hinders_12 : decode cX7_hinders 12 = .ok (.iload_n 1, 1) := by decide +kernel
theorem dX7_hinders_13 : decode cX7_hinders 13 = .ok (.aload_n 0, 1) := by decide +kernel
theorem dX7_hinders_14 : decode cX7_hinders 14 = .ok (.getfield 121, 3) := by decide +kernel
theorem dX7_hinders_17 : decode cX7_hinders 17 = .ok (.iload_n 1, 1) := by decide +kernel
theorem dX7_hinders_18 : decode cX7_hinders 18 = .ok (.iaload, 1) := by decide +kernel
theorem dX7_hinders_19 : decode cX7_hinders 19 = .ok (.bipush 8, 2) := by decide +kernel
theorem dX7_hinders_21 : decode cX7_hinders 21 = .ok (.irem, 1) := by decide +kernel
theorem dX7_hinders_22 : decode cX7_hinders 22 = .ok (.iload_n 2, 1) := by decide +kernel
theorem dX7_hinders_23 : decode cX7_hinders 23 = .ok (.invokestatic 223, 3) := by decide +kernel
theorem dX7_hinders_26 : decode cX7_hinders 26 = .ok (.iadd, 1) := by decide +kernel
theorem dX7_hinders_27 : decode cX7_hinders 27 = .ok (.aload_n 0, 1) := by decide +kernel
theorem dX7_hinders_28 : decode cX7_hinders 28 = .ok (.getfield 121, 3) := by decide +kernel
theorem dX7_hinders_31 : decode cX7_hinders 31 = .ok (.iload_n 1, 1) := by decide +kernel
theorem dX7_hinders_32 : decode cX7_hinders 32 = .ok (.iaload, 1) := by decide +kernel
theorem dX7_hinders_33 : decode cX7_hinders 33 = .ok (.bipush 8, 2) := by decide +kernel
theorem dX7_hinders_35 : decode cX7_hinders 35 = .ok (.idiv, 1) := by decide +kernel
theorem dX7_hinders_36 : decode cX7_hinders 36 = .ok (.iload_n 2, 1) := by decide +kernel
theorem dX7_hinders_37 : decode cX7_hinders 37 = .ok (.invokestatic 226, 3) := by decide +kernel
theorem dX7_hinders_40 : decode cX7_hinders 40 = .ok (.iadd, 1) := by decide +kernel
theorem dX7_hinders_41 : decode cX7_hinders 41 = .ok (.invokevirtual 242, 3) := by decide +kernel
theorem dX7_hinders_44 : decode cX7_hinders 44 = .ok (.istore_n 3, 1) := by decide +kernel
theorem dX7_hinders_45 : decode cX7_hinders 45 = .ok (.iload_n 3, 1) := by decide +kernel
theorem dX7_hinders_46 : decode cX7_hinders 46 = .ok (.ifCond .le 5, 3) := by decide +kernel
theorem dX7_hinders_49 : decode cX7_hinders 49 = .ok (.iload_n 3, 1) := by decide +kernel
theorem dX7_hinders_50 : decode cX7_hinders 50 = .ok (.ireturn, 1) := by decide +kernel
theorem dX7_hinders_51 : decode cX7_hinders 51 = .ok (.aload_n 0, 1) := by decide +kernel
theorem dX7_hinders_52 : decode cX7_hinders 52 = .ok (.getfield 23, 3) := by decide +kernel
theorem dX7_hinders_55 : decode cX7_hinders 55 = .ok (.iload_n 1, 1) := by decide +kernel
theorem dX7_hinders_56 : decode cX7_hinders 56 = .ok (.iaload, 1) := by decide +kernel
theorem dX7_hinders_57 : decode cX7_hinders 57 = .ok (.iconst 4, 1) := by decide +kernel
theorem dX7_hinders_58 : decode cX7_hinders 58 = .ok (.if_icmp .ne 15, 3) := by decide +kernel
theorem dX7_hinders_61 : decode cX7_hinders 61 = .ok (.aload_n 0, 1) := by decide +kernel
theorem dX7_hinders_62 : decode cX7_hinders 62 = .ok (.iload_n 1, 1) := by decide +kernel
theorem dX7_hinders_63 : decode cX7_hinders 63 = .ok (.invokevirtual 246, 3) := by decide +kernel
theorem dX7_hinders_66 : decode cX7_hinders 66 = .ok (.ifCond .lt 7, 3) := by decide +kernel
theorem dX7_hinders_69 : decode cX7_hinders 69 = .ok (.iconst 5, 1) := by decide +kernel
theorem dX7_hinders_70 : decode cX7_hinders 70 = .ok (.goto 4, 3) := by decide +kernel
theorem dX7_hinders_73 : decode cX7_hinders 73 = .ok (.iconst 0, 1) := by decide +kernel
theorem dX7_hinders_74 : decode cX7_hinders 74 = .ok (.ireturn, 1) := by decide +kernel
set_option maxRecDepth 20000 in
theorem mc_X7_step_X7_step_r1 : mjIn wsX7_step wsX7_step_r1 := fun w h => (List.mem_cons_of_mem _ (List.mem_append_left _ (List.mem_append_left _ h)))
set_option maxRecDepth 20000 in
theorem mc_X7_step_X70 : mjIn wsX7_step wsX70 := fun w h => (List.mem_cons_of_mem _ (List.mem_append_right _ h))
set_option maxRecDepth 20000 in
theorem ggX7_step_X7_lay : GoodIn wsX7_step wsX7_lay := mj_good (mj_cons (mc_X7_step_X7_step_r1 _ (List.mem_of_getElem? (i := 5) rfl)) (mj_app (mj_cons (mc_X7_step_X7_step_r1 _ (List.mem_of_getElem? (i := 6) rfl)) (mj_cons (mc_X7_step_X7_step_r1 _ (List.mem_of_getElem? (i := 7) rfl)) (mj_cons (mc_X7_step_X7_step_r1 _ (List.mem_of_getElem? (i := 8) rfl)) (mj_cons (mc_X7_step_X7_step_r1 _ (List.mem_of_getElem? (i := 9) rfl)) (mj_cons (mc_X7_step_X7_step_r1 _ (List.mem_of_getElem? (i := 4) rfl)) (mj_cons (mc_X7_step_X7_step_r1 _ (List.mem_of_getElem? (i := 10) rfl)) (mj_cons (mc_X7_step_X7_step_r1 _ (List.mem_of_getElem? (i := 11) rfl)) (mj_cons (mc_X7_step_X7_step_r1 _ (List.mem_of_getElem? (i := 12) rfl)) (mj_cons (mc_X7_step_X7_step_r1 _ (List.mem_of_getElem? (i := 13) rfl)) (mj_cons (mc_X7_step_X7_step_r1 _ (List.mem_of_getElem? (i := 14) rfl)) (mj_cons (mc_X7_step_X7_step_r1 _ (List.mem_of_getElem? (i := 15) rfl)) (mj_cons (mc_X7_step_X7_step_r1 _ (List.mem_of_getElem? (i := 16) rfl)) (mj_cons (mc_X7_step_X7_step_r1 _ (List.mem_of_getElem? (i := 17) rfl)) (mj_cons (mc_X7_step_X7_step_r1 _ (List.mem_of_getElem? (i := 18) rfl)) (mj_cons (mc_X7_step_X7_step_r1 _ (List.mem_of_getElem? (i := 19) rfl)) (mj_cons (mc_X7_step_X7_step_r1 _ (List.mem_of_getElem? (i := 20) rfl)) (mj_cons (mc_X7_step_X7_step_r1 _ (List.mem_of_getElem? (i := 21) rfl)) mj_nil))))))))))))))))) mc_X7_step_X70)) (by decide +kernel)
set_option maxRecDepth 20000 in
theorem gX7_step_X7_lay : GoodIn wsX7_step (wsV RX7 219 RX7 yX7_lay wsX7_lay) := goodIn_app (mj_good (mj_cons (mc_X7_step_X7_step_r1 _ (List.mem_of_getElem? (i := 1) rfl)) (mj_cons (mc_X7_step_X7_step_r1 _ (List.mem_of_getElem? (i := 2) rfl)) (mj_cons (mc_X7_step_X7_step_r1 _ (List.mem_of_getElem? (i := 3) rfl)) (mj_cons (mc_X7_step_X7_step_r1 _ (List.mem_of_getElem? (i := 4) rfl)) mj_nil)))) (by decide +kernel)) ggX7_step_X7_lay
set_option maxRecDepth 20000 in
theorem mc_X7_step_X7_step_r2 : mjIn wsX7_step wsX7_step_r2 := fun w h => (List.mem_cons_of_mem _ (List.mem_append_left _ (List.mem_append_right _ h)))
set_option maxRecDepth 20000 in
theorem ggX7_step_X7_right : GoodIn wsX7_step wsX7_right := mj_good (mj_cons (mc_X7_step_X7_step_r2 _ (List.mem_of_getElem? (i := 0) rfl)) mj_nil) (by decide +kernel)
set_option maxRecDepth 20000 in
theorem gX7_step_X7_right : GoodIn wsX7_step (va_wsS RX7 223 yX7_right wsX7_right) := goodIn_app (mj_good (mj_cons (mc_X7_step_X7_step_r1 _ (List.mem_of_getElem? (i := 22) rfl)) (mj_cons (mc_X7_step_X7_step_r1 _ (List.mem_of_getElem? (i := 23) rfl)) (mj_cons (mc_X7_step_X7_step_r1 _ (List.mem_of_getElem? (i := 4) rfl)) mj_nil))) (by decide +kernel)) ggX7_step_X7_right
set_option maxRecDepth 20000 in
theorem ggX7_step_X7_down : GoodIn wsX7_step wsX7_down := mj_good (mj_cons (mc_X7_step_X7_step_r2 _ (List.mem_of_getElem? (i := 3) rfl)) mj_nil) (by decide +kernel)
set_option maxRecDepth 20000 in
theorem gX7_step_X7_down : GoodIn wsX7_step (va_wsS RX7 226 yX7_down wsX7_down) := goodIn_app (mj_good (mj_cons (mc_X7_step_X7_step_r2 _ (List.mem_of_getElem? (i := 1) rfl)) (mj_cons (mc_X7_step_X7_step_r2 _ (List.mem_of_getElem? (i := 2) rfl)) (mj_cons (mc_X7_step_X7_step_r1 _ (List.mem_of_getElem? (i := 4) rfl)) mj_nil))) (by decide +kernel)) ggX7_step_X7_down
theorem dX7_step_0 : decode cX7_step 0 = .ok (.aload_n 0, 1) := by decide +kernel
theorem dX7_step_1 : decode cX7_step 1 = .ok (.iload_n 1, 1) := by decide +kernel
theorem dX7_step_2 : decode cX7_step 2 = .ok (.aload_n 0, 1) := by decide +kernel
theorem dX7_step_3 : decode cX7_step 3 = .ok (.getfield 121, 3) := by decide +kernel
theorem dX7_step_6 : decode cX7_step 6 = .ok (.iload_n 1, 1) := by decide +kernel
theorem dX7_step_7 : decode cX7_step 7 = .ok (.iaload, 1) := by decide +kernel
theorem dX7_step_8 : decode cX7_step 8 = .ok (.iconst (-1), 1) := by decide +kernel
theorem dX7_step_9 : decode cX7_step 9 = .ok (.invokevirtual 219, 3) := by decide +kernel
theorem dX7_step_12 : decode cX7_step 12 = .ok (.aload_n 0, 1) := by decide +kernel
theorem dX7_step_13 : decode cX7_step 13 = .ok (.getfield 121, 3) := by decide +kernel
theorem dX7_step_16 : decode cX7_step 16 = .ok (.iload_n 1, 1) := by decide +kernel
theorem dX7_step_17 : decode cX7_step 17 = .ok (.dup2, 1) := by decide +kernel
theorem dX7_step_18 : decode cX7_step 18 = .ok (.iaload, 1) := by decide +kernel
theorem dX7_step_19 : decode cX7_step 19 = .ok (.iload_n 2, 1) := by decide +kernel
theorem dX7_step_20 : decode cX7_step 20 = .ok (.invokestatic 223, 3) := by decide +kernel
theorem dX7_step_23 : decode cX7_step 23 = .ok (.bipush 8, 2) := by decide +kernel
theorem dX7_step_25 : decode cX7_step 25 = .ok (.iload_n 2, 1) := by decide +kernel
theorem dX7_step_26 : decode cX7_step 26 = .ok (.invokestatic 226, 3) := by decide +kernel
theorem dX7_step_29 : decode cX7_step 29 = .ok (.imul, 1) := by decide +kernel
theorem dX7_step_30 : decode cX7_step 30 = .ok (.iadd, 1) := by decide +kernel
theorem dX7_step_31 : decode cX7_step 31 = .ok (.iadd, 1) := by decide +kernel
theorem dX7_step_32 : decode cX7_step 32 = .ok (.iastore, 1) := by decide +kernel
theorem dX7_step_33 : decode cX7_step 33 = .ok (.aload_n 0, 1) := by decide +kernel
theorem dX7_step_34 : decode cX7_step 34 = .ok (.iload_n 1, 1) := by decide +kernel
theorem dX7_step_35 : decode cX7_step 35 = .ok (.aload_n 0, 1) := by decide +kernel
theorem dX7_step_36 : decode cX7_step 36 = .ok (.getfield 121, 3) := by decide +kernel
theorem dX7_step_39 : decode cX7_step 39 = .ok (.iload_n 1, 1) := by decide +kernel
theorem dX7_step_40 : decode cX7_step 40 = .ok (.iaload, 1) := by decide +kernel
theorem dX7_step_41 : decode cX7_step 41 = .ok (.iload_n 1, 1) := by decide +kernel
theorem dX7_step_42 : decode cX7_step 42 = .ok (.invokevirtual 219, 3) := by decide +kernel
theorem dX7_step_45 : decode cX7_step 45 = .ok (.return_, 1) := by decide +kernel
theorem dX7_isFreed_0 : decode cX7_isFreed 0 = .ok (.iconst 0, 1) := by decide +kernel
theorem dX7_isFreed_1 : decode cX7_isFreed 1 = .ok (.istore_n 1, 1) := by decide +kernel
theorem dX7_isFreed_2 : decode cX7_isFreed 2 = .ok (.iload_n 1, 1) := by decide +kernel
theorem dX7_isFreed_3 : decode cX7_isFreed 3 = .ok (.aload_n 0, 1) := by decide +kernel
theorem dX7_isFreed_4 : decode cX7_isFreed 4 = .ok (.getfield 216, 3) := by decide +kernel
theorem dX7_isFreed_7 : decode cX7_isFreed 7 = .ok (.if_icmp .ge 36, 3) := by decide +kernel
theorem dX7_isFreed_10 : decode cX7_isFreed 10 = .ok (.aload_n 0, 1) := by decide +kernel
theorem dX7_isFreed_11 : decode cX7_isFreed 11 = .ok (.getfield 23, 3) := by decide +kernel
theorem dX7_isFreed_14 : decode cX7_isFreed 14 = .ok (.iload_n 1, 1) := by decide +kernel
theorem dX7_isFreed_15 : decode cX7_isFreed 15 = .ok (.iaload, 1) := by decide +kernel
theorem dX7_isFreed_16 : decode cX7_isFreed 16 = .ok (.iconst 5, 1) := by decide +kernel
theorem dX7_isFreed_17 : decode cX7_isFreed 17 = .ok (.if_icmp .ne 20, 3) := by decide +kernel
theorem dX7_isFreed_20 : decode cX7_isFreed 20 = .ok (.aload_n 0, 1) := by decide +kernel
theorem dX7_isFreed_21 : decode cX7_isFreed 21 = .ok (.getfield 121, 3) := by decide +kernel
theorem dX7_isFreed_24 : decode cX7_isFreed 24 = .ok (.iload_n 1, 1) := by decide +kernel
theorem dX7_isFreed_25 : decode cX7_isFreed 25 = .ok (.iaload, 1) := by decide +kernel
theorem dX7_isFreed_26 : decode cX7_isFreed 26 = .ok (.aload_n 0, 1) := by decide +kernel
theorem dX7_isFreed_27 : decode cX7_isFreed 27 = .ok (.getfield 35, 3) := by decide +kernel
theorem dX7_isFreed_30 : decode cX7_isFreed 30 = .ok (.iload_n 1, 1) := by decide +kernel
theorem dX7_isFreed_31 : decode cX7_isFreed 31 = .ok (.iaload, 1) := by decide +kernel
theorem dX7_isFreed_32 : decode cX7_isFreed 32 = .ok (.if_icmp .eq 5, 3) := by decide +kernel
theorem dX7_isFreed_35 : decode cX7_isFreed 35 = .ok (.iconst 0, 1) := by decide +kernel
theorem dX7_isFreed_36 : decode cX7_isFreed 36 = .ok (.ireturn, 1) := by decide +kernel
theorem dX7_isFreed_37 : decode cX7_isFreed 37 = .ok (.iinc 1 1, 3) := by decide +kernel
theorem dX7_isFreed_40 : decode cX7_isFreed 40 = .ok (.goto (-38), 3) := by decide +kernel
theorem dX7_isFreed_43 : decode cX7_isFreed 43 = .ok (.iconst 1, 1) := by decide +kernel
theorem dX7_isFreed_44 : decode cX7_isFreed 44 = .ok (.ireturn, 1) := by decide +kernel
theorem dX7_hash_0 : decode cX7_hash 0 = .ok (.bipush 7, 2) := by decide +kernel
theorem dX7_hash_2 : decode cX7_hash 2 = .ok (.istore_n 1, 1) := by decide +kernel
theorem dX7_hash_3 : decode cX7_hash 3 = .ok (.iconst 0, 1) := by decide +kernel
theorem dX7_hash_4 : decode cX7_hash 4 = .ok (.istore_n 2, 1) := by decide +kernel
theorem dX7_hash_5 : decode cX7_hash 5 = .ok (.iload_n 2, 1) := by decide +kernel
theorem dX7_hash_6 : decode cX7_hash 6 = .ok (.aload_n 0, 1) := by decide +kernel
theorem dX7_hash_7 : decode cX7_hash 7 = .ok (.getfield 216, 3) := by decide +kernel
theorem dX7_hash_10 : decode cX7_hash 10 = .ok (.if_icmp .ge 21, 3) := by decide +kernel
theorem dX7_hash_13 : decode cX7_hash 13 = .ok (.iload_n 1, 1) := by decide +kernel
theorem dX7_hash_14 : decode cX7_hash 14 = .ok (.bipush 67, 2) := by decide +kernel
theorem dX7_hash_16 : decode cX7_hash 16 = .ok (.imul, 1) := by decide +kernel
theorem dX7_hash_17 : decode cX7_hash 17 = .ok (.aload_n 0, 1) := by decide +kernel
theorem dX7_hash_18 : decode cX7_hash 18 = .ok (.getfield 121, 3) := by decide +kernel
theorem dX7_hash_21 : decode cX7_hash 21 = .ok (.iload_n 2, 1) := by decide +kernel
theorem dX7_hash_22 : decode cX7_hash 22 = .ok (.iaload, 1) := by decide +kernel
theorem dX7_hash_23 : decode cX7_hash 23 = .ok (.iadd, 1) := by decide +kernel
theorem dX7_hash_24 : decode cX7_hash 24 = .ok (.istore_n 1, 1) := by decide +kernel
theorem dX7_hash_25 : decode cX7_hash 25 = .ok (.iinc 2 1, 3) := by decide +kernel
theorem dX7_hash_28 : decode cX7_hash 28 = .ok (.goto (-23), 3) := by decide +kernel
theorem dX7_hash_31 : decode cX7_hash 31 = .ok (.iload_n 1, 1) := by decide +kernel
theorem dX7_hash_32 : decode cX7_hash 32 = .ok (.iload_n 1, 1) := by decide +kernel
theorem dX7_hash_33 : decode cX7_hash 33 = .ok (.bipush 15, 2) := by decide +kernel
theorem dX7_hash_35 : decode cX7_hash 35 = .ok (.iushr, 1) := by decide +kernel
theorem dX7_hash_36 : decode cX7_hash 36 = .ok (.ixor, 1) := by decide +kernel
theorem dX7_hash_37 : decode cX7_hash 37 = .ok (.sipush 16383, 3) := by decide +kernel
theorem dX7_hash_40 : decode cX7_hash 40 = .ok (.iand, 1) := by decide +kernel
theorem dX7_hash_41 : decode cX7_hash 41 = .ok (.ireturn, 1) := by decide +kernel
theorem dX7_isHere_0 : decode cX7_isHere 0 = .ok (.iconst 0, 1) := by decide +kernel
theorem dX7_isHere_1 : decode cX7_isHere 1 = .ok (.istore_n 2, 1) := by decide +kernel
theorem dX7_isHere_2 : decode cX7_isHere 2 = .ok (.iload_n 2, 1) := by decide +kernel
theorem dX7_isHere_3 : decode cX7_isHere 3 = .ok (.aload_n 0, 1) := by decide +kernel
theorem dX7_isHere_4 : decode cX7_isHere 4 = .ok (.getfield 216, 3) := by decide +kernel
theorem dX7_isHere_7 : decode cX7_isHere 7 = .ok (.if_icmp .ge 31, 3) := by decide +kernel
theorem dX7_isHere_10 : decode cX7_isHere 10 = .ok (.aload_n 0, 1) := by decide +kernel
theorem dX7_isHere_11 : decode cX7_isHere 11 = .ok (.getfield 76, 3) := by decide +kernel
theorem dX7_isHere_14 : decode cX7_isHere 14 = .ok (.bipush 12, 2) := by decide +kernel
theorem dX7_isHere_16 : decode cX7_isHere 16 = .ok (.iload_n 1, 1) := by decide +kernel
theorem dX7_isHere_17 : decode cX7_isHere 17 = .ok (.imul, 1) := by decide +kernel
theorem dX7_isHere_18 : decode cX7_isHere 18 = .ok (.iload_n 2, 1) := by decide +kernel
theorem dX7_isHere_19 : decode cX7_isHere 19 = .ok (.iadd, 1) := by decide +kernel
theorem dX7_isHere_20 : decode cX7_isHere 20 = .ok (.baload, 1) := by decide +kernel
theorem dX7_isHere_21 : decode cX7_isHere 21 = .ok (.aload_n 0, 1) := by decide +kernel
theorem dX7_isHere_22 : decode cX7_isHere 22 = .ok (.getfield 121, 3) := by decide +kernel
theorem dX7_isHere_25 : decode cX7_isHere 25 = .ok (.iload_n 2, 1) := by decide +kernel
theorem dX7_isHere_26 : decode cX7_isHere 26 = .ok (.iaload, 1) := by decide +kernel
theorem dX7_isHere_27 : decode cX7_isHere 27 = .ok (.if_icmp .eq 5, 3) := by decide +kernel
theorem dX7_isHere_30 : decode cX7_isHere 30 = .ok (.iconst 0, 1) := by decide +kernel
theorem dX7_isHere_31 : decode cX7_isHere 31 = .ok (.ireturn, 1) := by decide +kernel
theorem dX7_isHere_32 : decode cX7_isHere 32 = .ok (.iinc 2 1, 3) := by decide +kernel
theorem dX7_isHere_35 : decode cX7_isHere 35 = .ok (.goto (-33), 3) := by decide +kernel
theorem dX7_isHere_38 : decode cX7_isHere 38 = .ok (.iconst 1, 1) := by decide +kernel
theorem dX7_isHere_39 : decode cX7_isHere 39 = .ok (.ireturn, 1) := by decide +kernel
set_option maxRecDepth 20000 in
theorem mc_X7_numberOf_X70 : mjIn wsX7_numberOf wsX70 := fun w h => (List.mem_cons_of_mem _ (List.mem_append_right _ h))
set_option maxRecDepth 20000 in
theorem ggX7_numberOf_X7_hash : GoodIn wsX7_numberOf wsX7_hash := mj_good (mj_cons (List.mem_of_getElem? (i := 11) rfl) (mj_app (mj_cons (List.mem_of_getElem? (i := 4) rfl) (mj_cons (List.mem_of_getElem? (i := 6) rfl) mj_nil)) mc_X7_numberOf_X70)) (by decide +kernel)
set_option maxRecDepth 20000 in
theorem gX7_numberOf_X7_hash : GoodIn wsX7_numberOf (wsV RX7 249 RX7 yX7_hash wsX7_hash) := goodIn_app (mj_good (mj_cons (List.mem_of_getElem? (i := 7) rfl) (mj_cons (List.mem_of_getElem? (i := 8) rfl) (mj_cons (List.mem_of_getElem? (i := 9) rfl) (mj_cons (List.mem_of_getElem? (i := 10) rfl) mj_nil)))) (by decide +kernel)) ggX7_numberOf_X7_hash
set_option maxRecDepth 20000 in
theorem ggX7_numberOf_X7_isHere : GoodIn wsX7_numberOf wsX7_isHere := mj_good (mj_cons (List.mem_of_getElem? (i := 15) rfl) (mj_app (mj_cons (List.mem_of_getElem? (i := 4) rfl) (mj_cons (List.mem_of_getElem? (i := 5) rfl) (mj_cons (List.mem_of_getElem? (i := 6) rfl) mj_nil))) mc_X7_numberOf_X70)) (by decide +kernel)
set_option maxRecDepth 20000 in
theorem gX7_numberOf_X7_isHere : GoodIn wsX7_numberOf (wsV RX7 253 RX7 yX7_isHere wsX7_isHere) := goodIn_app (mj_good (mj_cons (List.mem_of_getElem? (i := 12) rfl) (mj_cons (List.mem_of_getElem? (i := 13) rfl) (mj_cons (List.mem_of_getElem? (i := 14) rfl) (mj_cons (List.mem_of_getElem? (i := 10) rfl) mj_nil)))) (by decide +kernel)) ggX7_numberOf_X7_isHere
theorem dX7_numberOf_0 : decode cX7_numberOf 0 = .ok (.aload_n 0, 1) := by decide +kernel
theorem dX7_numberOf_1 : decode cX7_numberOf 1 = .ok (.invokevirtual 249, 3) := by decide +kernel
theorem dX7_numberOf_4 : decode cX7_numberOf 4 = .ok (.istore_n 1, 1) := by decide +kernel
theorem dX7_numberOf_5 : decode cX7_numberOf 5 = .ok (.aload_n 0, 1) := by decide +kernel
theorem dX7_numberOf_6 : decode cX7_numberOf 6 = .ok (.getfield 80, 3) := by decide +kernel
theorem dX7_numberOf_9 : decode cX7_numberOf 9 = .ok (.iload_n 1, 1) := by decide +kernel
theorem dX7_numberOf_10 : decode cX7_numberOf 10 = .ok (.iaload, 1) := by decide +kernel
theorem dX7_numberOf_11 : decode cX7_numberOf 11 = .ok (.istore_n 2, 1) := by decide +kernel
theorem dX7_numberOf_12 : decode cX7_numberOf 12 = .ok (.iload_n 2, 1) := by decide +kernel
theorem dX7_numberOf_13 : decode cX7_numberOf 13 = .ok (.ifCond .lt 21, 3) := by decide +kernel
theorem dX7_numberOf_16 : decode cX7_numberOf 16 = .ok (.aload_n 0, 1) := by decide +kernel
theorem dX7_numberOf_17 : decode cX7_numberOf 17 = .ok (.iload_n 2, 1) := by decide +kernel
theorem dX7_numberOf_18 : decode cX7_numberOf 18 = .ok (.invokevirtual 253, 3) := by decide +kernel
theorem dX7_numberOf_21 : decode cX7_numberOf 21 = .ok (.ifCond .ne 13, 3) := by decide +kernel
theorem dX7_numberOf_24 : decode cX7_numberOf 24 = .ok (.aload_n 0, 1) := by decide +kernel
theorem dX7_numberOf_25 : decode cX7_numberOf 25 = .ok (.getfield 83, 3) := by decide +kernel
theorem dX7_numberOf_28 : decode cX7_numberOf 28 = .ok (.iload_n 2, 1) := by decide +kernel
theorem dX7_numberOf_29 : decode cX7_numberOf 29 = .ok (.iaload, 1) := by decide +kernel
theorem dX7_numberOf_30 : decode cX7_numberOf 30 = .ok (.istore_n 2, 1) := by decide +kernel
theorem dX7_numberOf_31 : decode cX7_numberOf 31 = .ok (.goto (-19), 3) := by decide +kernel
theorem dX7_numberOf_34 : decode cX7_numberOf 34 = .ok (.iload_n 2, 1) := by decide +kernel
theorem dX7_numberOf_35 : decode cX7_numberOf 35 = .ok (.ifCond .lt 5, 3) := by decide +kernel
theorem dX7_numberOf_38 : decode cX7_numberOf 38 = .ok (.iload_n 2, 1) := by decide +kernel
theorem dX7_numberOf_39 : decode cX7_numberOf 39 = .ok (.ireturn, 1) := by decide +kernel
theorem dX7_numberOf_40 : decode cX7_numberOf 40 = .ok (.aload_n 0, 1) := by decide +kernel
theorem dX7_numberOf_41 : decode cX7_numberOf 41 = .ok (.getfield 256, 3) := by decide +kernel
theorem dX7_numberOf_44 : decode cX7_numberOf 44 = .ok (.istore_n 2, 1) := by decide +kernel
theorem dX7_numberOf_45 : decode cX7_numberOf 45 = .ok (.iconst 0, 1) := by decide +kernel
theorem dX7_numberOf_46 : decode cX7_numberOf 46 = .ok (.istore_n 3, 1) := by decide +kernel
theorem dX7_numberOf_47 : decode cX7_numberOf 47 = .ok (.iload_n 3, 1) := by decide +kernel
theorem dX7_numberOf_48 : decode cX7_numberOf 48 = .ok (.aload_n 0, 1) := by decide +kernel
theorem dX7_numberOf_49 : decode cX7_numberOf 49 = .ok (.getfield 216, 3) := by decide +kernel
theorem dX7_numberOf_52 : decode cX7_numberOf 52 = .ok (.if_icmp .ge 27, 3) := by decide +kernel
theorem dX7_numberOf_55 : decode cX7_numberOf 55 = .ok (.aload_n 0, 1) := by decide +kernel
theorem dX7_numberOf_56 : decode cX7_numberOf 56 = .ok (.getfield 76, 3) := by decide +kernel
theorem dX7_numberOf_59 : decode cX7_numberOf 59 = .ok (.bipush 12, 2) := by decide +kernel
theorem dX7_numberOf_61 : decode cX7_numberOf 61 = .ok (.iload_n 2, 1) := by decide +kernel
theorem dX7_numberOf_62 : decode cX7_numberOf 62 = .ok (.imul, 1) := by decide +kernel
theorem dX7_numberOf_63 : decode cX7_numberOf 63 = .ok (.iload_n 3, 1) := by decide +kernel
theorem dX7_numberOf_64 : decode cX7_numberOf 64 = .ok (.iadd, 1) := by decide +kernel
theorem dX7_numberOf_65 : decode cX7_numberOf 65 = .ok (.aload_n 0, 1) := by decide +kernel
theorem dX7_numberOf_66 : decode cX7_numberOf 66 = .ok (.getfield 121, 3) := by decide +kernel
theorem dX7_numberOf_69 : decode cX7_numberOf 69 = .ok (.iload_n 3, 1) := by decide +kernel
theorem dX7_numberOf_70 : decode cX7_numberOf 70 = .ok (.iaload, 1) := by decide +kernel
theorem dX7_numberOf_71 : decode cX7_numberOf 71 = .ok (.i2b, 1) := by decide +kernel
theorem dX7_numberOf_72 : decode cX7_numberOf 72 = .ok (.bastore, 1) := by decide +kernel
theorem dX7_numberOf_73 : decode cX7_numberOf 73 = .ok (.iinc 3 1, 3) := by decide +kernel
theorem dX7_numberOf_76 : decode cX7_numberOf 76 = .ok (.goto (-29), 3) := by decide +kernel
theorem dX7_numberOf_79 : decode cX7_numberOf 79 = .ok (.aload_n 0, 1) := by decide +kernel
theorem dX7_numberOf_80 : decode cX7_numberOf 80 = .ok (.getfield 83, 3) := by decide +kernel
theorem dX7_numberOf_83 : decode cX7_numberOf 83 = .ok (.iload_n 2, 1) := by decide +kernel
theorem dX7_numberOf_84 : decode cX7_numberOf 84 = .ok (.aload_n 0, 1) := by decide +kernel
theorem dX7_numberOf_85 : decode cX7_numberOf 85 = .ok (.getfield 80, 3) := by decide +kernel
theorem dX7_numberOf_88 : decode cX7_numberOf 88 = .ok (.iload_n 1, 1) := by decide +kernel
theorem dX7_numberOf_89 : decode cX7_numberOf 89 = .ok (.iaload, 1) := by decide +kernel
theorem dX7_numberOf_90 : decode cX7_numberOf 90 = .ok (.iastore, 1) := by decide +kernel
theorem dX7_numberOf_91 : decode cX7_numberOf 91 = .ok (.aload_n 0, 1) := by decide +kernel
theorem dX7_numberOf_92 : decode cX7_numberOf 92 = .ok (.getfield 80, 3) := by decide +kernel
theorem dX7_numberOf_95 : decode cX7_numberOf 95 = .ok (.iload_n 1, 1) := by decide +kernel
theorem dX7_numberOf_96 : decode cX7_numberOf 96 = .ok (.iload_n 2, 1) := by decide +kernel
theorem dX7_numberOf_97 : decode cX7_numberOf 97 = .ok (.iastore, 1) := by decide +kernel
theorem dX7_numberOf_98 : decode cX7_numberOf 98 = .ok (.aload_n 0, 1) := by decide +kernel
theorem dX7_numberOf_99 : decode cX7_numberOf 99 = .ok (.dup, 1) := by decide +kernel
theorem dX7_numberOf_100 : decode cX7_numberOf 100 = .ok (.getfield 256, 3) := by decide +kernel
theorem dX7_numberOf_103 : decode cX7_numberOf 103 = .ok (.iconst 1, 1) := by decide +kernel
theorem dX7_numberOf_104 : decode cX7_numberOf 104 = .ok (.iadd, 1) := by decide +kernel
theorem dX7_numberOf_105 : decode cX7_numberOf 105 = .ok (.putfield 256, 3) := by decide +kernel
theorem dX7_numberOf_108 : decode cX7_numberOf 108 = .ok (.iload_n 2, 1) := by decide +kernel
theorem dX7_numberOf_109 : decode cX7_numberOf 109 = .ok (.ireturn, 1) := by decide +kernel
set_option maxRecDepth 20000 in
theorem mc_X7_look_X7_look_r1 : mjIn wsX7_look wsX7_look_r1 := fun w h => (List.mem_cons_of_mem _ (List.mem_append_left _ (List.mem_append_left _ h)))
set_option maxRecDepth 20000 in
theorem mc_X7_look_X70 : mjIn wsX7_look wsX70 := fun w h => (List.mem_cons_of_mem _ (List.mem_append_right _ h))
set_option maxRecDepth 20000 in
theorem ggX7_look_X7_clearWho : GoodIn wsX7_look wsX7_clearWho := mj_good (mj_cons (mc_X7_look_X7_look_r1 _ (List.mem_of_getElem? (i := 7) rfl)) (mj_app (mj_cons (mc_X7_look_X7_look_r1 _ (List.mem_of_getElem? (i := 8) rfl)) mj_nil) mc_X7_look_X70)) (by decide +kernel)
set_option maxRecDepth 20000 in
theorem gX7_look_X7_clearWho : GoodIn wsX7_look (wsV RX7 213 RX7 yX7_clearWho wsX7_clearWho) := goodIn_app (mj_good (mj_cons (mc_X7_look_X7_look_r1 _ (List.mem_of_getElem? (i := 3) rfl)) (mj_cons (mc_X7_look_X7_look_r1 _ (List.mem_of_getElem? (i := 4) rfl)) (mj_cons (mc_X7_look_X7_look_r1 _ (List.mem_of_getElem? (i := 5) rfl)) (mj_cons (mc_X7_look_X7_look_r1 _ (List.mem_of_getElem? (i := 6) rfl)) mj_nil)))) (by decide +kernel)) ggX7_look_X7_clearWho
set_option maxRecDepth 20000 in
theorem mc_X7_look_X7_look_r2 : mjIn wsX7_look wsX7_look_r2 := fun w h => (List.mem_cons_of_mem _ (List.mem_append_left _ (List.mem_append_right _ h)))
set_option maxRecDepth 20000 in
theorem ggX7_look_X7_lay : GoodIn wsX7_look wsX7_lay := mj_good (mj_cons (mc_X7_look_X7_look_r1 _ (List.mem_of_getElem? (i := 12) rfl)) (mj_app (mj_cons (mc_X7_look_X7_look_r1 _ (List.mem_of_getElem? (i := 8) rfl)) (mj_cons (mc_X7_look_X7_look_r1 _ (List.mem_of_getElem? (i := 13) rfl)) (mj_cons (mc_X7_look_X7_look_r1 _ (List.mem_of_getElem? (i := 14) rfl)) (mj_cons (mc_X7_look_X7_look_r1 _ (List.mem_of_getElem? (i := 15) rfl)) (mj_cons (mc_X7_look_X7_look_r1 _ (List.mem_of_getElem? (i := 6) rfl)) (mj_cons (mc_X7_look_X7_look_r1 _ (List.mem_of_getElem? (i := 16) rfl)) (mj_cons (mc_X7_look_X7_look_r1 _ (List.mem_of_getElem? (i := 17) rfl)) (mj_cons (mc_X7_look_X7_look_r1 _ (List.mem_of_getElem? (i := 18) rfl)) (mj_cons (mc_X7_look_X7_look_r1 _ (List.mem_of_getElem? (i := 19) rfl)) (mj_cons (mc_X7_look_X7_look_r1 _ (List.mem_of_getElem? (i := 20) rfl)) (mj_cons (mc_X7_look_X7_look_r1 _ (List.mem_of_getElem? (i := 21) rfl)) (mj_cons (mc_X7_look_X7_look_r1 _ (List.mem_of_getElem? (i := 22) rfl)) (mj_cons (mc_X7_look_X7_look_r1 _ (List.mem_of_getElem? (i := 23) rfl)) (mj_cons (mc_X7_look_X7_look_r2 _ (List.mem_of_getElem? (i := 0) rfl)) (mj_cons (mc_X7_look_X7_look_r2 _ (List.mem_of_getElem? (i := 1) rfl)) (mj_cons (mc_X7_look_X7_look_r2 _ (List.mem_of_getElem? (i := 2) rfl)) (mj_cons (mc_X7_look_X7_look_r2 _ (List.mem_of_getElem? (i := 3) rfl)) mj_nil))))))))))))))))) mc_X7_look_X70)) (by decide +kernel)
set_option maxRecDepth 20000 in
theorem gX7_look_X7_lay : GoodIn wsX7_look (wsV RX7 219 RX7 yX7_lay wsX7_lay) := goodIn_app (mj_good (mj_cons (mc_X7_look_X7_look_r1 _ (List.mem_of_getElem? (i := 9) rfl)) (mj_cons (mc_X7_look_X7_look_r1 _ (List.mem_of_getElem? (i := 10) rfl)) (mj_cons (mc_X7_look_X7_look_r1 _ (List.mem_of_getElem? (i := 11) rfl)) (mj_cons (mc_X7_look_X7_look_r1 _ (List.mem_of_getElem? (i := 6) rfl)) mj_nil)))) (by decide +kernel)) ggX7_look_X7_lay
theorem dX7_look_0 : decode cX7_look 0 = .ok (.aload_n 0, 1) := by decide +kernel
theorem dX7_look_1 : decode cX7_look 1 = .ok (.invokevirtual 213, 3) := by decide +kernel
theorem dX7_look_4 : decode cX7_look 4 = .ok (.iconst 0, 1) := by decide +kernel
theorem dX7_look_5 : decode cX7_look 5 = .ok (.istore_n 2, 1) := by decide +kernel
theorem dX7_look_6 : decode cX7_look 6 = .ok (.iload_n 2, 1) := by decide +kernel
theorem dX7_look_7 : decode cX7_look 7 = .ok (.aload_n 0, 1) := by decide +kernel
theorem dX7_look_8 : decode cX7_look 8 = .ok (.getfield 216, 3) := by decide +kernel
theorem dX7_look_11 : decode cX7_look 11 = .ok (.if_icmp .ge 38, 3) := by decide +kernel
theorem dX7_look_14 : decode cX7_look 14 = .ok (.aload_n 0, 1) := by decide +kernel
theorem dX7_look_15 : decode cX7_look 15 = .ok (.getfield 121, 3) := by decide +kernel
theorem dX7_look_18 : decode cX7_look 18 = .ok (.iload_n 2, 1) := by decide +kernel
theorem dX7_look_19 : decode cX7_look 19 = .ok (.aload_n 0, 1) := by decide +kernel
theorem dX7_look_20 : decode cX7_look 20 = .ok (.getfield 76, 3) := by decide +kernel
theorem dX7_look_23 : decode cX7_look 23 = .ok (.bipush 12, 2) := by decide +kernel
theorem dX7_look_25 : decode cX7_look 25 = .ok (.iload_n 1, 1) := by decide +kernel
theorem dX7_look_26 : decode cX7_look 26 = .ok (.imul, 1) := by decide +kernel
theorem dX7_look_27 : decode cX7_look 27 = .ok (.iload_n 2, 1) := by decide +kernel
theorem dX7_look_28 : decode cX7_look 28 = .ok (.iadd, 1) := by decide +kernel
theorem dX7_look_29 : decode cX7_look 29 = .ok (.baload, 1) := by decide +kernel
theorem dX7_look_30 : decode cX7_look 30 = .ok (.iastore, 1) := by decide +kernel
theorem dX7_look_31 : decode cX7_look 31 = .ok (.aload_n 0, 1) := by decide +kernel
theorem dX7_look_32 : decode cX7_look 32 = .ok (.iload_n 2, 1) := by decide +kernel
theorem dX7_look_33 : decode cX7_look 33 = .ok (.aload_n 0, 1) := by decide +kernel
theorem dX7_look_34 : decode cX7_look 34 = .ok (.getfield 121, 3) := by decide +kernel
theorem dX7_look_37 : decode cX7_look 37 = .ok (.iload_n 2, 1) := by decide +kernel
theorem dX7_look_38 : decode cX7_look 38 = .ok (.iaload, 1) := by decide +kernel
theorem dX7_look_39 : decode cX7_look 39 = .ok (.iload_n 2, 1) := by decide +kernel
theorem dX7_look_40 : decode cX7_look 40 = .ok (.invokevirtual 219, 3) := by decide +kernel
theorem dX7_look_43 : decode cX7_look 43 = .ok (.iinc 2 1, 3) := by decide +kernel
theorem dX7_look_46 : decode cX7_look 46 = .ok (.goto (-40), 3) := by decide +kernel
theorem dX7_look_49 : decode cX7_look 49 = .ok (.return_, 1) := by decide +kernel
set_option maxRecDepth 20000 in
theorem mc_X7_looksAtAll_X7_looksAtAll_r1 : mjIn wsX7_looksAtAll wsX7_looksAtAll_r1 := fun w h => (List.mem_cons_of_mem _ (List.mem_append_left _ (List.mem_append_left _ h)))
set_option maxRecDepth 20000 in
theorem mc_X7_looksAtAll_X7_looksAtAll_r2 : mjIn wsX7_looksAtAll wsX7_looksAtAll_r2 := fun w h => (List.mem_cons_of_mem _ (List.mem_append_left _ (List.mem_append_right _ (List.mem_append_left _ h))))
set_option maxRecDepth 20000 in
theorem mc_X7_looksAtAll_X70 : mjIn wsX7_looksAtAll wsX70 := fun w h => (List.mem_cons_of_mem _ (List.mem_append_right _ h))
set_option maxRecDepth 20000 in
theorem ggX7_looksAtAll_X7_layAll : GoodIn wsX7_looksAtAll wsX7_layAll := mj_good (mj_cons (mc_X7_looksAtAll_X7_looksAtAll_r1 _ (List.mem_of_getElem? (i := 11) rfl)) (mj_app (mj_app (mj_cons (mc_X7_looksAtAll_X7_looksAtAll_r1 _ (List.mem_of_getElem? (i := 6) rfl)) (mj_cons (mc_X7_looksAtAll_X7_looksAtAll_r1 _ (List.mem_of_getElem? (i := 12) rfl)) (mj_cons (mc_X7_looksAtAll_X7_looksAtAll_r1 _ (List.mem_of_getElem? (i := 13) rfl)) (mj_cons (mc_X7_looksAtAll_X7_looksAtAll_r1 _ (List.mem_of_getElem? (i := 14) rfl)) (mj_cons (mc_X7_looksAtAll_X7_looksAtAll_r1 _ (List.mem_of_getElem? (i := 15) rfl)) (mj_cons (mc_X7_looksAtAll_X7_looksAtAll_r1 _ (List.mem_of_getElem? (i := 16) rfl)) (mj_cons (mc_X7_looksAtAll_X7_looksAtAll_r1 _ (List.mem_of_getElem? (i := 10) rfl)) (mj_cons (mc_X7_looksAtAll_X7_looksAtAll_r1 _ (List.mem_of_getElem? (i := 17) rfl)) (mj_cons (mc_X7_looksAtAll_X7_looksAtAll_r1 _ (List.mem_of_getElem? (i := 18) rfl)) (mj_cons (mc_X7_looksAtAll_X7_looksAtAll_r1 _ (List.mem_of_getElem? (i := 19) rfl)) (mj_cons (mc_X7_looksAtAll_X7_looksAtAll_r1 _ (List.mem_of_getElem? (i := 20) rfl)) (mj_cons (mc_X7_looksAtAll_X7_looksAtAll_r1 _ (List.mem_of_getElem? (i := 21) rfl)) (mj_cons (mc_X7_looksAtAll_X7_looksAtAll_r1 _ (List.mem_of_getElem? (i := 22) rfl)) (mj_cons (mc_X7_looksAtAll_X7_looksAtAll_r1 _ (List.mem_of_getElem? (i := 23) rfl)) (mj_cons (mc_X7_looksAtAll_X7_looksAtAll_r2 _ (List.mem_of_getElem? (i := 0) rfl)) (mj_cons (mc_X7_looksAtAll_X7_looksAtAll_r2 _ (List.mem_of_getElem? (i := 1) rfl)) (mj_cons (mc_X7_looksAtAll_X7_looksAtAll_r2 _ (List.mem_of_getElem? (i := 2) rfl)) (mj_cons (mc_X7_looksAtAll_X7_looksAtAll_r2 _ (List.mem_of_getElem? (i := 3) rfl)) (mj_cons (mc_X7_looksAtAll_X7_looksAtAll_r2 _ (List.mem_of_getElem? (i := 4) rfl)) (mj_cons (mc_X7_looksAtAll_X7_looksAtAll_r2 _ (List.mem_of_getElem? (i := 5) rfl)) (mj_cons (mc_X7_looksAtAll_X7_looksAtAll_r2 _ (List.mem_of_getElem? (i := 6) rfl)) (mj_cons (mc_X7_looksAtAll_X7_looksAtAll_r2 _ (List.mem_of_getElem? (i := 7) rfl)) (mj_cons (mc_X7_looksAtAll_X7_looksAtAll_r2 _ (List.mem_of_getElem? (i := 8) rfl)) (mj_cons (mc_X7_looksAtAll_X7_looksAtAll_r2 _ (List.mem_of_getElem? (i := 9) rfl)) mj_nil)))))))))))))))))))))))) (mj_cons (mc_X7_looksAtAll_X7_looksAtAll_r2 _ (List.mem_of_getElem? (i := 10) rfl)) (mj_cons (mc_X7_looksAtAll_X7_looksAtAll_r2 _ (List.mem_of_getElem? (i := 11) rfl)) (mj_cons (mc_X7_looksAtAll_X7_looksAtAll_r2 _ (List.mem_of_getElem? (i := 12) rfl)) (mj_cons (mc_X7_looksAtAll_X7_looksAtAll_r2 _ (List.mem_of_getElem? (i := 13) rfl)) mj_nil))))) mc_X7_looksAtAll_X70)) (by decide +kernel)
set_option maxRecDepth 20000 in
theorem gX7_looksAtAll_X7_layAll : GoodIn wsX7_looksAtAll (wsV RX7 262 RX7 yX7_layAll wsX7_layAll) := goodIn_app (mj_good (mj_cons (mc_X7_looksAtAll_X7_looksAtAll_r1 _ (List.mem_of_getElem? (i := 7) rfl)) (mj_cons (mc_X7_looksAtAll_X7_looksAtAll_r1 _ (List.mem_of_getElem? (i := 8) rfl)) (mj_cons (mc_X7_looksAtAll_X7_looksAtAll_r1 _ (List.mem_of_getElem? (i := 9) rfl)) (mj_cons (mc_X7_looksAtAll_X7_looksAtAll_r1 _ (List.mem_of_getElem? (i := 10) rfl)) mj_nil)))) (by decide +kernel)) ggX7_looksAtAll_X7_layAll
set_option maxRecDepth 20000 in
theorem mc_X7_looksAtAll_X7_looksAtAll_r3 : mjIn wsX7_looksAtAll wsX7_looksAtAll_r3 := fun w h => (List.mem_cons_of_mem _ (List.mem_append_left _ (List.mem_append_right _ (List.mem_append_right _ (List.mem_append_left _ h)))))
set_option maxRecDepth 20000 in
theorem ggX7_looksAtAll_X7_numberOf : GoodIn wsX7_looksAtAll wsX7_numberOf := mj_good (mj_cons (mc_X7_looksAtAll_X7_looksAtAll_r2 _ (List.mem_of_getElem? (i := 17) rfl)) (mj_app (mj_cons (mc_X7_looksAtAll_X7_looksAtAll_r1 _ (List.mem_of_getElem? (i := 0) rfl)) (mj_cons (mc_X7_looksAtAll_X7_looksAtAll_r2 _ (List.mem_of_getElem? (i := 18) rfl)) (mj_cons (mc_X7_looksAtAll_X7_looksAtAll_r1 _ (List.mem_of_getElem? (i := 1) rfl)) (mj_cons (mc_X7_looksAtAll_X7_looksAtAll_r1 _ (List.mem_of_getElem? (i := 6) rfl)) (mj_cons (mc_X7_looksAtAll_X7_looksAtAll_r2 _ (List.mem_of_getElem? (i := 19) rfl)) (mj_cons (mc_X7_looksAtAll_X7_looksAtAll_r1 _ (List.mem_of_getElem? (i := 12) rfl)) (mj_cons (mc_X7_looksAtAll_X7_looksAtAll_r2 _ (List.mem_of_getElem? (i := 20) rfl)) (mj_cons (mc_X7_looksAtAll_X7_looksAtAll_r2 _ (List.mem_of_getElem? (i := 21) rfl)) (mj_cons (mc_X7_looksAtAll_X7_looksAtAll_r2 _ (List.mem_of_getElem? (i := 22) rfl)) (mj_cons (mc_X7_looksAtAll_X7_looksAtAll_r1 _ (List.mem_of_getElem? (i := 10) rfl)) (mj_cons (mc_X7_looksAtAll_X7_looksAtAll_r2 _ (List.mem_of_getElem? (i := 23) rfl)) (mj_cons (mc_X7_looksAtAll_X7_looksAtAll_r3 _ (List.mem_of_getElem? (i := 0) rfl)) (mj_cons (mc_X7_looksAtAll_X7_looksAtAll_r3 _ (List.mem_of_getElem? (i := 1) rfl)) (mj_cons (mc_X7_looksAtAll_X7_looksAtAll_r3 _ (List.mem_of_getElem? (i := 2) rfl)) (mj_cons (mc_X7_looksAtAll_X7_looksAtAll_r3 _ (List.mem_of_getElem? (i := 3) rfl)) mj_nil))))))))))))))) mc_X7_looksAtAll_X70)) (by decide +kernel)
set_option maxRecDepth 20000 in
theorem gX7_looksAtAll_X7_numberOf : GoodIn wsX7_looksAtAll (wsV RX7 265 RX7 yX7_numberOf wsX7_numberOf) := goodIn_app (mj_good (mj_cons (mc_X7_looksAtAll_X7_looksAtAll_r2 _ (List.mem_of_getElem? (i := 14) rfl)) (mj_cons (mc_X7_looksAtAll_X7_looksAtAll_r2 _ (List.mem_of_getElem? (i := 15) rfl)) (mj_cons (mc_X7_looksAtAll_X7_looksAtAll_r2 _ (List.mem_of_getElem? (i := 16) rfl)) (mj_cons (mc_X7_looksAtAll_X7_looksAtAll_r1 _ (List.mem_of_getElem? (i := 10) rfl)) mj_nil)))) (by decide +kernel)) ggX7_looksAtAll_X7_numberOf
set_option maxRecDepth 20000 in
theorem ggX7_looksAtAll_X7_look : GoodIn wsX7_looksAtAll wsX7_look := mj_good (mj_cons (mc_X7_looksAtAll_X7_looksAtAll_r3 _ (List.mem_of_getElem? (i := 7) rfl)) (mj_app (mj_app (mj_cons (mc_X7_looksAtAll_X7_looksAtAll_r1 _ (List.mem_of_getElem? (i := 6) rfl)) (mj_cons (mc_X7_looksAtAll_X7_looksAtAll_r1 _ (List.mem_of_getElem? (i := 12) rfl)) (mj_cons (mc_X7_looksAtAll_X7_looksAtAll_r2 _ (List.mem_of_getElem? (i := 19) rfl)) (mj_cons (mc_X7_looksAtAll_X7_looksAtAll_r1 _ (List.mem_of_getElem? (i := 14) rfl)) (mj_cons (mc_X7_looksAtAll_X7_looksAtAll_r1 _ (List.mem_of_getElem? (i := 15) rfl)) (mj_cons (mc_X7_looksAtAll_X7_looksAtAll_r1 _ (List.mem_of_getElem? (i := 16) rfl)) (mj_cons (mc_X7_looksAtAll_X7_looksAtAll_r1 _ (List.mem_of_getElem? (i := 10) rfl)) (mj_cons (mc_X7_looksAtAll_X7_looksAtAll_r1 _ (List.mem_of_getElem? (i := 17) rfl)) (mj_cons (mc_X7_looksAtAll_X7_looksAtAll_r1 _ (List.mem_of_getElem? (i := 18) rfl)) (mj_cons (mc_X7_looksAtAll_X7_looksAtAll_r1 _ (List.mem_of_getElem? (i := 19) rfl)) (mj_cons (mc_X7_looksAtAll_X7_looksAtAll_r1 _ (List.mem_of_getElem? (i := 20) rfl)) (mj_cons (mc_X7_looksAtAll_X7_looksAtAll_r1 _ (List.mem_of_getElem? (i := 21) rfl)) (mj_cons (mc_X7_looksAtAll_X7_looksAtAll_r1 _ (List.mem_of_getElem? (i := 22) rfl)) (mj_cons (mc_X7_looksAtAll_X7_looksAtAll_r1 _ (List.mem_of_getElem? (i := 23) rfl)) (mj_cons (mc_X7_looksAtAll_X7_looksAtAll_r2 _ (List.mem_of_getElem? (i := 0) rfl)) (mj_cons (mc_X7_looksAtAll_X7_looksAtAll_r2 _ (List.mem_of_getElem? (i := 1) rfl)) (mj_cons (mc_X7_looksAtAll_X7_looksAtAll_r2 _ (List.mem_of_getElem? (i := 2) rfl)) (mj_cons (mc_X7_looksAtAll_X7_looksAtAll_r2 _ (List.mem_of_getElem? (i := 3) rfl)) (mj_cons (mc_X7_looksAtAll_X7_looksAtAll_r2 _ (List.mem_of_getElem? (i := 4) rfl)) (mj_cons (mc_X7_looksAtAll_X7_looksAtAll_r2 _ (List.mem_of_getElem? (i := 5) rfl)) (mj_cons (mc_X7_looksAtAll_X7_looksAtAll_r2 _ (List.mem_of_getElem? (i := 6) rfl)) (mj_cons (mc_X7_looksAtAll_X7_looksAtAll_r2 _ (List.mem_of_getElem? (i := 7) rfl)) (mj_cons (mc_X7_looksAtAll_X7_looksAtAll_r2 _ (List.mem_of_getElem? (i := 8) rfl)) (mj_cons (mc_X7_looksAtAll_X7_looksAtAll_r2 _ (List.mem_of_getElem? (i := 9) rfl)) mj_nil)))))))))))))))))))))))) (mj_cons (mc_X7_looksAtAll_X7_looksAtAll_r2 _ (List.mem_of_getElem? (i := 10) rfl)) (mj_cons (mc_X7_looksAtAll_X7_looksAtAll_r2 _ (List.mem_of_getElem? (i := 11) rfl)) (mj_cons (mc_X7_looksAtAll_X7_looksAtAll_r2 _ (List.mem_of_getElem? (i := 12) rfl)) (mj_cons (mc_X7_looksAtAll_X7_looksAtAll_r2 _ (List.mem_of_getElem? (i := 13) rfl)) mj_nil))))) mc_X7_looksAtAll_X70)) (by decide +kernel)
set_option maxRecDepth 20000 in
theorem gX7_looksAtAll_X7_look : GoodIn wsX7_looksAtAll (wsV RX7 268 RX7 yX7_look wsX7_look) := goodIn_app (mj_good (mj_cons (mc_X7_looksAtAll_X7_looksAtAll_r3 _ (List.mem_of_getElem? (i := 4) rfl)) (mj_cons (mc_X7_looksAtAll_X7_looksAtAll_r3 _ (List.mem_of_getElem? (i := 5) rfl)) (mj_cons (mc_X7_looksAtAll_X7_looksAtAll_r3 _ (List.mem_of_getElem? (i := 6) rfl)) (mj_cons (mc_X7_looksAtAll_X7_looksAtAll_r1 _ (List.mem_of_getElem? (i := 10) rfl)) mj_nil)))) (by decide +kernel)) ggX7_looksAtAll_X7_look
set_option maxRecDepth 20000 in
theorem mc_X7_looksAtAll_X7_looksAtAll_r4 : mjIn wsX7_looksAtAll wsX7_looksAtAll_r4 := fun w h => (List.mem_cons_of_mem _ (List.mem_append_left _ (List.mem_append_right _ (List.mem_append_right _ (List.mem_append_right _ (List.mem_append_left _ h))))))
set_option maxRecDepth 20000 in
theorem mc_X7_looksAtAll_X7_looksAtAll_r5 : mjIn wsX7_looksAtAll wsX7_looksAtAll_r5 := fun w h => (List.mem_cons_of_mem _ (List.mem_append_left _ (List.mem_append_right _ (List.mem_append_right _ (List.mem_append_right _ (List.mem_append_right _ h))))))
set_option maxRecDepth 20000 in
theorem ggX7_looksAtAll_X7_goesOn : GoodIn wsX7_looksAtAll wsX7_goesOn := mj_good (mj_cons (mc_X7_looksAtAll_X7_looksAtAll_r3 _ (List.mem_of_getElem? (i := 11) rfl)) (mj_app (mj_app (mj_cons (mc_X7_looksAtAll_X7_looksAtAll_r1 _ (List.mem_of_getElem? (i := 12) rfl)) (mj_cons (mc_X7_looksAtAll_X7_looksAtAll_r1 _ (List.mem_of_getElem? (i := 1) rfl)) (mj_cons (mc_X7_looksAtAll_X7_looksAtAll_r3 _ (List.mem_of_getElem? (i := 12) rfl)) (mj_cons (mc_X7_looksAtAll_X7_looksAtAll_r1 _ (List.mem_of_getElem? (i := 2) rfl)) (mj_cons (mc_X7_looksAtAll_X7_looksAtAll_r3 _ (List.mem_of_getElem? (i := 13) rfl)) (mj_cons (mc_X7_looksAtAll_X7_looksAtAll_r1 _ (List.mem_of_getElem? (i := 3) rfl)) (mj_cons (mc_X7_looksAtAll_X7_looksAtAll_r1 _ (List.mem_of_getElem? (i := 4) rfl)) (mj_cons (mc_X7_looksAtAll_X7_looksAtAll_r3 _ (List.mem_of_getElem? (i := 14) rfl)) (mj_cons (mc_X7_looksAtAll_X7_looksAtAll_r3 _ (List.mem_of_getElem? (i := 15) rfl)) (mj_cons (mc_X7_looksAtAll_X7_looksAtAll_r3 _ (List.mem_of_getElem? (i := 16) rfl)) (mj_cons (mc_X7_looksAtAll_X7_looksAtAll_r3 _ (List.mem_of_getElem? (i := 17) rfl)) (mj_cons (mc_X7_looksAtAll_X7_looksAtAll_r3 _ (List.mem_of_getElem? (i := 18) rfl)) (mj_cons (mc_X7_looksAtAll_X7_looksAtAll_r3 _ (List.mem_of_getElem? (i := 19) rfl)) (mj_cons (mc_X7_looksAtAll_X7_looksAtAll_r1 _ (List.mem_of_getElem? (i := 10) rfl)) (mj_cons (mc_X7_looksAtAll_X7_looksAtAll_r3 _ (List.mem_of_getElem? (i := 20) rfl)) (mj_cons (mc_X7_looksAtAll_X7_looksAtAll_r2 _ (List.mem_of_getElem? (i := 3) rfl)) (mj_cons (mc_X7_looksAtAll_X7_looksAtAll_r3 _ (List.mem_of_getElem? (i := 21) rfl)) (mj_cons (mc_X7_looksAtAll_X7_looksAtAll_r3 _ (List.mem_of_getElem? (i := 22) rfl)) (mj_cons (mc_X7_looksAtAll_X7_looksAtAll_r3 _ (List.mem_of_getElem? (i := 23) rfl)) (mj_cons (mc_X7_looksAtAll_X7_looksAtAll_r4 _ (List.mem_of_getElem? (i := 0) rfl)) (mj_cons (mc_X7_looksAtAll_X7_looksAtAll_r2 _ (List.mem_of_getElem? (i := 4) rfl)) (mj_cons (mc_X7_looksAtAll_X7_looksAtAll_r2 _ (List.mem_of_getElem? (i := 6) rfl)) (mj_cons (mc_X7_looksAtAll_X7_looksAtAll_r2 _ (List.mem_of_getElem? (i := 7) rfl)) (mj_cons (mc_X7_looksAtAll_X7_looksAtAll_r2 _ (List.mem_of_getElem? (i := 8) rfl)) mj_nil)))))))))))))))))))))))) (mj_app (mj_cons (mc_X7_looksAtAll_X7_looksAtAll_r2 _ (List.mem_of_getElem? (i := 9) rfl)) (mj_cons (mc_X7_looksAtAll_X7_looksAtAll_r4 _ (List.mem_of_getElem? (i := 1) rfl)) (mj_cons (mc_X7_looksAtAll_X7_looksAtAll_r4 _ (List.mem_of_getElem? (i := 2) rfl)) (mj_cons (mc_X7_looksAtAll_X7_looksAtAll_r4 _ (List.mem_of_getElem? (i := 3) rfl)) (mj_cons (mc_X7_looksAtAll_X7_looksAtAll_r4 _ (List.mem_of_getElem? (i := 4) rfl)) (mj_cons (mc_X7_looksAtAll_X7_looksAtAll_r4 _ (List.mem_of_getElem? (i := 5) rfl)) (mj_cons (mc_X7_looksAtAll_X7_looksAtAll_r4 _ (List.mem_of_getElem? (i := 6) rfl)) (mj_cons (mc_X7_looksAtAll_X7_looksAtAll_r4 _ (List.mem_of_getElem? (i := 7) rfl)) (mj_cons (mc_X7_looksAtAll_X7_looksAtAll_r4 _ (List.mem_of_getElem? (i := 8) rfl)) (mj_cons (mc_X7_looksAtAll_X7_looksAtAll_r4 _ (List.mem_of_getElem? (i := 9) rfl)) (mj_cons (mc_X7_looksAtAll_X7_looksAtAll_r4 _ (List.mem_of_getElem? (i := 10) rfl)) (mj_cons (mc_X7_looksAtAll_X7_looksAtAll_r4 _ (List.mem_of_getElem? (i := 11) rfl)) (mj_cons (mc_X7_looksAtAll_X7_looksAtAll_r4 _ (List.mem_of_getElem? (i := 12) rfl)) (mj_cons (mc_X7_looksAtAll_X7_looksAtAll_r4 _ (List.mem_of_getElem? (i := 13) rfl)) (mj_cons (mc_X7_looksAtAll_X7_looksAtAll_r1 _ (List.mem_of_getElem? (i := 18) rfl)) (mj_cons (mc_X7_looksAtAll_X7_looksAtAll_r2 _ (List.mem_of_getElem? (i := 10) rfl)) (mj_cons (mc_X7_looksAtAll_X7_looksAtAll_r2 _ (List.mem_of_getElem? (i := 11) rfl)) (mj_cons (mc_X7_looksAtAll_X7_looksAtAll_r2 _ (List.mem_of_getElem? (i := 12) rfl)) (mj_cons (mc_X7_looksAtAll_X7_looksAtAll_r2 _ (List.mem_of_getElem? (i := 13) rfl)) (mj_cons (mc_X7_looksAtAll_X7_looksAtAll_r2 _ (List.mem_of_getElem? (i := 5) rfl)) (mj_cons (mc_X7_looksAtAll_X7_looksAtAll_r1 _ (List.mem_of_getElem? (i := 23) rfl)) (mj_cons (mc_X7_looksAtAll_X7_looksAtAll_r2 _ (List.mem_of_getElem? (i := 0) rfl)) (mj_cons (mc_X7_looksAtAll_X7_looksAtAll_r2 _ (List.mem_of_getElem? (i := 1) rfl)) (mj_cons (mc_X7_looksAtAll_X7_looksAtAll_r2 _ (List.mem_of_getElem? (i := 2) rfl)) mj_nil)))))))))))))))))))))))) (mj_app (mj_cons (mc_X7_looksAtAll_X7_looksAtAll_r4 _ (List.mem_of_getElem? (i := 14) rfl)) (mj_cons (mc_X7_looksAtAll_X7_looksAtAll_r4 _ (List.mem_of_getElem? (i := 15) rfl)) (mj_cons (mc_X7_looksAtAll_X7_looksAtAll_r4 _ (List.mem_of_getElem? (i := 16) rfl)) (mj_cons (mc_X7_looksAtAll_X7_looksAtAll_r4 _ (List.mem_of_getElem? (i := 17) rfl)) (mj_cons (mc_X7_looksAtAll_X7_looksAtAll_r4 _ (List.mem_of_getElem? (i := 18) rfl)) (mj_cons (mc_X7_looksAtAll_X7_looksAtAll_r4 _ (List.mem_of_getElem? (i := 19) rfl)) (mj_cons (mc_X7_looksAtAll_X7_looksAtAll_r4 _ (List.mem_of_getElem? (i := 20) rfl)) (mj_cons (mc_X7_looksAtAll_X7_looksAtAll_r4 _ (List.mem_of_getElem? (i := 21) rfl)) (mj_cons (mc_X7_looksAtAll_X7_looksAtAll_r4 _ (List.mem_of_getElem? (i := 22) rfl)) (mj_cons (mc_X7_looksAtAll_X7_looksAtAll_r4 _ (List.mem_of_getElem? (i := 23) rfl)) (mj_cons (mc_X7_looksAtAll_X7_looksAtAll_r5 _ (List.mem_of_getElem? (i := 0) rfl)) (mj_cons (mc_X7_looksAtAll_X7_looksAtAll_r5 _ (List.mem_of_getElem? (i := 1) rfl)) (mj_cons (mc_X7_looksAtAll_X7_looksAtAll_r5 _ (List.mem_of_getElem? (i := 2) rfl)) (mj_cons (mc_X7_looksAtAll_X7_looksAtAll_r5 _ (List.mem_of_getElem? (i := 3) rfl)) (mj_cons (mc_X7_looksAtAll_X7_looksAtAll_r5 _ (List.mem_of_getElem? (i := 4) rfl)) (mj_cons (mc_X7_looksAtAll_X7_looksAtAll_r5 _ (List.mem_of_getElem? (i := 5) rfl)) (mj_cons (mc_X7_looksAtAll_X7_looksAtAll_r1 _ (List.mem_of_getElem? (i := 19) rfl)) (mj_cons (mc_X7_looksAtAll_X7_looksAtAll_r1 _ (List.mem_of_getElem? (i := 20) rfl)) (mj_cons (mc_X7_looksAtAll_X7_looksAtAll_r1 _ (List.mem_of_getElem? (i := 21) rfl)) (mj_cons (mc_X7_looksAtAll_X7_looksAtAll_r1 _ (List.mem_of_getElem? (i := 22) rfl)) (mj_cons (mc_X7_looksAtAll_X7_looksAtAll_r2 _ (List.mem_of_getElem? (i := 14) rfl)) (mj_cons (mc_X7_looksAtAll_X7_looksAtAll_r2 _ (List.mem_of_getElem? (i := 15) rfl)) (mj_cons (mc_X7_looksAtAll_X7_looksAtAll_r2 _ (List.mem_of_getElem? (i := 16) rfl)) (mj_cons (mc_X7_looksAtAll_X7_looksAtAll_r2 _ (List.mem_of_getElem? (i := 17) rfl)) mj_nil)))))))))))))))))))))))) (mj_cons (mc_X7_looksAtAll_X7_looksAtAll_r1 _ (List.mem_of_getElem? (i := 0) rfl)) (mj_cons (mc_X7_looksAtAll_X7_looksAtAll_r2 _ (List.mem_of_getElem? (i := 18) rfl)) (mj_cons (mc_X7_looksAtAll_X7_looksAtAll_r1 _ (List.mem_of_getElem? (i := 6) rfl)) (mj_cons (mc_X7_looksAtAll_X7_looksAtAll_r2 _ (List.mem_of_getElem? (i := 19) rfl)) (mj_cons (mc_X7_looksAtAll_X7_looksAtAll_r2 _ (List.mem_of_getElem? (i := 20) rfl)) (mj_cons (mc_X7_looksAtAll_X7_looksAtAll_r2 _ (List.mem_of_getElem? (i := 21) rfl)) (mj_cons (mc_X7_looksAtAll_X7_looksAtAll_r2 _ (List.mem_of_getElem? (i := 22) rfl)) (mj_cons (mc_X7_looksAtAll_X7_looksAtAll_r2 _ (List.mem_of_getElem? (i := 23) rfl)) (mj_cons (mc_X7_looksAtAll_X7_looksAtAll_r3 _ (List.mem_of_getElem? (i := 0) rfl)) (mj_cons (mc_X7_looksAtAll_X7_looksAtAll_r3 _ (List.mem_of_getElem? (i := 1) rfl)) (mj_cons (mc_X7_looksAtAll_X7_looksAtAll_r3 _ (List.mem_of_getElem? (i := 2) rfl)) (mj_cons (mc_X7_looksAtAll_X7_looksAtAll_r3 _ (List.mem_of_getElem? (i := 3) rfl)) mj_nil))))))))))))))) mc_X7_looksAtAll_X70)) (by decide +kernel)
set_option maxRecDepth 20000 in
theorem gX7_looksAtAll_X7_goesOn : GoodIn wsX7_looksAtAll (wsV RX7 272 RX7 yX7_goesOn wsX7_goesOn) := goodIn_app (mj_good (mj_cons (mc_X7_looksAtAll_X7_looksAtAll_r3 _ (List.mem_of_getElem? (i := 8) rfl)) (mj_cons (mc_X7_looksAtAll_X7_looksAtAll_r3 _ (List.mem_of_getElem? (i := 9) rfl)) (mj_cons (mc_X7_looksAtAll_X7_looksAtAll_r3 _ (List.mem_of_getElem? (i := 10) rfl)) (mj_cons (mc_X7_looksAtAll_X7_looksAtAll_r1 _ (List.mem_of_getElem? (i := 10) rfl)) mj_nil)))) (by decide +kernel)) ggX7_looksAtAll_X7_goesOn
theorem dX7_looksAtAll_0 : decode cX7_looksAtAll 0 = .ok (.iconst 0, 1) := by decide +kernel
theorem dX7_looksAtAll_1 : decode cX7_looksAtAll 1 = .ok (.istore_n 2, 1) := by decide +kernel
theorem dX7_looksAtAll_2 : decode cX7_looksAtAll 2 = .ok (.iload_n 2, 1) := by decide +kernel
theorem dX7_looksAtAll_3 : decode cX7_looksAtAll 3 = .ok (.sipush 16384, 3) := by decide +kernel
theorem dX7_looksAtAll_6 : decode cX7_looksAtAll 6 = .ok (.if_icmp .ge 16, 3) := by decide +kernel
theorem dX7_looksAtAll_9 : decode cX7_looksAtAll 9 = .ok (.aload_n 0, 1) := by decide +kernel
theorem dX7_looksAtAll_10 : decode cX7_looksAtAll 10 = .ok (.getfield 80, 3) := by decide +kernel
theorem dX7_looksAtAll_13 : decode cX7_looksAtAll 13 = .ok (.iload_n 2, 1) := by decide +kernel
theorem dX7_looksAtAll_14 : decode cX7_looksAtAll 14 = .ok (.iconst (-1), 1) := by decide +kernel
theorem dX7_looksAtAll_15 : decode cX7_looksAtAll 15 = .ok (.iastore, 1) := by decide +kernel
theorem dX7_looksAtAll_16 : decode cX7_looksAtAll 16 = .ok (.iinc 2 1, 3) := by decide +kernel
theorem dX7_looksAtAll_19 : decode cX7_looksAtAll 19 = .ok (.goto (-17), 3) := by decide +kernel
theorem dX7_looksAtAll_22 : decode cX7_looksAtAll 22 = .ok (.aload_n 0, 1) := by decide +kernel
theorem dX7_looksAtAll_23 : decode cX7_looksAtAll 23 = .ok (.iconst 0, 1) := by decide +kernel
theorem dX7_looksAtAll_24 : decode cX7_looksAtAll 24 = .ok (.putfield 256, 3) := by decide +kernel
theorem dX7_looksAtAll_27 : decode cX7_looksAtAll 27 = .ok (.aload_n 0, 1) := by decide +kernel
theorem dX7_looksAtAll_28 : decode cX7_looksAtAll 28 = .ok (.iconst 0, 1) := by decide +kernel
theorem dX7_looksAtAll_29 : decode cX7_looksAtAll 29 = .ok (.putfield 259, 3) := by decide +kernel
theorem dX7_looksAtAll_32 : decode cX7_looksAtAll 32 = .ok (.aload_n 0, 1) := by decide +kernel
theorem dX7_looksAtAll_33 : decode cX7_looksAtAll 33 = .ok (.invokevirtual 262, 3) := by decide +kernel
theorem dX7_looksAtAll_36 : decode cX7_looksAtAll 36 = .ok (.aload_n 0, 1) := by decide +kernel
theorem dX7_looksAtAll_37 : decode cX7_looksAtAll 37 = .ok (.invokevirtual 265, 3) := by decide +kernel
theorem dX7_looksAtAll_40 : decode cX7_looksAtAll 40 = .ok (.pop, 1) := by decide +kernel
theorem dX7_looksAtAll_41 : decode cX7_looksAtAll 41 = .ok (.aload_n 0, 1) := by decide +kernel
theorem dX7_looksAtAll_42 : decode cX7_looksAtAll 42 = .ok (.getfield 86, 3) := by decide +kernel
theorem dX7_looksAtAll_45 : decode cX7_looksAtAll 45 = .ok (.iconst 0, 1) := by decide +kernel
theorem dX7_looksAtAll_46 : decode cX7_looksAtAll 46 = .ok (.iconst 0, 1) := by decide +kernel
theorem dX7_looksAtAll_47 : decode cX7_looksAtAll 47 = .ok (.iastore, 1) := by decide +kernel
theorem dX7_looksAtAll_48 : decode cX7_looksAtAll 48 = .ok (.aload_n 0, 1) := by decide +kernel
theorem dX7_looksAtAll_49 : decode cX7_looksAtAll 49 = .ok (.getfield 89, 3) := by decide +kernel
theorem dX7_looksAtAll_52 : decode cX7_looksAtAll 52 = .ok (.iconst 0, 1) := by decide +kernel
theorem dX7_looksAtAll_53 : decode cX7_looksAtAll 53 = .ok (.iconst (-1), 1) := by decide +kernel
theorem dX7_looksAtAll_54 : decode cX7_looksAtAll 54 = .ok (.iastore, 1) := by decide +kernel
theorem dX7_looksAtAll_55 : decode cX7_looksAtAll 55 = .ok (.iload_n 1, 1) := by decide +kernel
theorem dX7_looksAtAll_56 : decode cX7_looksAtAll 56 = .ok (.ifCond .eq 7, 3) := by decide +kernel
theorem dX7_looksAtAll_59 : decode cX7_looksAtAll 59 = .ok (.iconst 1, 1) := by decide +kernel
theorem dX7_looksAtAll_60 : decode cX7_looksAtAll 60 = .ok (.goto 5, 3) := by decide +kernel
theorem dX7_looksAtAll_63 : decode cX7_looksAtAll 63 = .ok (.bipush 7, 2) := by decide +kernel
theorem dX7_looksAtAll_65 : decode cX7_looksAtAll 65 = .ok (.istore_n 2, 1) := by decide +kernel
theorem dX7_looksAtAll_66 : decode cX7_looksAtAll 66 = .ok (.iconst 0, 1) := by decide +kernel
theorem dX7_looksAtAll_67 : decode cX7_looksAtAll 67 = .ok (.istore_n 3, 1) := by decide +kernel
theorem dX7_looksAtAll_68 : decode cX7_looksAtAll 68 = .ok (.iload_n 3, 1) := by decide +kernel
theorem dX7_looksAtAll_69 : decode cX7_looksAtAll 69 = .ok (.aload_n 0, 1) := by decide +kernel
theorem dX7_looksAtAll_70 : decode cX7_looksAtAll 70 = .ok (.getfield 256, 3) := by decide +kernel
theorem dX7_looksAtAll_73 : decode cX7_looksAtAll 73 = .ok (.if_icmp .ge 72, 3) := by decide +kernel
theorem dX7_looksAtAll_76 : decode cX7_looksAtAll 76 = .ok (.aload_n 0, 1) := by decide +kernel
theorem dX7_looksAtAll_77 : decode cX7_looksAtAll 77 = .ok (.getfield 104, 3) := by decide +kernel
theorem dX7_looksAtAll_80 : decode cX7_looksAtAll 80 = .ok (.iload_n 3, 1) := by decide +kernel
theorem dX7_looksAtAll_81 : decode cX7_looksAtAll 81 = .ok (.aload_n 0, 1) := by decide +kernel
theorem dX7_looksAtAll_82 : decode cX7_looksAtAll 82 = .ok (.getfield 259, 3) := by decide +kernel
theorem dX7_looksAtAll_85 : decode cX7_looksAtAll 85 = .ok (.iastore, 1) := by decide +kernel
theorem dX7_looksAtAll_86 : decode cX7_looksAtAll 86 = .ok (.aload_n 0, 1) := by decide +kernel
theorem dX7_looksAtAll_87 : decode cX7_looksAtAll 87 = .ok (.iload_n 3, 1) := by decide +kernel
theorem dX7_looksAtAll_88 : decode cX7_looksAtAll 88 = .ok (.invokevirtual 268, 3) := by decide +kernel
theorem dX7_looksAtAll_91 : decode cX7_looksAtAll 91 = .ok (.iconst 0, 1) := by decide +kernel
theorem dX7_looksAtAll_92 : decode cX7_looksAtAll 92 = .ok (.istore 4, 2) := by decide +kernel
theorem dX7_looksAtAll_94 : decode cX7_looksAtAll 94 = .ok (.iload 4, 2) := by decide +kernel
theorem dX7_looksAtAll_96 : decode cX7_looksAtAll 96 = .ok (.aload_n 0, 1) := by decide +kernel
theorem dX7_looksAtAll_97 : decode cX7_looksAtAll 97 = .ok (.getfield 216, 3) := by decide +kernel
theorem dX7_looksAtAll_100 : decode cX7_looksAtAll 100 = .ok (.if_icmp .ge 39, 3) := by decide +kernel
theorem dX7_looksAtAll_103 : decode cX7_looksAtAll 103 = .ok (.iconst 0, 1) := by decide +kernel
theorem dX7_looksAtAll_104 : decode cX7_looksAtAll 104 = .ok (.istore 5, 2) := by decide +kernel
theorem dX7_looksAtAll_106 : decode cX7_looksAtAll 106 = .ok (.iload 5, 2) := by decide +kernel
theorem dX7_looksAtAll_108 : decode cX7_looksAtAll 108 = .ok (.iconst 4, 1) := by decide +kernel
theorem dX7_looksAtAll_109 : decode cX7_looksAtAll 109 = .ok (.if_icmp .ge 24, 3) := by decide +kernel
theorem dX7_looksAtAll_112 : decode cX7_looksAtAll 112 = .ok (.aload_n 0, 1) := by decide +kernel
theorem dX7_looksAtAll_113 : decode cX7_looksAtAll 113 = .ok (.iload_n 3, 1) := by decide +kernel
theorem dX7_looksAtAll_114 : decode cX7_looksAtAll 114 = .ok (.iload 4, 2) := by decide +kernel
theorem dX7_looksAtAll_116 : decode cX7_looksAtAll 116 = .ok (.iload 5, 2) := by decide +kernel
theorem dX7_looksAtAll_118 : decode cX7_looksAtAll 118 = .ok (.iload_n 2, 1) := by decide +kernel
theorem dX7_looksAtAll_119 : decode cX7_looksAtAll 119 = .ok (.invokevirtual 272, 3) := by decide +kernel
theorem dX7_looksAtAll_122 : decode cX7_looksAtAll 122 = .ok (.ifCond .ne 5, 3) := by decide +kernel
theorem dX7_looksAtAll_125 : decode cX7_looksAtAll 125 = .ok (.iconst 0, 1) := by decide +kernel
theorem dX7_looksAtAll_126 : decode cX7_looksAtAll 126 = .ok (.ireturn, 1) := by decide +kernel
theorem dX7_looksAtAll_127 : decode cX7_looksAtAll 127 = .ok (.iinc 5 1, 3) := by decide +kernel
theorem dX7_looksAtAll_130 : decode cX7_looksAtAll 130 = .ok (.goto (-24), 3) := by decide +kernel
theorem dX7_looksAtAll_133 : decode cX7_looksAtAll 133 = .ok (.iinc 4 1, 3) := by decide +kernel
theorem dX7_looksAtAll_136 : decode cX7_looksAtAll 136 = .ok (.goto (-42), 3) := by decide +kernel
theorem dX7_looksAtAll_139 : decode cX7_looksAtAll 139 = .ok (.iinc 3 1, 3) := by decide +kernel
theorem dX7_looksAtAll_142 : decode cX7_looksAtAll 142 = .ok (.goto (-74), 3) := by decide +kernel
theorem dX7_looksAtAll_145 : decode cX7_looksAtAll 145 = .ok (.aload_n 0, 1) := by decide +kernel
theorem dX7_looksAtAll_146 : decode cX7_looksAtAll 146 = .ok (.getfield 104, 3) := by decide +kernel
theorem dX7_looksAtAll_149 : decode cX7_looksAtAll 149 = .ok (.aload_n 0, 1) := by decide +kernel
theorem dX7_looksAtAll_150 : decode cX7_looksAtAll 150 = .ok (.getfield 256, 3) := by decide +kernel
theorem dX7_looksAtAll_153 : decode cX7_looksAtAll 153 = .ok (.aload_n 0, 1) := by decide +kernel
theorem dX7_looksAtAll_154 : decode cX7_looksAtAll 154 = .ok (.getfield 259, 3) := by decide +kernel
theorem dX7_looksAtAll_157 : decode cX7_looksAtAll 157 = .ok (.iastore, 1) := by decide +kernel
theorem dX7_looksAtAll_158 : decode cX7_looksAtAll 158 = .ok (.iconst 1, 1) := by decide +kernel
theorem dX7_looksAtAll_159 : decode cX7_looksAtAll 159 = .ok (.ireturn, 1) := by decide +kernel
set_option maxRecDepth 20000 in
theorem mc_X7_goesOn_X7_goesOn_r1 : mjIn wsX7_goesOn wsX7_goesOn_r1 := fun w h => (List.mem_cons_of_mem _ (List.mem_append_left _ (List.mem_append_left _ h)))
set_option maxRecDepth 20000 in
theorem mc_X7_goesOn_X7_goesOn_r2 : mjIn wsX7_goesOn wsX7_goesOn_r2 := fun w h => (List.mem_cons_of_mem _ (List.mem_append_left _ (List.mem_append_right _ (List.mem_append_left _ h))))
set_option maxRecDepth 20000 in
theorem mc_X7_goesOn_X7_goesOn_r3 : mjIn wsX7_goesOn wsX7_goesOn_r3 := fun w h => (List.mem_cons_of_mem _ (List.mem_append_left _ (List.mem_append_right _ (List.mem_append_right _ (List.mem_append_left _ h)))))
set_option maxRecDepth 20000 in
theorem mc_X7_goesOn_X70 : mjIn wsX7_goesOn wsX70 := fun w h => (List.mem_cons_of_mem _ (List.mem_append_right _ h))
set_option maxRecDepth 20000 in
theorem ggX7_goesOn_X7_hinders : GoodIn wsX7_goesOn wsX7_hinders := mj_good (mj_cons (mc_X7_goesOn_X7_goesOn_r1 _ (List.mem_of_getElem? (i := 14) rfl)) (mj_app (mj_app (mj_cons (mc_X7_goesOn_X7_goesOn_r1 _ (List.mem_of_getElem? (i := 0) rfl)) (mj_cons (mc_X7_goesOn_X7_goesOn_r1 _ (List.mem_of_getElem? (i := 15) rfl)) (mj_cons (mc_X7_goesOn_X7_goesOn_r1 _ (List.mem_of_getElem? (i := 16) rfl)) (mj_cons (mc_X7_goesOn_X7_goesOn_r1 _ (List.mem_of_getElem? (i := 17) rfl)) (mj_cons (mc_X7_goesOn_X7_goesOn_r1 _ (List.mem_of_getElem? (i := 18) rfl)) (mj_cons (mc_X7_goesOn_X7_goesOn_r1 _ (List.mem_of_getElem? (i := 13) rfl)) (mj_cons (mc_X7_goesOn_X7_goesOn_r1 _ (List.mem_of_getElem? (i := 19) rfl)) (mj_cons (mc_X7_goesOn_X7_goesOn_r1 _ (List.mem_of_getElem? (i := 20) rfl)) (mj_cons (mc_X7_goesOn_X7_goesOn_r1 _ (List.mem_of_getElem? (i := 21) rfl)) (mj_cons (mc_X7_goesOn_X7_goesOn_r1 _ (List.mem_of_getElem? (i := 22) rfl)) (mj_cons (mc_X7_goesOn_X7_goesOn_r1 _ (List.mem_of_getElem? (i := 23) rfl)) (mj_cons (mc_X7_goesOn_X7_goesOn_r2 _ (List.mem_of_getElem? (i := 0) rfl)) (mj_cons (mc_X7_goesOn_X7_goesOn_r2 _ (List.mem_of_getElem? (i := 1) rfl)) (mj_cons (mc_X7_goesOn_X7_goesOn_r2 _ (List.mem_of_getElem? (i := 2) rfl)) (mj_cons (mc_X7_goesOn_X7_goesOn_r2 _ (List.mem_of_getElem? (i := 3) rfl)) (mj_cons (mc_X7_goesOn_X7_goesOn_r2 _ (List.mem_of_getElem? (i := 4) rfl)) (mj_cons (mc_X7_goesOn_X7_goesOn_r2 _ (List.mem_of_getElem? (i := 5) rfl)) (mj_cons (mc_X7_goesOn_X7_goesOn_r2 _ (List.mem_of_getElem? (i := 6) rfl)) (mj_cons (mc_X7_goesOn_X7_goesOn_r2 _ (List.mem_of_getElem? (i := 7) rfl)) (mj_cons (mc_X7_goesOn_X7_goesOn_r2 _ (List.mem_of_getElem? (i := 8) rfl)) (mj_cons (mc_X7_goesOn_X7_goesOn_r2 _ (List.mem_of_getElem? (i := 9) rfl)) (mj_cons (mc_X7_goesOn_X7_goesOn_r2 _ (List.mem_of_getElem? (i := 10) rfl)) (mj_cons (mc_X7_goesOn_X7_goesOn_r2 _ (List.mem_of_getElem? (i := 11) rfl)) (mj_cons (mc_X7_goesOn_X7_goesOn_r2 _ (List.mem_of_getElem? (i := 12) rfl)) mj_nil)))))))))))))))))))))))) (mj_cons (mc_X7_goesOn_X7_goesOn_r2 _ (List.mem_of_getElem? (i := 13) rfl)) (mj_cons (mc_X7_goesOn_X7_goesOn_r2 _ (List.mem_of_getElem? (i := 14) rfl)) (mj_cons (mc_X7_goesOn_X7_goesOn_r2 _ (List.mem_of_getElem? (i := 15) rfl)) (mj_cons (mc_X7_goesOn_X7_goesOn_r2 _ (List.mem_of_getElem? (i := 16) rfl)) (mj_cons (mc_X7_goesOn_X7_goesOn_r2 _ (List.mem_of_getElem? (i := 17) rfl)) (mj_cons (mc_X7_goesOn_X7_goesOn_r2 _ (List.mem_of_getElem? (i := 18) rfl)) (mj_cons (mc_X7_goesOn_X7_goesOn_r2 _ (List.mem_of_getElem? (i := 19) rfl)) (mj_cons (mc_X7_goesOn_X7_goesOn_r2 _ (List.mem_of_getElem? (i := 20) rfl)) (mj_cons (mc_X7_goesOn_X7_goesOn_r2 _ (List.mem_of_getElem? (i := 21) rfl)) (mj_cons (mc_X7_goesOn_X7_goesOn_r2 _ (List.mem_of_getElem? (i := 22) rfl)) (mj_cons (mc_X7_goesOn_X7_goesOn_r2 _ (List.mem_of_getElem? (i := 23) rfl)) (mj_cons (mc_X7_goesOn_X7_goesOn_r3 _ (List.mem_of_getElem? (i := 0) rfl)) (mj_cons (mc_X7_goesOn_X7_goesOn_r3 _ (List.mem_of_getElem? (i := 1) rfl)) (mj_cons (mc_X7_goesOn_X7_goesOn_r3 _ (List.mem_of_getElem? (i := 2) rfl)) (mj_cons (mc_X7_goesOn_X7_goesOn_r3 _ (List.mem_of_getElem? (i := 3) rfl)) (mj_cons (mc_X7_goesOn_X7_goesOn_r3 _ (List.mem_of_getElem? (i := 4) rfl)) (mj_cons (mc_X7_goesOn_X7_goesOn_r3 _ (List.mem_of_getElem? (i := 5) rfl)) (mj_cons (mc_X7_goesOn_X7_goesOn_r3 _ (List.mem_of_getElem? (i := 6) rfl)) (mj_cons (mc_X7_goesOn_X7_goesOn_r3 _ (List.mem_of_getElem? (i := 7) rfl)) (mj_cons (mc_X7_goesOn_X7_goesOn_r3 _ (List.mem_of_getElem? (i := 8) rfl)) (mj_cons (mc_X7_goesOn_X7_goesOn_r3 _ (List.mem_of_getElem? (i := 9) rfl)) (mj_cons (mc_X7_goesOn_X7_goesOn_r3 _ (List.mem_of_getElem? (i := 10) rfl)) (mj_cons (mc_X7_goesOn_X7_goesOn_r3 _ (List.mem_of_getElem? (i := 11) rfl)) mj_nil)))))))))))))))))))))))) mc_X7_goesOn_X70)) (by decide +kernel)
set_option maxRecDepth 20000 in
theorem gX7_goesOn_X7_hinders : GoodIn wsX7_goesOn (wsV RX7 276 RX7 yX7_hinders wsX7_hinders) := goodIn_app (mj_good (mj_cons (mc_X7_goesOn_X7_goesOn_r1 _ (List.mem_of_getElem? (i := 10) rfl)) (mj_cons (mc_X7_goesOn_X7_goesOn_r1 _ (List.mem_of_getElem? (i := 11) rfl)) (mj_cons (mc_X7_goesOn_X7_goesOn_r1 _ (List.mem_of_getElem? (i := 12) rfl)) (mj_cons (mc_X7_goesOn_X7_goesOn_r1 _ (List.mem_of_getElem? (i := 13) rfl)) mj_nil)))) (by decide +kernel)) ggX7_goesOn_X7_hinders
set_option maxRecDepth 20000 in
theorem ggX7_goesOn_X7_step : GoodIn wsX7_goesOn wsX7_step := mj_good (mj_cons (mc_X7_goesOn_X7_goesOn_r3 _ (List.mem_of_getElem? (i := 15) rfl)) (mj_app (mj_app (mj_cons (mc_X7_goesOn_X7_goesOn_r1 _ (List.mem_of_getElem? (i := 0) rfl)) (mj_cons (mc_X7_goesOn_X7_goesOn_r3 _ (List.mem_of_getElem? (i := 16) rfl)) (mj_cons (mc_X7_goesOn_X7_goesOn_r3 _ (List.mem_of_getElem? (i := 17) rfl)) (mj_cons (mc_X7_goesOn_X7_goesOn_r3 _ (List.mem_of_getElem? (i := 18) rfl)) (mj_cons (mc_X7_goesOn_X7_goesOn_r1 _ (List.mem_of_getElem? (i := 13) rfl)) (mj_cons (mc_X7_goesOn_X7_goesOn_r3 _ (List.mem_of_getElem? (i := 19) rfl)) (mj_cons (mc_X7_goesOn_X7_goesOn_r2 _ (List.mem_of_getElem? (i := 14) rfl)) (mj_cons (mc_X7_goesOn_X7_goesOn_r2 _ (List.mem_of_getElem? (i := 20) rfl)) (mj_cons (mc_X7_goesOn_X7_goesOn_r2 _ (List.mem_of_getElem? (i := 21) rfl)) (mj_cons (mc_X7_goesOn_X7_goesOn_r2 _ (List.mem_of_getElem? (i := 22) rfl)) (mj_cons (mc_X7_goesOn_X7_goesOn_r2 _ (List.mem_of_getElem? (i := 23) rfl)) (mj_cons (mc_X7_goesOn_X7_goesOn_r1 _ (List.mem_of_getElem? (i := 15) rfl)) (mj_cons (mc_X7_goesOn_X7_goesOn_r1 _ (List.mem_of_getElem? (i := 20) rfl)) (mj_cons (mc_X7_goesOn_X7_goesOn_r2 _ (List.mem_of_getElem? (i := 19) rfl)) (mj_cons (mc_X7_goesOn_X7_goesOn_r1 _ (List.mem_of_getElem? (i := 21) rfl)) (mj_cons (mc_X7_goesOn_X7_goesOn_r1 _ (List.mem_of_getElem? (i := 22) rfl)) (mj_cons (mc_X7_goesOn_X7_goesOn_r1 _ (List.mem_of_getElem? (i := 23) rfl)) (mj_cons (mc_X7_goesOn_X7_goesOn_r2 _ (List.mem_of_getElem? (i := 0) rfl)) (mj_cons (mc_X7_goesOn_X7_goesOn_r2 _ (List.mem_of_getElem? (i := 15) rfl)) (mj_cons (mc_X7_goesOn_X7_goesOn_r2 _ (List.mem_of_getElem? (i := 16) rfl)) (mj_cons (mc_X7_goesOn_X7_goesOn_r2 _ (List.mem_of_getElem? (i := 17) rfl)) (mj_cons (mc_X7_goesOn_X7_goesOn_r2 _ (List.mem_of_getElem? (i := 18) rfl)) (mj_cons (mc_X7_goesOn_X7_goesOn_r2 _ (List.mem_of_getElem? (i := 1) rfl)) (mj_cons (mc_X7_goesOn_X7_goesOn_r2 _ (List.mem_of_getElem? (i := 2) rfl)) mj_nil)))))))))))))))))))))))) (mj_cons (mc_X7_goesOn_X7_goesOn_r2 _ (List.mem_of_getElem? (i := 3) rfl)) (mj_cons (mc_X7_goesOn_X7_goesOn_r2 _ (List.mem_of_getElem? (i := 4) rfl)) (mj_cons (mc_X7_goesOn_X7_goesOn_r2 _ (List.mem_of_getElem? (i := 5) rfl)) (mj_cons (mc_X7_goesOn_X7_goesOn_r2 _ (List.mem_of_getElem? (i := 6) rfl)) mj_nil))))) mc_X7_goesOn_X70)) (by decide +kernel)
set_option maxRecDepth 20000 in
theorem gX7_goesOn_X7_step : GoodIn wsX7_goesOn (wsV RX7 279 RX7 yX7_step wsX7_step) := goodIn_app (mj_good (mj_cons (mc_X7_goesOn_X7_goesOn_r3 _ (List.mem_of_getElem? (i := 12) rfl)) (mj_cons (mc_X7_goesOn_X7_goesOn_r3 _ (List.mem_of_getElem? (i := 13) rfl)) (mj_cons (mc_X7_goesOn_X7_goesOn_r3 _ (List.mem_of_getElem? (i := 14) rfl)) (mj_cons (mc_X7_goesOn_X7_goesOn_r1 _ (List.mem_of_getElem? (i := 13) rfl)) mj_nil)))) (by decide +kernel)) ggX7_goesOn_X7_step
set_option maxRecDepth 20000 in
theorem mc_X7_goesOn_X7_goesOn_r4 : mjIn wsX7_goesOn wsX7_goesOn_r4 := fun w h => (List.mem_cons_of_mem _ (List.mem_append_left _ (List.mem_append_right _ (List.mem_append_right _ (List.mem_append_right _ h)))))
set_option maxRecDepth 20000 in
theorem ggX7_goesOn_X7_numberOf : GoodIn wsX7_goesOn wsX7_numberOf := mj_good (mj_cons (mc_X7_goesOn_X7_goesOn_r3 _ (List.mem_of_getElem? (i := 23) rfl)) (mj_app (mj_cons (mc_X7_goesOn_X7_goesOn_r4 _ (List.mem_of_getElem? (i := 0) rfl)) (mj_cons (mc_X7_goesOn_X7_goesOn_r4 _ (List.mem_of_getElem? (i := 1) rfl)) (mj_cons (mc_X7_goesOn_X7_goesOn_r1 _ (List.mem_of_getElem? (i := 1) rfl)) (mj_cons (mc_X7_goesOn_X7_goesOn_r4 _ (List.mem_of_getElem? (i := 2) rfl)) (mj_cons (mc_X7_goesOn_X7_goesOn_r4 _ (List.mem_of_getElem? (i := 3) rfl)) (mj_cons (mc_X7_goesOn_X7_goesOn_r1 _ (List.mem_of_getElem? (i := 0) rfl)) (mj_cons (mc_X7_goesOn_X7_goesOn_r4 _ (List.mem_of_getElem? (i := 4) rfl)) (mj_cons (mc_X7_goesOn_X7_goesOn_r4 _ (List.mem_of_getElem? (i := 5) rfl)) (mj_cons (mc_X7_goesOn_X7_goesOn_r4 _ (List.mem_of_getElem? (i := 6) rfl)) (mj_cons (mc_X7_goesOn_X7_goesOn_r1 _ (List.mem_of_getElem? (i := 13) rfl)) (mj_cons (mc_X7_goesOn_X7_goesOn_r4 _ (List.mem_of_getElem? (i := 7) rfl)) (mj_cons (mc_X7_goesOn_X7_goesOn_r4 _ (List.mem_of_getElem? (i := 8) rfl)) (mj_cons (mc_X7_goesOn_X7_goesOn_r4 _ (List.mem_of_getElem? (i := 9) rfl)) (mj_cons (mc_X7_goesOn_X7_goesOn_r4 _ (List.mem_of_getElem? (i := 10) rfl)) (mj_cons (mc_X7_goesOn_X7_goesOn_r4 _ (List.mem_of_getElem? (i := 11) rfl)) mj_nil))))))))))))))) mc_X7_goesOn_X70)) (by decide +kernel)
set_option maxRecDepth 20000 in
theorem gX7_goesOn_X7_numberOf : GoodIn wsX7_goesOn (wsV RX7 265 RX7 yX7_numberOf wsX7_numberOf) := goodIn_app (mj_good (mj_cons (mc_X7_goesOn_X7_goesOn_r3 _ (List.mem_of_getElem? (i := 20) rfl)) (mj_cons (mc_X7_goesOn_X7_goesOn_r3 _ (List.mem_of_getElem? (i := 21) rfl)) (mj_cons (mc_X7_goesOn_X7_goesOn_r3 _ (List.mem_of_getElem? (i := 22) rfl)) (mj_cons (mc_X7_goesOn_X7_goesOn_r1 _ (List.mem_of_getElem? (i := 13) rfl)) mj_nil)))) (by decide +kernel)) ggX7_goesOn_X7_numberOf
set_option maxRecDepth 20000 in
theorem ggX7_goesOn_X7_lay : GoodIn wsX7_goesOn wsX7_lay := mj_good (mj_cons (mc_X7_goesOn_X7_goesOn_r3 _ (List.mem_of_getElem? (i := 19) rfl)) (mj_app (mj_cons (mc_X7_goesOn_X7_goesOn_r2 _ (List.mem_of_getElem? (i := 14) rfl)) (mj_cons (mc_X7_goesOn_X7_goesOn_r2 _ (List.mem_of_getElem? (i := 20) rfl)) (mj_cons (mc_X7_goesOn_X7_goesOn_r2 _ (List.mem_of_getElem? (i := 21) rfl)) (mj_cons (mc_X7_goesOn_X7_goesOn_r2 _ (List.mem_of_getElem? (i := 22) rfl)) (mj_cons (mc_X7_goesOn_X7_goesOn_r1 _ (List.mem_of_getElem? (i := 13) rfl)) (mj_cons (mc_X7_goesOn_X7_goesOn_r2 _ (List.mem_of_getElem? (i := 23) rfl)) (mj_cons (mc_X7_goesOn_X7_goesOn_r1 _ (List.mem_of_getElem? (i := 15) rfl)) (mj_cons (mc_X7_goesOn_X7_goesOn_r1 _ (List.mem_of_getElem? (i := 20) rfl)) (mj_cons (mc_X7_goesOn_X7_goesOn_r2 _ (List.mem_of_getElem? (i := 19) rfl)) (mj_cons (mc_X7_goesOn_X7_goesOn_r1 _ (List.mem_of_getElem? (i := 21) rfl)) (mj_cons (mc_X7_goesOn_X7_goesOn_r1 _ (List.mem_of_getElem? (i := 22) rfl)) (mj_cons (mc_X7_goesOn_X7_goesOn_r1 _ (List.mem_of_getElem? (i := 23) rfl)) (mj_cons (mc_X7_goesOn_X7_goesOn_r2 _ (List.mem_of_getElem? (i := 0) rfl)) (mj_cons (mc_X7_goesOn_X7_goesOn_r2 _ (List.mem_of_getElem? (i := 15) rfl)) (mj_cons (mc_X7_goesOn_X7_goesOn_r2 _ (List.mem_of_getElem? (i := 16) rfl)) (mj_cons (mc_X7_goesOn_X7_goesOn_r2 _ (List.mem_of_getElem? (i := 17) rfl)) (mj_cons (mc_X7_goesOn_X7_goesOn_r2 _ (List.mem_of_getElem? (i := 18) rfl)) mj_nil))))))))))))))))) mc_X7_goesOn_X70)) (by decide +kernel)
set_option maxRecDepth 20000 in
theorem gX7_goesOn_X7_lay : GoodIn wsX7_goesOn (wsV RX7 219 RX7 yX7_lay wsX7_lay) := goodIn_app (mj_good (mj_cons (mc_X7_goesOn_X7_goesOn_r3 _ (List.mem_of_getElem? (i := 16) rfl)) (mj_cons (mc_X7_goesOn_X7_goesOn_r3 _ (List.mem_of_getElem? (i := 17) rfl)) (mj_cons (mc_X7_goesOn_X7_goesOn_r3 _ (List.mem_of_getElem? (i := 18) rfl)) (mj_cons (mc_X7_goesOn_X7_goesOn_r1 _ (List.mem_of_getElem? (i := 13) rfl)) mj_nil)))) (by decide +kernel)) ggX7_goesOn_X7_lay
theorem dX7_goesOn_0 : decode cX7_goesOn 0 = .ok (.aload_n 0, 1) := by decide +kernel
theorem dX7_goesOn_1 : decode cX7_goesOn 1 = .ok (.getfield 121, 3) := by decide +kernel
theorem dX7_goesOn_4 : decode cX7_goesOn 4 = .ok (.iload_n 2, 1) := by decide +kernel
theorem dX7_goesOn_5 : decode cX7_goesOn 5 = .ok (.iaload, 1) := by decide +kernel
theorem dX7_goesOn_6 : decode cX7_goesOn 6 = .ok (.istore 5, 2) := by decide +kernel
theorem dX7_goesOn_8 : decode cX7_goesOn 8 = .ok (.iconst 1, 1) := by decide +kernel
theorem dX7_goesOn_9 : decode cX7_goesOn 9 = .ok (.istore 6, 2) := by decide +kernel
theorem dX7_goesOn_11 : decode cX7_goesOn 11 = .ok (.iconst 0, 1) := by decide +kernel
theorem dX7_goesOn_12 : decode cX7_goesOn 12 = .ok (.istore 7, 2) := by decide +kernel
theorem dX7_goesOn_14 : decode cX7_goesOn 14 = .ok (.iload 6, 2) := by decide +kernel
theorem dX7_goesOn_16 : decode cX7_goesOn 16 = .ok (.ifCond .eq 149, 3) := by decide +kernel
theorem dX7_goesOn_19 : decode cX7_goesOn 19 = .ok (.iload 7, 2) := by decide +kernel
theorem dX7_goesOn_21 : decode cX7_goesOn 21 = .ok (.iload 4, 2) := by decide +kernel
theorem dX7_goesOn_23 : decode cX7_goesOn 23 = .ok (.if_icmp .ge 142, 3) := by decide +kernel
theorem dX7_goesOn_26 : decode cX7_goesOn 26 = .ok (.aload_n 0, 1) := by decide +kernel
theorem dX7_goesOn_27 : decode cX7_goesOn 27 = .ok (.iload_n 2, 1) := by decide +kernel
theorem dX7_goesOn_28 : decode cX7_goesOn 28 = .ok (.iload_n 3, 1) := by decide +kernel
theorem dX7_goesOn_29 : decode cX7_goesOn 29 = .ok (.invokevirtual 276, 3) := by decide +kernel
theorem dX7_goesOn_32 : decode cX7_goesOn 32 = .ok (.ifCond .ne 133, 3) := by decide +kernel
theorem dX7_goesOn_35 : decode cX7_goesOn 35 = .ok (.aload_n 0, 1) := by decide +kernel
theorem dX7_goesOn_36 : decode cX7_goesOn 36 = .ok (.iload_n 2, 1) := by decide +kernel
theorem dX7_goesOn_37 : decode cX7_goesOn 37 = .ok (.iload_n 3, 1) := by decide +kernel
theorem dX7_goesOn_38 : decode cX7_goesOn 38 = .ok (.invokevirtual 279, 3) := by decide +kernel
theorem dX7_goesOn_41 : decode cX7_goesOn 41 = .ok (.iinc 7 1, 3) := by decide +kernel
theorem dX7_goesOn_44 : decode cX7_goesOn 44 = .ok (.aload_n 0, 1) := by decide +kernel
theorem dX7_goesOn_45 : decode cX7_goesOn 45 = .ok (.getfield 256, 3) := by decide +kernel
theorem dX7_goesOn_48 : decode cX7_goesOn 48 = .ok (.istore 8, 2) := by decide +kernel
theorem dX7_goesOn_50 : decode cX7_goesOn 50 = .ok (.aload_n 0, 1) := by decide +kernel
theorem dX7_goesOn_51 : decode cX7_goesOn 51 = .ok (.invokevirtual 265, 3) := by decide +kernel
theorem dX7_goesOn_54 : decode cX7_goesOn 54 = .ok (.istore 9, 2) := by decide +kernel
theorem dX7_goesOn_56 : decode cX7_goesOn 56 = .ok (.aload_n 0, 1) := by decide +kernel
theorem dX7_goesOn_57 : decode cX7_goesOn 57 = .ok (.getfield 108, 3) := by decide +kernel
theorem dX7_goesOn_60 : decode cX7_goesOn 60 = .ok (.aload_n 0, 1) := by decide +kernel
theorem dX7_goesOn_61 : decode cX7_goesOn 61 = .ok (.getfield 259, 3) := by decide +kernel
theorem dX7_goesOn_64 : decode cX7_goesOn 64 = .ok (.iload 9, 2) := by decide +kernel
theorem dX7_goesOn_66 : decode cX7_goesOn 66 = .ok (.iastore, 1) := by decide +kernel
theorem dX7_goesOn_67 : decode cX7_goesOn 67 = .ok (.aload_n 0, 1) := by decide +kernel
theorem dX7_goesOn_68 : decode cX7_goesOn 68 = .ok (.getfield 111, 3) := by decide +kernel
theorem dX7_goesOn_71 : decode cX7_goesOn 71 = .ok (.aload_n 0, 1) := by decide +kernel
theorem dX7_goesOn_72 : decode cX7_goesOn 72 = .ok (.getfield 259, 3) := by decide +kernel
theorem dX7_goesOn_75 : decode cX7_goesOn 75 = .ok (.iload_n 2, 1) := by decide +kernel
theorem dX7_goesOn_76 : decode cX7_goesOn 76 = .ok (.i2b, 1) := by decide +kernel
theorem dX7_goesOn_77 : decode cX7_goesOn 77 = .ok (.bastore, 1) := by decide +kernel
theorem dX7_goesOn_78 : decode cX7_goesOn 78 = .ok (.aload_n 0, 1) := by decide +kernel
theorem dX7_goesOn_79 : decode cX7_goesOn 79 = .ok (.dup, 1) := by decide +kernel
theorem dX7_goesOn_80 : decode cX7_goesOn 80 = .ok (.getfield 259, 3) := by decide +kernel
theorem dX7_goesOn_83 : decode cX7_goesOn 83 = .ok (.iconst 1, 1) := by decide +kernel
theorem dX7_goesOn_84 : decode cX7_goesOn 84 = .ok (.iadd, 1) := by decide +kernel
theorem dX7_goesOn_85 : decode cX7_goesOn 85 = .ok (.putfield 259, 3) := by decide +kernel
theorem dX7_goesOn_88 : decode cX7_goesOn 88 = .ok (.aload_n 0, 1) := by decide +kernel
theorem dX7_goesOn_89 : decode cX7_goesOn 89 = .ok (.getfield 256, 3) := by decide +kernel
theorem dX7_goesOn_92 : decode cX7_goesOn 92 = .ok (.iload 8, 2) := by decide +kernel
theorem dX7_goesOn_94 : decode cX7_goesOn 94 = .ok (.if_icmp .le 68, 3) := by decide +kernel
theorem dX7_goesOn_97 : decode cX7_goesOn 97 = .ok (.aload_n 0, 1) := by decide +kernel
theorem dX7_goesOn_98 : decode cX7_goesOn 98 = .ok (.getfield 256, 3) := by decide +kernel
theorem dX7_goesOn_101 : decode cX7_goesOn 101 = .ok (.sipush 6000, 3) := by decide +kernel
theorem dX7_goesOn_104 : decode cX7_goesOn 104 = .ok (.if_icmp .gt 7, 3) := by decide +kernel
theorem dX7_goesOn_107 : decode cX7_goesOn 107 = .ok (.iconst 1, 1) := by decide +kernel
theorem dX7_goesOn_108 : decode cX7_goesOn 108 = .ok (.goto 4, 3) := by decide +kernel
theorem dX7_goesOn_111 : decode cX7_goesOn 111 = .ok (.iconst 0, 1) := by decide +kernel
theorem dX7_goesOn_112 : decode cX7_goesOn 112 = .ok (.istore 6, 2) := by decide +kernel
theorem dX7_goesOn_114 : decode cX7_goesOn 114 = .ok (.aload_n 0, 1) := by decide +kernel
theorem dX7_goesOn_115 : decode cX7_goesOn 115 = .ok (.getfield 86, 3) := by decide +kernel
theorem dX7_goesOn_118 : decode cX7_goesOn 118 = .ok (.iload 9, 2) := by decide +kernel
theorem dX7_goesOn_120 : decode cX7_goesOn 120 = .ok (.aload_n 0, 1) := by decide +kernel
theorem dX7_goesOn_121 : decode cX7_goesOn 121 = .ok (.getfield 86, 3) := by decide +kernel
theorem dX7_goesOn_124 : decode cX7_goesOn 124 = .ok (.iload_n 1, 1) := by decide +kernel
theorem dX7_goesOn_125 : decode cX7_goesOn 125 = .ok (.iaload, 1) := by decide +kernel
theorem dX7_goesOn_126 : decode cX7_goesOn 126 = .ok (.iconst 1, 1) := by decide +kernel
theorem dX7_goesOn_127 : decode cX7_goesOn 127 = .ok (.iadd, 1) := by decide +kernel
theorem dX7_goesOn_128 : decode cX7_goesOn 128 = .ok (.iastore, 1) := by decide +kernel
theorem dX7_goesOn_129 : decode cX7_goesOn 129 = .ok (.aload_n 0, 1) := by decide +kernel
theorem dX7_goesOn_130 : decode cX7_goesOn 130 = .ok (.getfield 89, 3) := by decide +kernel
theorem dX7_goesOn_133 : decode cX7_goesOn 133 = .ok (.iload 9, 2) := by decide +kernel
theorem dX7_goesOn_135 : decode cX7_goesOn 135 = .ok (.iload_n 1, 1) := by decide +kernel
theorem dX7_goesOn_136 : decode cX7_goesOn 136 = .ok (.iastore, 1) := by decide +kernel
theorem dX7_goesOn_137 : decode cX7_goesOn 137 = .ok (.aload_n 0, 1) := by decide +kernel
theorem dX7_goesOn_138 : decode cX7_goesOn 138 = .ok (.getfield 92, 3) := by decide +kernel
theorem dX7_goesOn_141 : decode cX7_goesOn 141 = .ok (.iload 9, 2) := by decide +kernel
theorem dX7_goesOn_143 : decode cX7_goesOn 143 = .ok (.iload_n 2, 1) := by decide +kernel
theorem dX7_goesOn_144 : decode cX7_goesOn 144 = .ok (.iastore, 1) := by decide +kernel
theorem dX7_goesOn_145 : decode cX7_goesOn 145 = .ok (.aload_n 0, 1) := by decide +kernel
theorem dX7_goesOn_146 : decode cX7_goesOn 146 = .ok (.getfield 95, 3) := by decide +kernel
theorem dX7_goesOn_149 : decode cX7_goesOn 149 = .ok (.iload 9, 2) := by decide +kernel
theorem dX7_goesOn_151 : decode cX7_goesOn 151 = .ok (.iload_n 3, 1) := by decide +kernel
theorem dX7_goesOn_152 : decode cX7_goesOn 152 = .ok (.iastore, 1) := by decide +kernel
theorem dX7_goesOn_153 : decode cX7_goesOn 153 = .ok (.aload_n 0, 1) := by decide +kernel
theorem dX7_goesOn_154 : decode cX7_goesOn 154 = .ok (.getfield 98, 3) := by decide +kernel
theorem dX7_goesOn_157 : decode cX7_goesOn 157 = .ok (.iload 9, 2) := by decide +kernel
theorem dX7_goesOn_159 : decode cX7_goesOn 159 = .ok (.iload 7, 2) := by decide +kernel
theorem dX7_goesOn_161 : decode cX7_goesOn 161 = .ok (.iastore, 1) := by decide +kernel
theorem dX7_goesOn_162 : decode cX7_goesOn 162 = .ok (.goto (-148), 3) := by decide +kernel
theorem dX7_goesOn_165 : decode cX7_goesOn 165 = .ok (.aload_n 0, 1) := by decide +kernel
theorem dX7_goesOn_166 : decode cX7_goesOn 166 = .ok (.iload_n 2, 1) := by decide +kernel
theorem dX7_goesOn_167 : decode cX7_goesOn 167 = .ok (.aload_n 0, 1) := by decide +kernel
theorem dX7_goesOn_168 : decode cX7_goesOn 168 = .ok (.getfield 121, 3) := by decide +kernel
theorem dX7_goesOn_171 : decode cX7_goesOn 171 = .ok (.iload_n 2, 1) := by decide +kernel
theorem dX7_goesOn_172 : decode cX7_goesOn 172 = .ok (.iaload, 1) := by decide +kernel
theorem dX7_goesOn_173 : decode cX7_goesOn 173 = .ok (.iconst (-1), 1) := by decide +kernel
theorem dX7_goesOn_174 : decode cX7_goesOn 174 = .ok (.invokevirtual 219, 3) := by decide +kernel
theorem dX7_goesOn_177 : decode cX7_goesOn 177 = .ok (.aload_n 0, 1) := by decide +kernel
theorem dX7_goesOn_178 : decode cX7_goesOn 178 = .ok (.getfield 121, 3) := by decide +kernel
theorem dX7_goesOn_181 : decode cX7_goesOn 181 = .ok (.iload_n 2, 1) := by decide +kernel
theorem dX7_goesOn_182 : decode cX7_goesOn 182 = .ok (.iload 5, 2) := by decide +kernel
theorem dX7_goesOn_184 : decode cX7_goesOn 184 = .ok (.iastore, 1) := by decide +kernel
theorem dX7_goesOn_185 : decode cX7_goesOn 185 = .ok (.aload_n 0, 1) := by decide +kernel
theorem dX7_goesOn_186 : decode cX7_goesOn 186 = .ok (.iload_n 2, 1) := by decide +kernel
theorem dX7_goesOn_187 : decode cX7_goesOn 187 = .ok (.iload 5, 2) := by decide +kernel
theorem dX7_goesOn_189 : decode cX7_goesOn 189 = .ok (.iload_n 2, 1) := by decide +kernel
theorem dX7_goesOn_190 : decode cX7_goesOn 190 = .ok (.invokevirtual 219, 3) := by decide +kernel
theorem dX7_goesOn_193 : decode cX7_goesOn 193 = .ok (.iload 6, 2) := by decide +kernel
theorem dX7_goesOn_195 : decode cX7_goesOn 195 = .ok (.ireturn, 1) := by decide +kernel
theorem dX7_isFreedStand_0 : decode cX7_isFreedStand 0 = .ok (.iconst 0, 1) := by decide +kernel
theorem dX7_isFreedStand_1 : decode cX7_isFreedStand 1 = .ok (.istore_n 2, 1) := by decide +kernel
theorem dX7_isFreedStand_2 : decode cX7_isFreedStand 2 = .ok (.iload_n 2, 1) := by decide +kernel
theorem dX7_isFreedStand_3 : decode cX7_isFreedStand 3 = .ok (.aload_n 0, 1) := by decide +kernel
theorem dX7_isFreedStand_4 : decode cX7_isFreedStand 4 = .ok (.getfield 216, 3) := by decide +kernel
theorem dX7_isFreedStand_7 : decode cX7_isFreedStand 7 = .ok (.if_icmp .ge 41, 3) := by decide +kernel
theorem dX7_isFreedStand_10 : decode cX7_isFreedStand 10 = .ok (.aload_n 0, 1) := by decide +kernel
theorem dX7_isFreedStand_11 : decode cX7_isFreedStand 11 = .ok (.getfield 23, 3) := by decide +kernel
theorem dX7_isFreedStand_14 : decode cX7_isFreedStand 14 = .ok (.iload_n 2, 1) := by decide +kernel
theorem dX7_isFreedStand_15 : decode cX7_isFreedStand 15 = .ok (.iaload, 1) := by decide +kernel
theorem dX7_isFreedStand_16 : decode cX7_isFreedStand 16 = .ok (.iconst 5, 1) := by decide +kernel
theorem dX7_isFreedStand_17 : decode cX7_isFreedStand 17 = .ok (.if_icmp .ne 25, 3) := by decide +kernel
theorem dX7_isFreedStand_20 : decode cX7_isFreedStand 20 = .ok (.aload_n 0, 1) := by decide +kernel
theorem dX7_isFreedStand_21 : decode cX7_isFreedStand 21 = .ok (.getfield 76, 3) := by decide +kernel
theorem dX7_isFreedStand_24 : decode cX7_isFreedStand 24 = .ok (.bipush 12, 2) := by decide +kernel
theorem dX7_isFreedStand_26 : decode cX7_isFreedStand 26 = .ok (.iload_n 1, 1) := by decide +kernel
theorem dX7_isFreedStand_27 : decode cX7_isFreedStand 27 = .ok (.imul, 1) := by decide +kernel
theorem dX7_isFreedStand_28 : decode cX7_isFreedStand 28 = .ok (.iload_n 2, 1) := by decide +kernel
theorem dX7_isFreedStand_29 : decode cX7_isFreedStand 29 = .ok (.iadd, 1) := by decide +kernel
theorem dX7_isFreedStand_30 : decode cX7_isFreedStand 30 = .ok (.baload, 1) := by decide +kernel
theorem dX7_isFreedStand_31 : decode cX7_isFreedStand 31 = .ok (.aload_n 0, 1) := by decide +kernel
theorem dX7_isFreedStand_32 : decode cX7_isFreedStand 32 = .ok (.getfield 35, 3) := by decide +kernel
theorem dX7_isFreedStand_35 : decode cX7_isFreedStand 35 = .ok (.iload_n 2, 1) := by decide +kernel
theorem dX7_isFreedStand_36 : decode cX7_isFreedStand 36 = .ok (.iaload, 1) := by decide +kernel
theorem dX7_isFreedStand_37 : decode cX7_isFreedStand 37 = .ok (.if_icmp .eq 5, 3) := by decide +kernel
theorem dX7_isFreedStand_40 : decode cX7_isFreedStand 40 = .ok (.iconst 0, 1) := by decide +kernel
theorem dX7_isFreedStand_41 : decode cX7_isFreedStand 41 = .ok (.ireturn, 1) := by decide +kernel
theorem dX7_isFreedStand_42 : decode cX7_isFreedStand 42 = .ok (.iinc 2 1, 3) := by decide +kernel
theorem dX7_isFreedStand_45 : decode cX7_isFreedStand 45 = .ok (.goto (-43), 3) := by decide +kernel
theorem dX7_isFreedStand_48 : decode cX7_isFreedStand 48 = .ok (.iconst 1, 1) := by decide +kernel
theorem dX7_isFreedStand_49 : decode cX7_isFreedStand 49 = .ok (.ireturn, 1) := by decide +kernel
set_option maxRecDepth 20000 in
theorem mc_X7_firstFreed_X70 : mjIn wsX7_firstFreed wsX70 := fun w h => (List.mem_cons_of_mem _ (List.mem_append_right _ h))
set_option maxRecDepth 20000 in
theorem ggX7_firstFreed_X7_isFreedStand : GoodIn wsX7_firstFreed wsX7_isFreedStand := mj_good (mj_cons (List.mem_of_getElem? (i := 6) rfl) (mj_app (mj_cons (List.mem_of_getElem? (i := 7) rfl) (mj_cons (List.mem_of_getElem? (i := 8) rfl) (mj_cons (List.mem_of_getElem? (i := 9) rfl) (mj_cons (List.mem_of_getElem? (i := 10) rfl) mj_nil)))) mc_X7_firstFreed_X70)) (by decide +kernel)
set_option maxRecDepth 20000 in
theorem gX7_firstFreed_X7_isFreedStand : GoodIn wsX7_firstFreed (wsV RX7 283 RX7 yX7_isFreedStand wsX7_isFreedStand) := goodIn_app (mj_good (mj_cons (List.mem_of_getElem? (i := 2) rfl) (mj_cons (List.mem_of_getElem? (i := 3) rfl) (mj_cons (List.mem_of_getElem? (i := 4) rfl) (mj_cons (List.mem_of_getElem? (i := 5) rfl) mj_nil)))) (by decide +kernel)) ggX7_firstFreed_X7_isFreedStand
theorem dX7_firstFreed_0 : decode cX7_firstFreed 0 = .ok (.iconst 0, 1) := by decide +kernel
theorem dX7_firstFreed_1 : decode cX7_firstFreed 1 = .ok (.istore_n 1, 1) := by decide +kernel
theorem dX7_firstFreed_2 : decode cX7_firstFreed 2 = .ok (.iload_n 1, 1) := by decide +kernel
theorem dX7_firstFreed_3 : decode cX7_firstFreed 3 = .ok (.aload_n 0, 1) := by decide +kernel
theorem dX7_firstFreed_4 : decode cX7_firstFreed 4 = .ok (.getfield 256, 3) := by decide +kernel
theorem dX7_firstFreed_7 : decode cX7_firstFreed 7 = .ok (.if_icmp .ge 17, 3) := by decide +kernel
theorem dX7_firstFreed_10 : decode cX7_firstFreed 10 = .ok (.aload_n 0, 1) := by decide +kernel
theorem dX7_firstFreed_11 : decode cX7_firstFreed 11 = .ok (.iload_n 1, 1) := by decide +kernel
theorem dX7_firstFreed_12 : decode cX7_firstFreed 12 = .ok (.invokevirtual 283, 3) := by decide +kernel
theorem dX7_firstFreed_15 : decode cX7_firstFreed 15 = .ok (.ifCond .ne 9, 3) := by decide +kernel
theorem dX7_firstFreed_18 : decode cX7_firstFreed 18 = .ok (.iinc 1 1, 3) := by decide +kernel
theorem dX7_firstFreed_21 : decode cX7_firstFreed 21 = .ok (.goto (-19), 3) := by decide +kernel
theorem dX7_firstFreed_24 : decode cX7_firstFreed 24 = .ok (.iload_n 1, 1) := by decide +kernel
theorem dX7_firstFreed_25 : decode cX7_firstFreed 25 = .ok (.aload_n 0, 1) := by decide +kernel
theorem dX7_firstFreed_26 : decode cX7_firstFreed 26 = .ok (.getfield 256, 3) := by decide +kernel
theorem dX7_firstFreed_29 : decode cX7_firstFreed 29 = .ok (.if_icmp .ge 7, 3) := by decide +kernel
theorem dX7_firstFreed_32 : decode cX7_firstFreed 32 = .ok (.iload_n 1, 1) := by decide +kernel
theorem dX7_firstFreed_33 : decode cX7_firstFreed 33 = .ok (.goto 4, 3) := by decide +kernel
theorem dX7_firstFreed_36 : decode cX7_firstFreed 36 = .ok (.iconst (-1), 1) := by decide +kernel
theorem dX7_firstFreed_37 : decode cX7_firstFreed 37 = .ok (.ireturn, 1) := by decide +kernel
set_option maxRecDepth 20000 in
theorem mc_X7_plan_X7_plan_r1 : mjIn wsX7_plan wsX7_plan_r1 := fun w h => (List.mem_cons_of_mem _ (List.mem_append_left _ (List.mem_append_left _ h)))
set_option maxRecDepth 20000 in
theorem mc_X7_plan_X7_plan_r2 : mjIn wsX7_plan wsX7_plan_r2 := fun w h => (List.mem_cons_of_mem _ (List.mem_append_left _ (List.mem_append_right _ (List.mem_append_left _ h))))
set_option maxRecDepth 20000 in
theorem mc_X7_plan_X7_plan_r3 : mjIn wsX7_plan wsX7_plan_r3 := fun w h => (List.mem_cons_of_mem _ (List.mem_append_left _ (List.mem_append_right _ (List.mem_append_right _ (List.mem_append_left _ h)))))
set_option maxRecDepth 20000 in
theorem mc_X7_plan_X7_plan_r4 : mjIn wsX7_plan wsX7_plan_r4 := fun w h => (List.mem_cons_of_mem _ (List.mem_append_left _ (List.mem_append_right _ (List.mem_append_right _ (List.mem_append_right _ (List.mem_append_left _ h))))))
set_option maxRecDepth 20000 in
theorem mc_X7_plan_X7_plan_r5 : mjIn wsX7_plan wsX7_plan_r5 := fun w h => (List.mem_cons_of_mem _ (List.mem_append_left _ (List.mem_append_right _ (List.mem_append_right _ (List.mem_append_right _ (List.mem_append_right _ (List.mem_append_left _ h)))))))
set_option maxRecDepth 20000 in
theorem mc_X7_plan_X70 : mjIn wsX7_plan wsX70 := fun w h => (List.mem_cons_of_mem _ (List.mem_append_right _ h))
set_option maxRecDepth 20000 in
theorem ggX7_plan_X7_looksAtAll : GoodIn wsX7_plan wsX7_looksAtAll := mj_good (mj_cons (mc_X7_plan_X7_plan_r1 _ (List.mem_of_getElem? (i := 14) rfl)) (mj_app (mj_app (mj_cons (mc_X7_plan_X7_plan_r1 _ (List.mem_of_getElem? (i := 15) rfl)) (mj_cons (mc_X7_plan_X7_plan_r1 _ (List.mem_of_getElem? (i := 16) rfl)) (mj_cons (mc_X7_plan_X7_plan_r1 _ (List.mem_of_getElem? (i := 17) rfl)) (mj_cons (mc_X7_plan_X7_plan_r1 _ (List.mem_of_getElem? (i := 1) rfl)) (mj_cons (mc_X7_plan_X7_plan_r1 _ (List.mem_of_getElem? (i := 9) rfl)) (mj_cons (mc_X7_plan_X7_plan_r1 _ (List.mem_of_getElem? (i := 18) rfl)) (mj_cons (mc_X7_plan_X7_plan_r1 _ (List.mem_of_getElem? (i := 19) rfl)) (mj_cons (mc_X7_plan_X7_plan_r1 _ (List.mem_of_getElem? (i := 20) rfl)) (mj_cons (mc_X7_plan_X7_plan_r1 _ (List.mem_of_getElem? (i := 21) rfl)) (mj_cons (mc_X7_plan_X7_plan_r1 _ (List.mem_of_getElem? (i := 22) rfl)) (mj_cons (mc_X7_plan_X7_plan_r1 _ (List.mem_of_getElem? (i := 13) rfl)) (mj_cons (mc_X7_plan_X7_plan_r1 _ (List.mem_of_getElem? (i := 23) rfl)) (mj_cons (mc_X7_plan_X7_plan_r2 _ (List.mem_of_getElem? (i := 0) rfl)) (mj_cons (mc_X7_plan_X7_plan_r2 _ (List.mem_of_getElem? (i := 1) rfl)) (mj_cons (mc_X7_plan_X7_plan_r2 _ (List.mem_of_getElem? (i := 2) rfl)) (mj_cons (mc_X7_plan_X7_plan_r2 _ (List.mem_of_getElem? (i := 3) rfl)) (mj_cons (mc_X7_plan_X7_plan_r2 _ (List.mem_of_getElem? (i := 4) rfl)) (mj_cons (mc_X7_plan_X7_plan_r2 _ (List.mem_of_getElem? (i := 5) rfl)) (mj_cons (mc_X7_plan_X7_plan_r2 _ (List.mem_of_getElem? (i := 6) rfl)) (mj_cons (mc_X7_plan_X7_plan_r2 _ (List.mem_of_getElem? (i := 7) rfl)) (mj_cons (mc_X7_plan_X7_plan_r2 _ (List.mem_of_getElem? (i := 8) rfl)) (mj_cons (mc_X7_plan_X7_plan_r2 _ (List.mem_of_getElem? (i := 9) rfl)) (mj_cons (mc_X7_plan_X7_plan_r2 _ (List.mem_of_getElem? (i := 10) rfl)) (mj_cons (mc_X7_plan_X7_plan_r2 _ (List.mem_of_getElem? (i := 11) rfl)) mj_nil)))))))))))))))))))))))) (mj_app (mj_cons (mc_X7_plan_X7_plan_r2 _ (List.mem_of_getElem? (i := 12) rfl)) (mj_cons (mc_X7_plan_X7_plan_r2 _ (List.mem_of_getElem? (i := 13) rfl)) (mj_cons (mc_X7_plan_X7_plan_r2 _ (List.mem_of_getElem? (i := 14) rfl)) (mj_cons (mc_X7_plan_X7_plan_r2 _ (List.mem_of_getElem? (i := 15) rfl)) (mj_cons (mc_X7_plan_X7_plan_r2 _ (List.mem_of_getElem? (i := 16) rfl)) (mj_cons (mc_X7_plan_X7_plan_r2 _ (List.mem_of_getElem? (i := 17) rfl)) (mj_cons (mc_X7_plan_X7_plan_r2 _ (List.mem_of_getElem? (i := 18) rfl)) (mj_cons (mc_X7_plan_X7_plan_r2 _ (List.mem_of_getElem? (i := 19) rfl)) (mj_cons (mc_X7_plan_X7_plan_r2 _ (List.mem_of_getElem? (i := 20) rfl)) (mj_cons (mc_X7_plan_X7_plan_r2 _ (List.mem_of_getElem? (i := 21) rfl)) (mj_cons (mc_X7_plan_X7_plan_r2 _ (List.mem_of_getElem? (i := 22) rfl)) (mj_cons (mc_X7_plan_X7_plan_r2 _ (List.mem_of_getElem? (i := 23) rfl)) (mj_cons (mc_X7_plan_X7_plan_r3 _ (List.mem_of_getElem? (i := 0) rfl)) (mj_cons (mc_X7_plan_X7_plan_r3 _ (List.mem_of_getElem? (i := 1) rfl)) (mj_cons (mc_X7_plan_X7_plan_r3 _ (List.mem_of_getElem? (i := 2) rfl)) (mj_cons (mc_X7_plan_X7_plan_r3 _ (List.mem_of_getElem? (i := 3) rfl)) (mj_cons (mc_X7_plan_X7_plan_r3 _ (List.mem_of_getElem? (i := 4) rfl)) (mj_cons (mc_X7_plan_X7_plan_r3 _ (List.mem_of_getElem? (i := 5) rfl)) (mj_cons (mc_X7_plan_X7_plan_r3 _ (List.mem_of_getElem? (i := 6) rfl)) (mj_cons (mc_X7_plan_X7_plan_r3 _ (List.mem_of_getElem? (i := 7) rfl)) (mj_cons (mc_X7_plan_X7_plan_r3 _ (List.mem_of_getElem? (i := 8) rfl)) (mj_cons (mc_X7_plan_X7_plan_r3 _ (List.mem_of_getElem? (i := 9) rfl)) (mj_cons (mc_X7_plan_X7_plan_r3 _ (List.mem_of_getElem? (i := 10) rfl)) (mj_cons (mc_X7_plan_X7_plan_r3 _ (List.mem_of_getElem? (i := 11) rfl)) mj_nil)))))))))))))))))))))))) (mj_app (mj_cons (mc_X7_plan_X7_plan_r3 _ (List.mem_of_getElem? (i := 12) rfl)) (mj_cons (mc_X7_plan_X7_plan_r3 _ (List.mem_of_getElem? (i := 13) rfl)) (mj_cons (mc_X7_plan_X7_plan_r3 _ (List.mem_of_getElem? (i := 14) rfl)) (mj_cons (mc_X7_plan_X7_plan_r3 _ (List.mem_of_getElem? (i := 15) rfl)) (mj_cons (mc_X7_plan_X7_plan_r3 _ (List.mem_of_getElem? (i := 16) rfl)) (mj_cons (mc_X7_plan_X7_plan_r3 _ (List.mem_of_getElem? (i := 17) rfl)) (mj_cons (mc_X7_plan_X7_plan_r3 _ (List.mem_of_getElem? (i := 18) rfl)) (mj_cons (mc_X7_plan_X7_plan_r3 _ (List.mem_of_getElem? (i := 19) rfl)) (mj_cons (mc_X7_plan_X7_plan_r3 _ (List.mem_of_getElem? (i := 20) rfl)) (mj_cons (mc_X7_plan_X7_plan_r3 _ (List.mem_of_getElem? (i := 21) rfl)) (mj_cons (mc_X7_plan_X7_plan_r3 _ (List.mem_of_getElem? (i := 22) rfl)) (mj_cons (mc_X7_plan_X7_plan_r3 _ (List.mem_of_getElem? (i := 23) rfl)) (mj_cons (mc_X7_plan_X7_plan_r4 _ (List.mem_of_getElem? (i := 0) rfl)) (mj_cons (mc_X7_plan_X7_plan_r4 _ (List.mem_of_getElem? (i := 1) rfl)) (mj_cons (mc_X7_plan_X7_plan_r1 _ (List.mem_of_getElem? (i := 4) rfl)) (mj_cons (mc_X7_plan_X7_plan_r1 _ (List.mem_of_getElem? (i := 6) rfl)) (mj_cons (mc_X7_plan_X7_plan_r1 _ (List.mem_of_getElem? (i := 8) rfl)) (mj_cons (mc_X7_plan_X7_plan_r4 _ (List.mem_of_getElem? (i := 2) rfl)) (mj_cons (mc_X7_plan_X7_plan_r4 _ (List.mem_of_getElem? (i := 3) rfl)) (mj_cons (mc_X7_plan_X7_plan_r4 _ (List.mem_of_getElem? (i := 4) rfl)) (mj_cons (mc_X7_plan_X7_plan_r4 _ (List.mem_of_getElem? (i := 5) rfl)) (mj_cons (mc_X7_plan_X7_plan_r4 _ (List.mem_of_getElem? (i := 6) rfl)) (mj_cons (mc_X7_plan_X7_plan_r4 _ (List.mem_of_getElem? (i := 7) rfl)) (mj_cons (mc_X7_plan_X7_plan_r4 _ (List.mem_of_getElem? (i := 8) rfl)) mj_nil)))))))))))))))))))))))) (mj_app (mj_cons (mc_X7_plan_X7_plan_r4 _ (List.mem_of_getElem? (i := 9) rfl)) (mj_cons (mc_X7_plan_X7_plan_r4 _ (List.mem_of_getElem? (i := 10) rfl)) (mj_cons (mc_X7_plan_X7_plan_r4 _ (List.mem_of_getElem? (i := 11) rfl)) (mj_cons (mc_X7_plan_X7_plan_r4 _ (List.mem_of_getElem? (i := 12) rfl)) (mj_cons (mc_X7_plan_X7_plan_r4 _ (List.mem_of_getElem? (i := 13) rfl)) (mj_cons (mc_X7_plan_X7_plan_r4 _ (List.mem_of_getElem? (i := 14) rfl)) (mj_cons (mc_X7_plan_X7_plan_r4 _ (List.mem_of_getElem? (i := 15) rfl)) (mj_cons (mc_X7_plan_X7_plan_r4 _ (List.mem_of_getElem? (i := 16) rfl)) (mj_cons (mc_X7_plan_X7_plan_r4 _ (List.mem_of_getElem? (i := 17) rfl)) (mj_cons (mc_X7_plan_X7_plan_r4 _ (List.mem_of_getElem? (i := 18) rfl)) (mj_cons (mc_X7_plan_X7_plan_r4 _ (List.mem_of_getElem? (i := 19) rfl)) (mj_cons (mc_X7_plan_X7_plan_r4 _ (List.mem_of_getElem? (i := 20) rfl)) (mj_cons (mc_X7_plan_X7_plan_r4 _ (List.mem_of_getElem? (i := 21) rfl)) (mj_cons (mc_X7_plan_X7_plan_r4 _ (List.mem_of_getElem? (i := 22) rfl)) (mj_cons (mc_X7_plan_X7_plan_r4 _ (List.mem_of_getElem? (i := 23) rfl)) (mj_cons (mc_X7_plan_X7_plan_r5 _ (List.mem_of_getElem? (i := 0) rfl)) (mj_cons (mc_X7_plan_X7_plan_r5 _ (List.mem_of_getElem? (i := 1) rfl)) (mj_cons (mc_X7_plan_X7_plan_r5 _ (List.mem_of_getElem? (i := 2) rfl)) (mj_cons (mc_X7_plan_X7_plan_r5 _ (List.mem_of_getElem? (i := 3) rfl)) (mj_cons (mc_X7_plan_X7_plan_r5 _ (List.mem_of_getElem? (i := 4) rfl)) (mj_cons (mc_X7_plan_X7_plan_r5 _ (List.mem_of_getElem? (i := 5) rfl)) (mj_cons (mc_X7_plan_X7_plan_r5 _ (List.mem_of_getElem? (i := 6) rfl)) (mj_cons (mc_X7_plan_X7_plan_r5 _ (List.mem_of_getElem? (i := 7) rfl)) (mj_cons (mc_X7_plan_X7_plan_r5 _ (List.mem_of_getElem? (i := 8) rfl)) mj_nil)))))))))))))))))))))))) (mj_cons (mc_X7_plan_X7_plan_r5 _ (List.mem_of_getElem? (i := 9) rfl)) (mj_cons (mc_X7_plan_X7_plan_r5 _ (List.mem_of_getElem? (i := 10) rfl)) (mj_cons (mc_X7_plan_X7_plan_r5 _ (List.mem_of_getElem? (i := 11) rfl)) (mj_cons (mc_X7_plan_X7_plan_r5 _ (List.mem_of_getElem? (i := 12) rfl)) (mj_cons (mc_X7_plan_X7_plan_r5 _ (List.mem_of_getElem? (i := 13) rfl)) (mj_cons (mc_X7_plan_X7_plan_r5 _ (List.mem_of_getElem? (i := 14) rfl)) mj_nil)))))))))) mc_X7_plan_X70)) (by decide +kernel)
set_option maxRecDepth 20000 in
theorem gX7_plan_X7_looksAtAll : GoodIn wsX7_plan (wsV RX7 286 RX7 yX7_looksAtAll wsX7_looksAtAll) := goodIn_app (mj_good (mj_cons (mc_X7_plan_X7_plan_r1 _ (List.mem_of_getElem? (i := 10) rfl)) (mj_cons (mc_X7_plan_X7_plan_r1 _ (List.mem_of_getElem? (i := 11) rfl)) (mj_cons (mc_X7_plan_X7_plan_r1 _ (List.mem_of_getElem? (i := 12) rfl)) (mj_cons (mc_X7_plan_X7_plan_r1 _ (List.mem_of_getElem? (i := 13) rfl)) mj_nil)))) (by decide +kernel)) ggX7_plan_X7_looksAtAll
set_option maxRecDepth 20000 in
theorem ggX7_plan_X7_refuse : GoodIn wsX7_plan wsX7_refuse := mj_good (mj_cons (mc_X7_plan_X7_plan_r5 _ (List.mem_of_getElem? (i := 18) rfl)) (mj_app (mj_cons (mc_X7_plan_X7_plan_r5 _ (List.mem_of_getElem? (i := 19) rfl)) mj_nil) mc_X7_plan_X70)) (by decide +kernel)
set_option maxRecDepth 20000 in
theorem gX7_plan_X7_refuse : GoodIn wsX7_plan (wsV RX7 290 RX7 yX7_refuse wsX7_refuse) := goodIn_app (mj_good (mj_cons (mc_X7_plan_X7_plan_r5 _ (List.mem_of_getElem? (i := 15) rfl)) (mj_cons (mc_X7_plan_X7_plan_r5 _ (List.mem_of_getElem? (i := 16) rfl)) (mj_cons (mc_X7_plan_X7_plan_r5 _ (List.mem_of_getElem? (i := 17) rfl)) (mj_cons (mc_X7_plan_X7_plan_r1 _ (List.mem_of_getElem? (i := 13) rfl)) mj_nil)))) (by decide +kernel)) ggX7_plan_X7_refuse
set_option maxRecDepth 20000 in
theorem mc_X7_plan_X7_plan_r6 : mjIn wsX7_plan wsX7_plan_r6 := fun w h => (List.mem_cons_of_mem _ (List.mem_append_left _ (List.mem_append_right _ (List.mem_append_right _ (List.mem_append_right _ (List.mem_append_right _ (List.mem_append_right _ h)))))))
set_option maxRecDepth 20000 in
theorem ggX7_plan_X7_firstFreed : GoodIn wsX7_plan wsX7_firstFreed := mj_good (mj_cons (mc_X7_plan_X7_plan_r5 _ (List.mem_of_getElem? (i := 23) rfl)) (mj_app (mj_cons (mc_X7_plan_X7_plan_r1 _ (List.mem_of_getElem? (i := 16) rfl)) (mj_cons (mc_X7_plan_X7_plan_r6 _ (List.mem_of_getElem? (i := 0) rfl)) (mj_cons (mc_X7_plan_X7_plan_r6 _ (List.mem_of_getElem? (i := 1) rfl)) (mj_cons (mc_X7_plan_X7_plan_r6 _ (List.mem_of_getElem? (i := 2) rfl)) (mj_cons (mc_X7_plan_X7_plan_r1 _ (List.mem_of_getElem? (i := 13) rfl)) (mj_cons (mc_X7_plan_X7_plan_r6 _ (List.mem_of_getElem? (i := 3) rfl)) (mj_cons (mc_X7_plan_X7_plan_r1 _ (List.mem_of_getElem? (i := 19) rfl)) (mj_cons (mc_X7_plan_X7_plan_r2 _ (List.mem_of_getElem? (i := 15) rfl)) (mj_cons (mc_X7_plan_X7_plan_r3 _ (List.mem_of_getElem? (i := 7) rfl)) (mj_cons (mc_X7_plan_X7_plan_r6 _ (List.mem_of_getElem? (i := 4) rfl)) mj_nil)))))))))) mc_X7_plan_X70)) (by decide +kernel)
set_option maxRecDepth 20000 in
theorem gX7_plan_X7_firstFreed : GoodIn wsX7_plan (wsV RX7 293 RX7 yX7_firstFreed wsX7_firstFreed) := goodIn_app (mj_good (mj_cons (mc_X7_plan_X7_plan_r5 _ (List.mem_of_getElem? (i := 20) rfl)) (mj_cons (mc_X7_plan_X7_plan_r5 _ (List.mem_of_getElem? (i := 21) rfl)) (mj_cons (mc_X7_plan_X7_plan_r5 _ (List.mem_of_getElem? (i := 22) rfl)) (mj_cons (mc_X7_plan_X7_plan_r1 _ (List.mem_of_getElem? (i := 13) rfl)) mj_nil)))) (by decide +kernel)) ggX7_plan_X7_firstFreed
theorem dX7_plan_0 : decode cX7_plan 0 = .ok (.aload_n 0, 1) := by decide +kernel
theorem dX7_plan_1 : decode cX7_plan 1 = .ok (.iload_n 1, 1) := by decide +kernel
theorem dX7_plan_2 : decode cX7_plan 2 = .ok (.invokevirtual 286, 3) := by decide +kernel
theorem dX7_plan_5 : decode cX7_plan 5 = .ok (.ifCond .ne 10, 3) := by decide +kernel
theorem dX7_plan_8 : decode cX7_plan 8 = .ok (.aload_n 0, 1) := by decide +kernel
theorem dX7_plan_9 : decode cX7_plan 9 = .ok (.bipush 10, 2) := by decide +kernel
theorem dX7_plan_11 : decode cX7_plan 11 = .ok (.invokevirtual 290, 3) := by decide +kernel
theorem dX7_plan_14 : decode cX7_plan 14 = .ok (.ireturn, 1) := by decide +kernel
theorem dX7_plan_15 : decode cX7_plan 15 = .ok (.aload_n 0, 1) := by decide +kernel
theorem dX7_plan_16 : decode cX7_plan 16 = .ok (.invokevirtual 293, 3) := by decide +kernel
theorem dX7_plan_19 : decode cX7_plan 19 = .ok (.istore_n 2, 1) := by decide +kernel
theorem dX7_plan_20 : decode cX7_plan 20 = .ok (.iload_n 2, 1) := by decide +kernel
theorem dX7_plan_21 : decode cX7_plan 21 = .ok (.ifCond .ge 10, 3) := by decide +kernel
theorem dX7_plan_24 : decode cX7_plan 24 = .ok (.aload_n 0, 1) := by decide +kernel
theorem dX7_plan_25 : decode cX7_plan 25 = .ok (.bipush 11, 2) := by decide +kernel
theorem dX7_plan_27 : decode cX7_plan 27 = .ok (.invokevirtual 290, 3) := by decide +kernel
theorem dX7_plan_30 : decode cX7_plan 30 = .ok (.ireturn, 1) := by decide +kernel
theorem dX7_plan_31 : decode cX7_plan 31 = .ok (.aload_n 0, 1) := by decide +kernel
theorem dX7_plan_32 : decode cX7_plan 32 = .ok (.iconst 1, 1) := by decide +kernel
theorem dX7_plan_33 : decode cX7_plan 33 = .ok (.putfield 296, 3) := by decide +kernel
theorem dX7_plan_36 : decode cX7_plan 36 = .ok (.aload_n 0, 1) := by decide +kernel
theorem dX7_plan_37 : decode cX7_plan 37 = .ok (.aload_n 0, 1) := by decide +kernel
theorem dX7_plan_38 : decode cX7_plan 38 = .ok (.getfield 86, 3) := by decide +kernel
theorem dX7_plan_41 : decode cX7_plan 41 = .ok (.iload_n 2, 1) := by decide +kernel
theorem dX7_plan_42 : decode cX7_plan 42 = .ok (.iaload, 1) := by decide +kernel
theorem dX7_plan_43 : decode cX7_plan 43 = .ok (.putfield 300, 3) := by decide +kernel
theorem dX7_plan_46 : decode cX7_plan 46 = .ok (.aload_n 0, 1) := by decide +kernel
theorem dX7_plan_47 : decode cX7_plan 47 = .ok (.getfield 300, 3) := by decide +kernel
theorem dX7_plan_50 : decode cX7_plan 50 = .ok (.iconst 1, 1) := by decide +kernel
theorem dX7_plan_51 : decode cX7_plan 51 = .ok (.isub, 1) := by decide +kernel
theorem dX7_plan_52 : decode cX7_plan 52 = .ok (.istore_n 3, 1) := by decide +kernel
theorem dX7_plan_53 : decode cX7_plan 53 = .ok (.iload_n 3, 1) := by decide +kernel
theorem dX7_plan_54 : decode cX7_plan 54 = .ok (.ifCond .lt 52, 3) := by decide +kernel
theorem dX7_plan_57 : decode cX7_plan 57 = .ok (.aload_n 0, 1) := by decide +kernel
theorem dX7_plan_58 : decode cX7_plan 58 = .ok (.getfield 66, 3) := by decide +kernel
theorem dX7_plan_61 : decode cX7_plan 61 = .ok (.iload_n 3, 1) := by decide +kernel
theorem dX7_plan_62 : decode cX7_plan 62 = .ok (.aload_n 0, 1) := by decide +kernel
theorem dX7_plan_63 : decode cX7_plan 63 = .ok (.getfield 92, 3) := by decide +kernel
theorem dX7_plan_66 : decode cX7_plan 66 = .ok (.iload_n 2, 1) := by decide +kernel
theorem dX7_plan_67 : decode cX7_plan 67 = .ok (.iaload, 1) := by decide +kernel
theorem dX7_plan_68 : decode cX7_plan 68 = .ok (.iastore, 1) := by decide +kernel
theorem dX7_plan_69 : decode cX7_plan 69 = .ok (.aload_n 0, 1) := by decide +kernel
theorem dX7_plan_70 : decode cX7_plan 70 = .ok (.getfield 69, 3) := by decide +kernel
theorem dX7_plan_73 : decode cX7_plan 73 = .ok (.iload_n 3, 1) := by decide +kernel
theorem dX7_plan_74 : decode cX7_plan 74 = .ok (.aload_n 0, 1) := by decide +kernel
theorem dX7_plan_75 : decode cX7_plan 75 = .ok (.getfield 95, 3) := by decide +kernel
theorem dX7_plan_78 : decode cX7_plan 78 = .ok (.iload_n 2, 1) := by decide +kernel
theorem dX7_plan_79 : decode cX7_plan 79 = .ok (.iaload, 1) := by decide +kernel
theorem dX7_plan_80 : decode cX7_plan 80 = .ok (.iastore, 1) := by decide +kernel
theorem dX7_plan_81 : decode cX7_plan 81 = .ok (.aload_n 0, 1) := by decide +kernel
theorem dX7_plan_82 : decode cX7_plan 82 = .ok (.getfield 72, 3) := by decide +kernel
theorem dX7_plan_85 : decode cX7_plan 85 = .ok (.iload_n 3, 1) := by decide +kernel
theorem dX7_plan_86 : decode cX7_plan 86 = .ok (.aload_n 0, 1) := by decide +kernel
theorem dX7_plan_87 : decode cX7_plan 87 = .ok (.getfield 98, 3) := by decide +kernel
theorem dX7_plan_90 : decode cX7_plan 90 = .ok (.iload_n 2, 1) := by decide +kernel
theorem dX7_plan_91 : decode cX7_plan 91 = .ok (.iaload, 1) := by decide +kernel
theorem dX7_plan_92 : decode cX7_plan 92 = .ok (.iastore, 1) := by decide +kernel
theorem dX7_plan_93 : decode cX7_plan 93 = .ok (.aload_n 0, 1) := by decide +kernel
theorem dX7_plan_94 : decode cX7_plan 94 = .ok (.getfield 89, 3) := by decide +kernel
theorem dX7_plan_97 : decode cX7_plan 97 = .ok (.iload_n 2, 1) := by decide +kernel
theorem dX7_plan_98 : decode cX7_plan 98 = .ok (.iaload, 1) := by decide +kernel
theorem dX7_plan_99 : decode cX7_plan 99 = .ok (.istore_n 2, 1) := by decide +kernel
theorem dX7_plan_100 : decode cX7_plan 100 = .ok (.iinc 3 (-1), 3) := by decide +kernel
theorem dX7_plan_103 : decode cX7_plan 103 = .ok (.goto (-50), 3) := by decide +kernel
theorem dX7_plan_106 : decode cX7_plan 106 = .ok (.aload_n 0, 1) := by decide +kernel
theorem dX7_plan_107 : decode cX7_plan 107 = .ok (.getfield 300, 3) := by decide +kernel
theorem dX7_plan_110 : decode cX7_plan 110 = .ok (.ireturn, 1) := by decide +kernel
set_option maxRecDepth 20000 in
theorem mc_X7_fewest_X7_fewest_r1 : mjIn wsX7_fewest wsX7_fewest_r1 := fun w h => (List.mem_cons_of_mem _ (List.mem_append_left _ (List.mem_append_left _ h)))
set_option maxRecDepth 20000 in
theorem mc_X7_fewest_X7_fewest_r2 : mjIn wsX7_fewest wsX7_fewest_r2 := fun w h => (List.mem_cons_of_mem _ (List.mem_append_left _ (List.mem_append_right _ (List.mem_append_left _ h))))
set_option maxRecDepth 20000 in
theorem mc_X7_fewest_X7_fewest_r3 : mjIn wsX7_fewest wsX7_fewest_r3 := fun w h => (List.mem_cons_of_mem _ (List.mem_append_left _ (List.mem_append_right _ (List.mem_append_right _ (List.mem_append_left _ h)))))
set_option maxRecDepth 20000 in
theorem mc_X7_fewest_X7_fewest_r4 : mjIn wsX7_fewest wsX7_fewest_r4 := fun w h => (List.mem_cons_of_mem _ (List.mem_append_left _ (List.mem_append_right _ (List.mem_append_right _ (List.mem_append_right _ (List.mem_append_left _ h))))))
set_option maxRecDepth 20000 in
theorem mc_X7_fewest_X7_fewest_r5 : mjIn wsX7_fewest wsX7_fewest_r5 := fun w h => (List.mem_cons_of_mem _ (List.mem_append_left _ (List.mem_append_right _ (List.mem_append_right _ (List.mem_append_right _ (List.mem_append_right _ (List.mem_append_left _ h)))))))
set_option maxRecDepth 20000 in
theorem mc_X7_fewest_X7_fewest_r6 : mjIn wsX7_fewest wsX7_fewest_r6 := fun w h => (List.mem_cons_of_mem _ (List.mem_append_left _ (List.mem_append_right _ (List.mem_append_right _ (List.mem_append_right _ (List.mem_append_right _ (List.mem_append_right _ h)))))))
set_option maxRecDepth 20000 in
theorem mc_X7_fewest_X70 : mjIn wsX7_fewest wsX70 := fun w h => (List.mem_cons_of_mem _ (List.mem_append_right _ h))
set_option maxRecDepth 20000 in
theorem ggX7_fewest_X7_plan : GoodIn wsX7_fewest wsX7_plan := mj_good (mj_cons (mc_X7_fewest_X7_fewest_r1 _ (List.mem_of_getElem? (i := 7) rfl)) (mj_app (mj_app (mj_cons (mc_X7_fewest_X7_fewest_r1 _ (List.mem_of_getElem? (i := 8) rfl)) (mj_cons (mc_X7_fewest_X7_fewest_r1 _ (List.mem_of_getElem? (i := 9) rfl)) (mj_cons (mc_X7_fewest_X7_fewest_r1 _ (List.mem_of_getElem? (i := 10) rfl)) (mj_cons (mc_X7_fewest_X7_fewest_r1 _ (List.mem_of_getElem? (i := 11) rfl)) (mj_cons (mc_X7_fewest_X7_fewest_r1 _ (List.mem_of_getElem? (i := 12) rfl)) (mj_cons (mc_X7_fewest_X7_fewest_r1 _ (List.mem_of_getElem? (i := 13) rfl)) (mj_cons (mc_X7_fewest_X7_fewest_r1 _ (List.mem_of_getElem? (i := 14) rfl)) (mj_cons (mc_X7_fewest_X7_fewest_r1 _ (List.mem_of_getElem? (i := 15) rfl)) (mj_cons (mc_X7_fewest_X7_fewest_r1 _ (List.mem_of_getElem? (i := 16) rfl)) (mj_cons (mc_X7_fewest_X7_fewest_r1 _ (List.mem_of_getElem? (i := 17) rfl)) (mj_cons (mc_X7_fewest_X7_fewest_r1 _ (List.mem_of_getElem? (i := 18) rfl)) (mj_cons (mc_X7_fewest_X7_fewest_r1 _ (List.mem_of_getElem? (i := 19) rfl)) (mj_cons (mc_X7_fewest_X7_fewest_r1 _ (List.mem_of_getElem? (i := 20) rfl)) (mj_cons (mc_X7_fewest_X7_fewest_r1 _ (List.mem_of_getElem? (i := 6) rfl)) (mj_cons (mc_X7_fewest_X7_fewest_r1 _ (List.mem_of_getElem? (i := 21) rfl)) (mj_cons (mc_X7_fewest_X7_fewest_r1 _ (List.mem_of_getElem? (i := 22) rfl)) (mj_cons (mc_X7_fewest_X7_fewest_r1 _ (List.mem_of_getElem? (i := 23) rfl)) (mj_cons (mc_X7_fewest_X7_fewest_r2 _ (List.mem_of_getElem? (i := 0) rfl)) (mj_cons (mc_X7_fewest_X7_fewest_r2 _ (List.mem_of_getElem? (i := 1) rfl)) (mj_cons (mc_X7_fewest_X7_fewest_r2 _ (List.mem_of_getElem? (i := 2) rfl)) (mj_cons (mc_X7_fewest_X7_fewest_r2 _ (List.mem_of_getElem? (i := 3) rfl)) (mj_cons (mc_X7_fewest_X7_fewest_r2 _ (List.mem_of_getElem? (i := 4) rfl)) (mj_cons (mc_X7_fewest_X7_fewest_r2 _ (List.mem_of_getElem? (i := 5) rfl)) (mj_cons (mc_X7_fewest_X7_fewest_r2 _ (List.mem_of_getElem? (i := 6) rfl)) mj_nil)))))))))))))))))))))))) (mj_app (mj_cons (mc_X7_fewest_X7_fewest_r2 _ (List.mem_of_getElem? (i := 7) rfl)) (mj_cons (mc_X7_fewest_X7_fewest_r2 _ (List.mem_of_getElem? (i := 8) rfl)) (mj_cons (mc_X7_fewest_X7_fewest_r2 _ (List.mem_of_getElem? (i := 9) rfl)) (mj_cons (mc_X7_fewest_X7_fewest_r2 _ (List.mem_of_getElem? (i := 10) rfl)) (mj_cons (mc_X7_fewest_X7_fewest_r2 _ (List.mem_of_getElem? (i := 11) rfl)) (mj_cons (mc_X7_fewest_X7_fewest_r2 _ (List.mem_of_getElem? (i := 12) rfl)) (mj_cons (mc_X7_fewest_X7_fewest_r2 _ (List.mem_of_getElem? (i := 13) rfl)) (mj_cons (mc_X7_fewest_X7_fewest_r2 _ (List.mem_of_getElem? (i := 14) rfl)) (mj_cons (mc_X7_fewest_X7_fewest_r2 _ (List.mem_of_getElem? (i := 15) rfl)) (mj_cons (mc_X7_fewest_X7_fewest_r2 _ (List.mem_of_getElem? (i := 16) rfl)) (mj_cons (mc_X7_fewest_X7_fewest_r2 _ (List.mem_of_getElem? (i := 17) rfl)) (mj_cons (mc_X7_fewest_X7_fewest_r2 _ (List.mem_of_getElem? (i := 18) rfl)) (mj_cons (mc_X7_fewest_X7_fewest_r2 _ (List.mem_of_getElem? (i := 19) rfl)) (mj_cons (mc_X7_fewest_X7_fewest_r2 _ (List.mem_of_getElem? (i := 20) rfl)) (mj_cons (mc_X7_fewest_X7_fewest_r2 _ (List.mem_of_getElem? (i := 21) rfl)) (mj_cons (mc_X7_fewest_X7_fewest_r2 _ (List.mem_of_getElem? (i := 22) rfl)) (mj_cons (mc_X7_fewest_X7_fewest_r2 _ (List.mem_of_getElem? (i := 23) rfl)) (mj_cons (mc_X7_fewest_X7_fewest_r3 _ (List.mem_of_getElem? (i := 0) rfl)) (mj_cons (mc_X7_fewest_X7_fewest_r3 _ (List.mem_of_getElem? (i := 1) rfl)) (mj_cons (mc_X7_fewest_X7_fewest_r3 _ (List.mem_of_getElem? (i := 2) rfl)) (mj_cons (mc_X7_fewest_X7_fewest_r3 _ (List.mem_of_getElem? (i := 3) rfl)) (mj_cons (mc_X7_fewest_X7_fewest_r3 _ (List.mem_of_getElem? (i := 4) rfl)) (mj_cons (mc_X7_fewest_X7_fewest_r3 _ (List.mem_of_getElem? (i := 5) rfl)) (mj_cons (mc_X7_fewest_X7_fewest_r3 _ (List.mem_of_getElem? (i := 6) rfl)) mj_nil)))))))))))))))))))))))) (mj_app (mj_cons (mc_X7_fewest_X7_fewest_r3 _ (List.mem_of_getElem? (i := 7) rfl)) (mj_cons (mc_X7_fewest_X7_fewest_r3 _ (List.mem_of_getElem? (i := 8) rfl)) (mj_cons (mc_X7_fewest_X7_fewest_r3 _ (List.mem_of_getElem? (i := 9) rfl)) (mj_cons (mc_X7_fewest_X7_fewest_r3 _ (List.mem_of_getElem? (i := 10) rfl)) (mj_cons (mc_X7_fewest_X7_fewest_r3 _ (List.mem_of_getElem? (i := 11) rfl)) (mj_cons (mc_X7_fewest_X7_fewest_r3 _ (List.mem_of_getElem? (i := 12) rfl)) (mj_cons (mc_X7_fewest_X7_fewest_r3 _ (List.mem_of_getElem? (i := 13) rfl)) (mj_cons (mc_X7_fewest_X7_fewest_r3 _ (List.mem_of_getElem? (i := 14) rfl)) (mj_cons (mc_X7_fewest_X7_fewest_r3 _ (List.mem_of_getElem? (i := 15) rfl)) (mj_cons (mc_X7_fewest_X7_fewest_r3 _ (List.mem_of_getElem? (i := 16) rfl)) (mj_cons (mc_X7_fewest_X7_fewest_r3 _ (List.mem_of_getElem? (i := 17) rfl)) (mj_cons (mc_X7_fewest_X7_fewest_r3 _ (List.mem_of_getElem? (i := 18) rfl)) (mj_cons (mc_X7_fewest_X7_fewest_r3 _ (List.mem_of_getElem? (i := 19) rfl)) (mj_cons (mc_X7_fewest_X7_fewest_r3 _ (List.mem_of_getElem? (i := 20) rfl)) (mj_cons (mc_X7_fewest_X7_fewest_r3 _ (List.mem_of_getElem? (i := 21) rfl)) (mj_cons (mc_X7_fewest_X7_fewest_r3 _ (List.mem_of_getElem? (i := 22) rfl)) (mj_cons (mc_X7_fewest_X7_fewest_r3 _ (List.mem_of_getElem? (i := 23) rfl)) (mj_cons (mc_X7_fewest_X7_fewest_r4 _ (List.mem_of_getElem? (i := 0) rfl)) (mj_cons (mc_X7_fewest_X7_fewest_r4 _ (List.mem_of_getElem? (i := 1) rfl)) (mj_cons (mc_X7_fewest_X7_fewest_r4 _ (List.mem_of_getElem? (i := 2) rfl)) (mj_cons (mc_X7_fewest_X7_fewest_r4 _ (List.mem_of_getElem? (i := 3) rfl)) (mj_cons (mc_X7_fewest_X7_fewest_r4 _ (List.mem_of_getElem? (i := 4) rfl)) (mj_cons (mc_X7_fewest_X7_fewest_r4 _ (List.mem_of_getElem? (i := 5) rfl)) (mj_cons (mc_X7_fewest_X7_fewest_r4 _ (List.mem_of_getElem? (i := 6) rfl)) mj_nil)))))))))))))))))))))))) (mj_app (mj_cons (mc_X7_fewest_X7_fewest_r4 _ (List.mem_of_getElem? (i := 7) rfl)) (mj_cons (mc_X7_fewest_X7_fewest_r4 _ (List.mem_of_getElem? (i := 8) rfl)) (mj_cons (mc_X7_fewest_X7_fewest_r4 _ (List.mem_of_getElem? (i := 9) rfl)) (mj_cons (mc_X7_fewest_X7_fewest_r4 _ (List.mem_of_getElem? (i := 10) rfl)) (mj_cons (mc_X7_fewest_X7_fewest_r4 _ (List.mem_of_getElem? (i := 11) rfl)) (mj_cons (mc_X7_fewest_X7_fewest_r4 _ (List.mem_of_getElem? (i := 12) rfl)) (mj_cons (mc_X7_fewest_X7_fewest_r4 _ (List.mem_of_getElem? (i := 13) rfl)) (mj_cons (mc_X7_fewest_X7_fewest_r4 _ (List.mem_of_getElem? (i := 14) rfl)) (mj_cons (mc_X7_fewest_X7_fewest_r4 _ (List.mem_of_getElem? (i := 15) rfl)) (mj_cons (mc_X7_fewest_X7_fewest_r4 _ (List.mem_of_getElem? (i := 16) rfl)) (mj_cons (mc_X7_fewest_X7_fewest_r4 _ (List.mem_of_getElem? (i := 17) rfl)) (mj_cons (mc_X7_fewest_X7_fewest_r4 _ (List.mem_of_getElem? (i := 18) rfl)) (mj_cons (mc_X7_fewest_X7_fewest_r4 _ (List.mem_of_getElem? (i := 19) rfl)) (mj_cons (mc_X7_fewest_X7_fewest_r4 _ (List.mem_of_getElem? (i := 20) rfl)) (mj_cons (mc_X7_fewest_X7_fewest_r4 _ (List.mem_of_getElem? (i := 21) rfl)) (mj_cons (mc_X7_fewest_X7_fewest_r4 _ (List.mem_of_getElem? (i := 22) rfl)) (mj_cons (mc_X7_fewest_X7_fewest_r4 _ (List.mem_of_getElem? (i := 23) rfl)) (mj_cons (mc_X7_fewest_X7_fewest_r5 _ (List.mem_of_getElem? (i := 0) rfl)) (mj_cons (mc_X7_fewest_X7_fewest_r5 _ (List.mem_of_getElem? (i := 1) rfl)) (mj_cons (mc_X7_fewest_X7_fewest_r5 _ (List.mem_of_getElem? (i := 2) rfl)) (mj_cons (mc_X7_fewest_X7_fewest_r5 _ (List.mem_of_getElem? (i := 3) rfl)) (mj_cons (mc_X7_fewest_X7_fewest_r5 _ (List.mem_of_getElem? (i := 4) rfl)) (mj_cons (mc_X7_fewest_X7_fewest_r5 _ (List.mem_of_getElem? (i := 5) rfl)) (mj_cons (mc_X7_fewest_X7_fewest_r5 _ (List.mem_of_getElem? (i := 6) rfl)) mj_nil)))))))))))))))))))))))) (mj_app (mj_cons (mc_X7_fewest_X7_fewest_r5 _ (List.mem_of_getElem? (i := 7) rfl)) (mj_cons (mc_X7_fewest_X7_fewest_r5 _ (List.mem_of_getElem? (i := 8) rfl)) (mj_cons (mc_X7_fewest_X7_fewest_r5 _ (List.mem_of_getElem? (i := 9) rfl)) (mj_cons (mc_X7_fewest_X7_fewest_r5 _ (List.mem_of_getElem? (i := 10) rfl)) (mj_cons (mc_X7_fewest_X7_fewest_r5 _ (List.mem_of_getElem? (i := 11) rfl)) (mj_cons (mc_X7_fewest_X7_fewest_r5 _ (List.mem_of_getElem? (i := 12) rfl)) (mj_cons (mc_X7_fewest_X7_fewest_r5 _ (List.mem_of_getElem? (i := 13) rfl)) (mj_cons (mc_X7_fewest_X7_fewest_r5 _ (List.mem_of_getElem? (i := 14) rfl)) (mj_cons (mc_X7_fewest_X7_fewest_r5 _ (List.mem_of_getElem? (i := 15) rfl)) (mj_cons (mc_X7_fewest_X7_fewest_r5 _ (List.mem_of_getElem? (i := 16) rfl)) (mj_cons (mc_X7_fewest_X7_fewest_r5 _ (List.mem_of_getElem? (i := 17) rfl)) (mj_cons (mc_X7_fewest_X7_fewest_r5 _ (List.mem_of_getElem? (i := 18) rfl)) (mj_cons (mc_X7_fewest_X7_fewest_r5 _ (List.mem_of_getElem? (i := 19) rfl)) (mj_cons (mc_X7_fewest_X7_fewest_r5 _ (List.mem_of_getElem? (i := 20) rfl)) (mj_cons (mc_X7_fewest_X7_fewest_r5 _ (List.mem_of_getElem? (i := 21) rfl)) (mj_cons (mc_X7_fewest_X7_fewest_r5 _ (List.mem_of_getElem? (i := 22) rfl)) (mj_cons (mc_X7_fewest_X7_fewest_r5 _ (List.mem_of_getElem? (i := 23) rfl)) (mj_cons (mc_X7_fewest_X7_fewest_r6 _ (List.mem_of_getElem? (i := 0) rfl)) (mj_cons (mc_X7_fewest_X7_fewest_r6 _ (List.mem_of_getElem? (i := 1) rfl)) (mj_cons (mc_X7_fewest_X7_fewest_r1 _ (List.mem_of_getElem? (i := 1) rfl)) (mj_cons (mc_X7_fewest_X7_fewest_r6 _ (List.mem_of_getElem? (i := 2) rfl)) (mj_cons (mc_X7_fewest_X7_fewest_r6 _ (List.mem_of_getElem? (i := 3) rfl)) (mj_cons (mc_X7_fewest_X7_fewest_r6 _ (List.mem_of_getElem? (i := 4) rfl)) (mj_cons (mc_X7_fewest_X7_fewest_r6 _ (List.mem_of_getElem? (i := 5) rfl)) mj_nil)))))))))))))))))))))))) (mj_cons (mc_X7_fewest_X7_fewest_r6 _ (List.mem_of_getElem? (i := 6) rfl)) (mj_cons (mc_X7_fewest_X7_fewest_r6 _ (List.mem_of_getElem? (i := 7) rfl)) (mj_cons (mc_X7_fewest_X7_fewest_r6 _ (List.mem_of_getElem? (i := 8) rfl)) (mj_cons (mc_X7_fewest_X7_fewest_r6 _ (List.mem_of_getElem? (i := 9) rfl)) (mj_cons (mc_X7_fewest_X7_fewest_r6 _ (List.mem_of_getElem? (i := 10) rfl)) mj_nil)))))))))) mc_X7_fewest_X70)) (by decide +kernel)
set_option maxRecDepth 20000 in
theorem gX7_fewest_X7_plan : GoodIn wsX7_fewest (wsV RX7 306 RX7 yX7_plan wsX7_plan) := goodIn_app (mj_good (mj_cons (mc_X7_fewest_X7_fewest_r1 _ (List.mem_of_getElem? (i := 3) rfl)) (mj_cons (mc_X7_fewest_X7_fewest_r1 _ (List.mem_of_getElem? (i := 4) rfl)) (mj_cons (mc_X7_fewest_X7_fewest_r1 _ (List.mem_of_getElem? (i := 5) rfl)) (mj_cons (mc_X7_fewest_X7_fewest_r1 _ (List.mem_of_getElem? (i := 6) rfl)) mj_nil)))) (by decide +kernel)) ggX7_fewest_X7_plan
set_option maxRecDepth 20000 in
theorem ggX7_fewest_X7_refuse : GoodIn wsX7_fewest wsX7_refuse := mj_good (mj_cons (mc_X7_fewest_X7_fewest_r6 _ (List.mem_of_getElem? (i := 1) rfl)) (mj_app (mj_cons (mc_X7_fewest_X7_fewest_r1 _ (List.mem_of_getElem? (i := 1) rfl)) mj_nil) mc_X7_fewest_X70)) (by decide +kernel)
set_option maxRecDepth 20000 in
theorem gX7_fewest_X7_refuse : GoodIn wsX7_fewest (wsV RX7 290 RX7 yX7_refuse wsX7_refuse) := goodIn_app (mj_good (mj_cons (mc_X7_fewest_X7_fewest_r5 _ (List.mem_of_getElem? (i := 22) rfl)) (mj_cons (mc_X7_fewest_X7_fewest_r5 _ (List.mem_of_getElem? (i := 23) rfl)) (mj_cons (mc_X7_fewest_X7_fewest_r6 _ (List.mem_of_getElem? (i := 0) rfl)) (mj_cons (mc_X7_fewest_X7_fewest_r1 _ (List.mem_of_getElem? (i := 6) rfl)) mj_nil)))) (by decide +kernel)) ggX7_fewest_X7_refuse
theorem dX7_fewest_0 : decode cX7_fewest 0 = .ok (.aload_n 0, 1) := by decide +kernel
theorem dX7_fewest_1 : decode cX7_fewest 1 = .ok (.iconst 0, 1) := by decide +kernel
theorem dX7_fewest_2 : decode cX7_fewest 2 = .ok (.putfield 184, 3) := by decide +kernel
theorem dX7_fewest_5 : decode cX7_fewest 5 = .ok (.aload_n 0, 1) := by decide +kernel
theorem dX7_fewest_6 : decode cX7_fewest 6 = .ok (.iconst 0, 1) := by decide +kernel
theorem dX7_fewest_7 : decode cX7_fewest 7 = .ok (.putfield 187, 3) := by decide +kernel
theorem dX7_fewest_10 : decode cX7_fewest 10 = .ok (.aload_n 0, 1) := by decide +kernel
theorem dX7_fewest_11 : decode cX7_fewest 11 = .ok (.getfield 303, 3) := by decide +kernel
theorem dX7_fewest_14 : decode cX7_fewest 14 = .ok (.ifCond .eq 11, 3) := by decide +kernel
theorem dX7_fewest_17 : decode cX7_fewest 17 = .ok (.aload_n 0, 1) := by decide +kernel
theorem dX7_fewest_18 : decode cX7_fewest 18 = .ok (.iconst 0, 1) := by decide +kernel
theorem dX7_fewest_19 : decode cX7_fewest 19 = .ok (.invokevirtual 306, 3) := by decide +kernel
theorem dX7_fewest_22 : decode cX7_fewest 22 = .ok (.goto 8, 3) := by decide +kernel
theorem dX7_fewest_25 : decode cX7_fewest 25 = .ok (.aload_n 0, 1) := by decide +kernel
theorem dX7_fewest_26 : decode cX7_fewest 26 = .ok (.iconst 1, 1) := by decide +kernel
theorem dX7_fewest_27 : decode cX7_fewest 27 = .ok (.invokevirtual 290, 3) := by decide +kernel
theorem dX7_fewest_30 : decode cX7_fewest 30 = .ok (.ireturn, 1) := by decide +kernel
set_option maxRecDepth 20000 in
theorem mc_X7_fewestSteps_X7_fewestSteps_r1 : mjIn wsX7_fewestSteps wsX7_fewestSteps_r1 := fun w h => (List.mem_cons_of_mem _ (List.mem_append_left _ (List.mem_append_left _ h)))
set_option maxRecDepth 20000 in
theorem mc_X7_fewestSteps_X7_fewestSteps_r2 : mjIn wsX7_fewestSteps wsX7_fewestSteps_r2 := fun w h => (List.mem_cons_of_mem _ (List.mem_append_left _ (List.mem_append_right _ (List.mem_append_left _ h))))
set_option maxRecDepth 20000 in
theorem mc_X7_fewestSteps_X7_fewestSteps_r3 : mjIn wsX7_fewestSteps wsX7_fewestSteps_r3 := fun w h => (List.mem_cons_of_mem _ (List.mem_append_left _ (List.mem_append_right _ (List.mem_append_right _ (List.mem_append_left _ h)))))
set_option maxRecDepth 20000 in
theorem mc_X7_fewestSteps_X7_fewestSteps_r4 : mjIn wsX7_fewestSteps wsX7_fewestSteps_r4 := fun w h => (List.mem_cons_of_mem _ (List.mem_append_left _ (List.mem_append_right _ (List.mem_append_right _ (List.mem_append_right _ (List.mem_append_left _ h))))))
set_option maxRecDepth 20000 in
theorem mc_X7_fewestSteps_X7_fewestSteps_r5 : mjIn wsX7_fewestSteps wsX7_fewestSteps_r5 := fun w h => (List.mem_cons_of_mem _ (List.mem_append_left _ (List.mem_append_right _ (List.mem_append_right _ (List.mem_append_right _ (List.mem_append_right _ (List.mem_append_left _ h)))))))
set_option maxRecDepth 20000 in
theorem mc_X7_fewestSteps_X7_fewestSteps_r6 : mjIn wsX7_fewestSteps wsX7_fewestSteps_r6 := fun w h => (List.mem_cons_of_mem _ (List.mem_append_left _ (List.mem_append_right _ (List.mem_append_right _ (List.mem_append_right _ (List.mem_append_right _ (List.mem_append_right _ h)))))))
set_option maxRecDepth 20000 in
theorem mc_X7_fewestSteps_X70 : mjIn wsX7_fewestSteps wsX70 := fun w h => (List.mem_cons_of_mem _ (List.mem_append_right _ h))
set_option maxRecDepth 20000 in
theorem ggX7_fewestSteps_X7_plan : GoodIn wsX7_fewestSteps wsX7_plan := mj_good (mj_cons (mc_X7_fewestSteps_X7_fewestSteps_r1 _ (List.mem_of_getElem? (i := 7) rfl)) (mj_app (mj_app (mj_cons (mc_X7_fewestSteps_X7_fewestSteps_r1 _ (List.mem_of_getElem? (i := 8) rfl)) (mj_cons (mc_X7_fewestSteps_X7_fewestSteps_r1 _ (List.mem_of_getElem? (i := 9) rfl)) (mj_cons (mc_X7_fewestSteps_X7_fewestSteps_r1 _ (List.mem_of_getElem? (i := 10) rfl)) (mj_cons (mc_X7_fewestSteps_X7_fewestSteps_r1 _ (List.mem_of_getElem? (i := 11) rfl)) (mj_cons (mc_X7_fewestSteps_X7_fewestSteps_r1 _ (List.mem_of_getElem? (i := 12) rfl)) (mj_cons (mc_X7_fewestSteps_X7_fewestSteps_r1 _ (List.mem_of_getElem? (i := 13) rfl)) (mj_cons (mc_X7_fewestSteps_X7_fewestSteps_r1 _ (List.mem_of_getElem? (i := 14) rfl)) (mj_cons (mc_X7_fewestSteps_X7_fewestSteps_r1 _ (List.mem_of_getElem? (i := 15) rfl)) (mj_cons (mc_X7_fewestSteps_X7_fewestSteps_r1 _ (List.mem_of_getElem? (i := 16) rfl)) (mj_cons (mc_X7_fewestSteps_X7_fewestSteps_r1 _ (List.mem_of_getElem? (i := 17) rfl)) (mj_cons (mc_X7_fewestSteps_X7_fewestSteps_r1 _ (List.mem_of_getElem? (i := 18) rfl)) (mj_cons (mc_X7_fewestSteps_X7_fewestSteps_r1 _ (List.mem_of_getElem? (i := 19) rfl)) (mj_cons (mc_X7_fewestSteps_X7_fewestSteps_r1 _ (List.mem_of_getElem? (i := 20) rfl)) (mj_cons (mc_X7_fewestSteps_X7_fewestSteps_r1 _ (List.mem_of_getElem? (i := 6) rfl)) (mj_cons (mc_X7_fewestSteps_X7_fewestSteps_r1 _ (List.mem_of_getElem? (i := 21) rfl)) (mj_cons (mc_X7_fewestSteps_X7_fewestSteps_r1 _ (List.mem_of_getElem? (i := 22) rfl)) (mj_cons (mc_X7_fewestSteps_X7_fewestSteps_r1 _ (List.mem_of_getElem? (i := 23) rfl)) (mj_cons (mc_X7_fewestSteps_X7_fewestSteps_r2 _ (List.mem_of_getElem? (i := 0) rfl)) (mj_cons (mc_X7_fewestSteps_X7_fewestSteps_r2 _ (List.mem_of_getElem? (i := 1) rfl)) (mj_cons (mc_X7_fewestSteps_X7_fewestSteps_r2 _ (List.mem_of_getElem? (i := 2) rfl)) (mj_cons (mc_X7_fewestSteps_X7_fewestSteps_r2 _ (List.mem_of_getElem? (i := 3) rfl)) (mj_cons (mc_X7_fewestSteps_X7_fewestSteps_r2 _ (List.mem_of_getElem? (i := 4) rfl)) (mj_cons (mc_X7_fewestSteps_X7_fewestSteps_r2 _ (List.mem_of_getElem? (i := 5) rfl)) (mj_cons (mc_X7_fewestSteps_X7_fewestSteps_r2 _ (List.mem_of_getElem? (i := 6) rfl)) mj_nil)))))))))))))))))))))))) (mj_app (mj_cons (mc_X7_fewestSteps_X7_fewestSteps_r2 _ (List.mem_of_getElem? (i := 7) rfl)) (mj_cons (mc_X7_fewestSteps_X7_fewestSteps_r2 _ (List.mem_of_getElem? (i := 8) rfl)) (mj_cons (mc_X7_fewestSteps_X7_fewestSteps_r2 _ (List.mem_of_getElem? (i := 9) rfl)) (mj_cons (mc_X7_fewestSteps_X7_fewestSteps_r2 _ (List.mem_of_getElem? (i := 10) rfl)) (mj_cons (mc_X7_fewestSteps_X7_fewestSteps_r2 _ (List.mem_of_getElem? (i := 11) rfl)) (mj_cons (mc_X7_fewestSteps_X7_fewestSteps_r2 _ (List.mem_of_getElem? (i := 12) rfl)) (mj_cons (mc_X7_fewestSteps_X7_fewestSteps_r2 _ (List.mem_of_getElem? (i := 13) rfl)) (mj_cons (mc_X7_fewestSteps_X7_fewestSteps_r2 _ (List.mem_of_getElem? (i := 14) rfl)) (mj_cons (mc_X7_fewestSteps_X7_fewestSteps_r2 _ (List.mem_of_getElem? (i := 15) rfl)) (mj_cons (mc_X7_fewestSteps_X7_fewestSteps_r2 _ (List.mem_of_getElem? (i := 16) rfl)) (mj_cons (mc_X7_fewestSteps_X7_fewestSteps_r2 _ (List.mem_of_getElem? (i := 17) rfl)) (mj_cons (mc_X7_fewestSteps_X7_fewestSteps_r2 _ (List.mem_of_getElem? (i := 18) rfl)) (mj_cons (mc_X7_fewestSteps_X7_fewestSteps_r2 _ (List.mem_of_getElem? (i := 19) rfl)) (mj_cons (mc_X7_fewestSteps_X7_fewestSteps_r2 _ (List.mem_of_getElem? (i := 20) rfl)) (mj_cons (mc_X7_fewestSteps_X7_fewestSteps_r2 _ (List.mem_of_getElem? (i := 21) rfl)) (mj_cons (mc_X7_fewestSteps_X7_fewestSteps_r2 _ (List.mem_of_getElem? (i := 22) rfl)) (mj_cons (mc_X7_fewestSteps_X7_fewestSteps_r2 _ (List.mem_of_getElem? (i := 23) rfl)) (mj_cons (mc_X7_fewestSteps_X7_fewestSteps_r3 _ (List.mem_of_getElem? (i := 0) rfl)) (mj_cons (mc_X7_fewestSteps_X7_fewestSteps_r3 _ (List.mem_of_getElem? (i := 1) rfl)) (mj_cons (mc_X7_fewestSteps_X7_fewestSteps_r3 _ (List.mem_of_getElem? (i := 2) rfl)) (mj_cons (mc_X7_fewestSteps_X7_fewestSteps_r3 _ (List.mem_of_getElem? (i := 3) rfl)) (mj_cons (mc_X7_fewestSteps_X7_fewestSteps_r3 _ (List.mem_of_getElem? (i := 4) rfl)) (mj_cons (mc_X7_fewestSteps_X7_fewestSteps_r3 _ (List.mem_of_getElem? (i := 5) rfl)) (mj_cons (mc_X7_fewestSteps_X7_fewestSteps_r3 _ (List.mem_of_getElem? (i := 6) rfl)) mj_nil)))))))))))))))))))))))) (mj_app (mj_cons (mc_X7_fewestSteps_X7_fewestSteps_r3 _ (List.mem_of_getElem? (i := 7) rfl)) (mj_cons (mc_X7_fewestSteps_X7_fewestSteps_r3 _ (List.mem_of_getElem? (i := 8) rfl)) (mj_cons (mc_X7_fewestSteps_X7_fewestSteps_r3 _ (List.mem_of_getElem? (i := 9) rfl)) (mj_cons (mc_X7_fewestSteps_X7_fewestSteps_r3 _ (List.mem_of_getElem? (i := 10) rfl)) (mj_cons (mc_X7_fewestSteps_X7_fewestSteps_r3 _ (List.mem_of_getElem? (i := 11) rfl)) (mj_cons (mc_X7_fewestSteps_X7_fewestSteps_r3 _ (List.mem_of_getElem? (i := 12) rfl)) (mj_cons (mc_X7_fewestSteps_X7_fewestSteps_r3 _ (List.mem_of_getElem? (i := 13) rfl)) (mj_cons (mc_X7_fewestSteps_X7_fewestSteps_r3 _ (List.mem_of_getElem? (i := 14) rfl)) (mj_cons (mc_X7_fewestSteps_X7_fewestSteps_r3 _ (List.mem_of_getElem? (i := 15) rfl)) (mj_cons (mc_X7_fewestSteps_X7_fewestSteps_r3 _ (List.mem_of_getElem? (i := 16) rfl)) (mj_cons (mc_X7_fewestSteps_X7_fewestSteps_r3 _ (List.mem_of_getElem? (i := 17) rfl)) (mj_cons (mc_X7_fewestSteps_X7_fewestSteps_r3 _ (List.mem_of_getElem? (i := 18) rfl)) (mj_cons (mc_X7_fewestSteps_X7_fewestSteps_r3 _ (List.mem_of_getElem? (i := 19) rfl)) (mj_cons (mc_X7_fewestSteps_X7_fewestSteps_r3 _ (List.mem_of_getElem? (i := 20) rfl)) (mj_cons (mc_X7_fewestSteps_X7_fewestSteps_r3 _ (List.mem_of_getElem? (i := 21) rfl)) (mj_cons (mc_X7_fewestSteps_X7_fewestSteps_r3 _ (List.mem_of_getElem? (i := 22) rfl)) (mj_cons (mc_X7_fewestSteps_X7_fewestSteps_r3 _ (List.mem_of_getElem? (i := 23) rfl)) (mj_cons (mc_X7_fewestSteps_X7_fewestSteps_r4 _ (List.mem_of_getElem? (i := 0) rfl)) (mj_cons (mc_X7_fewestSteps_X7_fewestSteps_r4 _ (List.mem_of_getElem? (i := 1) rfl)) (mj_cons (mc_X7_fewestSteps_X7_fewestSteps_r4 _ (List.mem_of_getElem? (i := 2) rfl)) (mj_cons (mc_X7_fewestSteps_X7_fewestSteps_r4 _ (List.mem_of_getElem? (i := 3) rfl)) (mj_cons (mc_X7_fewestSteps_X7_fewestSteps_r4 _ (List.mem_of_getElem? (i := 4) rfl)) (mj_cons (mc_X7_fewestSteps_X7_fewestSteps_r4 _ (List.mem_of_getElem? (i := 5) rfl)) (mj_cons (mc_X7_fewestSteps_X7_fewestSteps_r4 _ (List.mem_of_getElem? (i := 6) rfl)) mj_nil)))))))))))))))))))))))) (mj_app (mj_cons (mc_X7_fewestSteps_X7_fewestSteps_r4 _ (List.mem_of_getElem? (i := 7) rfl)) (mj_cons (mc_X7_fewestSteps_X7_fewestSteps_r4 _ (List.mem_of_getElem? (i := 8) rfl)) (mj_cons (mc_X7_fewestSteps_X7_fewestSteps_r4 _ (List.mem_of_getElem? (i := 9) rfl)) (mj_cons (mc_X7_fewestSteps_X7_fewestSteps_r4 _ (List.mem_of_getElem? (i := 10) rfl)) (mj_cons (mc_X7_fewestSteps_X7_fewestSteps_r4 _ (List.mem_of_getElem? (i := 11) rfl)) (mj_cons (mc_X7_fewestSteps_X7_fewestSteps_r4 _ (List.mem_of_getElem? (i := 12) rfl)) (mj_cons (mc_X7_fewestSteps_X7_fewestSteps_r4 _ (List.mem_of_getElem? (i := 13) rfl)) (mj_cons (mc_X7_fewestSteps_X7_fewestSteps_r4 _ (List.mem_of_getElem? (i := 14) rfl)) (mj_cons (mc_X7_fewestSteps_X7_fewestSteps_r4 _ (List.mem_of_getElem? (i := 15) rfl)) (mj_cons (mc_X7_fewestSteps_X7_fewestSteps_r4 _ (List.mem_of_getElem? (i := 16) rfl)) (mj_cons (mc_X7_fewestSteps_X7_fewestSteps_r4 _ (List.mem_of_getElem? (i := 17) rfl)) (mj_cons (mc_X7_fewestSteps_X7_fewestSteps_r4 _ (List.mem_of_getElem? (i := 18) rfl)) (mj_cons (mc_X7_fewestSteps_X7_fewestSteps_r4 _ (List.mem_of_getElem? (i := 19) rfl)) (mj_cons (mc_X7_fewestSteps_X7_fewestSteps_r4 _ (List.mem_of_getElem? (i := 20) rfl)) (mj_cons (mc_X7_fewestSteps_X7_fewestSteps_r4 _ (List.mem_of_getElem? (i := 21) rfl)) (mj_cons (mc_X7_fewestSteps_X7_fewestSteps_r4 _ (List.mem_of_getElem? (i := 22) rfl)) (mj_cons (mc_X7_fewestSteps_X7_fewestSteps_r4 _ (List.mem_of_getElem? (i := 23) rfl)) (mj_cons (mc_X7_fewestSteps_X7_fewestSteps_r5 _ (List.mem_of_getElem? (i := 0) rfl)) (mj_cons (mc_X7_fewestSteps_X7_fewestSteps_r5 _ (List.mem_of_getElem? (i := 1) rfl)) (mj_cons (mc_X7_fewestSteps_X7_fewestSteps_r5 _ (List.mem_of_getElem? (i := 2) rfl)) (mj_cons (mc_X7_fewestSteps_X7_fewestSteps_r5 _ (List.mem_of_getElem? (i := 3) rfl)) (mj_cons (mc_X7_fewestSteps_X7_fewestSteps_r5 _ (List.mem_of_getElem? (i := 4) rfl)) (mj_cons (mc_X7_fewestSteps_X7_fewestSteps_r5 _ (List.mem_of_getElem? (i := 5) rfl)) (mj_cons (mc_X7_fewestSteps_X7_fewestSteps_r5 _ (List.mem_of_getElem? (i := 6) rfl)) mj_nil)))))))))))))))))))))))) (mj_app (mj_cons (mc_X7_fewestSteps_X7_fewestSteps_r5 _ (List.mem_of_getElem? (i := 7) rfl)) (mj_cons (mc_X7_fewestSteps_X7_fewestSteps_r5 _ (List.mem_of_getElem? (i := 8) rfl)) (mj_cons (mc_X7_fewestSteps_X7_fewestSteps_r5 _ (List.mem_of_getElem? (i := 9) rfl)) (mj_cons (mc_X7_fewestSteps_X7_fewestSteps_r5 _ (List.mem_of_getElem? (i := 10) rfl)) (mj_cons (mc_X7_fewestSteps_X7_fewestSteps_r5 _ (List.mem_of_getElem? (i := 11) rfl)) (mj_cons (mc_X7_fewestSteps_X7_fewestSteps_r5 _ (List.mem_of_getElem? (i := 12) rfl)) (mj_cons (mc_X7_fewestSteps_X7_fewestSteps_r5 _ (List.mem_of_getElem? (i := 13) rfl)) (mj_cons (mc_X7_fewestSteps_X7_fewestSteps_r5 _ (List.mem_of_getElem? (i := 14) rfl)) (mj_cons (mc_X7_fewestSteps_X7_fewestSteps_r5 _ (List.mem_of_getElem? (i := 15) rfl)) (mj_cons (mc_X7_fewestSteps_X7_fewestSteps_r5 _ (List.mem_of_getElem? (i := 16) rfl)) (mj_cons (mc_X7_fewestSteps_X7_fewestSteps_r5 _ (List.mem_of_getElem? (i := 17) rfl)) (mj_cons (mc_X7_fewestSteps_X7_fewestSteps_r5 _ (List.mem_of_getElem? (i := 18) rfl)) (mj_cons (mc_X7_fewestSteps_X7_fewestSteps_r5 _ (List.mem_of_getElem? (i := 19) rfl)) (mj_cons (mc_X7_fewestSteps_X7_fewestSteps_r5 _ (List.mem_of_getElem? (i := 20) rfl)) (mj_cons (mc_X7_fewestSteps_X7_fewestSteps_r5 _ (List.mem_of_getElem? (i := 21) rfl)) (mj_cons (mc_X7_fewestSteps_X7_fewestSteps_r5 _ (List.mem_of_getElem? (i := 22) rfl)) (mj_cons (mc_X7_fewestSteps_X7_fewestSteps_r5 _ (List.mem_of_getElem? (i := 23) rfl)) (mj_cons (mc_X7_fewestSteps_X7_fewestSteps_r6 _ (List.mem_of_getElem? (i := 0) rfl)) (mj_cons (mc_X7_fewestSteps_X7_fewestSteps_r6 _ (List.mem_of_getElem? (i := 1) rfl)) (mj_cons (mc_X7_fewestSteps_X7_fewestSteps_r1 _ (List.mem_of_getElem? (i := 1) rfl)) (mj_cons (mc_X7_fewestSteps_X7_fewestSteps_r6 _ (List.mem_of_getElem? (i := 2) rfl)) (mj_cons (mc_X7_fewestSteps_X7_fewestSteps_r6 _ (List.mem_of_getElem? (i := 3) rfl)) (mj_cons (mc_X7_fewestSteps_X7_fewestSteps_r6 _ (List.mem_of_getElem? (i := 4) rfl)) (mj_cons (mc_X7_fewestSteps_X7_fewestSteps_r6 _ (List.mem_of_getElem? (i := 5) rfl)) mj_nil)))))))))))))))))))))))) (mj_cons (mc_X7_fewestSteps_X7_fewestSteps_r6 _ (List.mem_of_getElem? (i := 6) rfl)) (mj_cons (mc_X7_fewestSteps_X7_fewestSteps_r6 _ (List.mem_of_getElem? (i := 7) rfl)) (mj_cons (mc_X7_fewestSteps_X7_fewestSteps_r6 _ (List.mem_of_getElem? (i := 8) rfl)) (mj_cons (mc_X7_fewestSteps_X7_fewestSteps_r6 _ (List.mem_of_getElem? (i := 9) rfl)) (mj_cons (mc_X7_fewestSteps_X7_fewestSteps_r6 _ (List.mem_of_getElem? (i := 10) rfl)) mj_nil)))))))))) mc_X7_fewestSteps_X70)) (by decide +kernel)
set_option maxRecDepth 20000 in
theorem gX7_fewestSteps_X7_plan : GoodIn wsX7_fewestSteps (wsV RX7 306 RX7 yX7_plan wsX7_plan) := goodIn_app (mj_good (mj_cons (mc_X7_fewestSteps_X7_fewestSteps_r1 _ (List.mem_of_getElem? (i := 3) rfl)) (mj_cons (mc_X7_fewestSteps_X7_fewestSteps_r1 _ (List.mem_of_getElem? (i := 4) rfl)) (mj_cons (mc_X7_fewestSteps_X7_fewestSteps_r1 _ (List.mem_of_getElem? (i := 5) rfl)) (mj_cons (mc_X7_fewestSteps_X7_fewestSteps_r1 _ (List.mem_of_getElem? (i := 6) rfl)) mj_nil)))) (by decide +kernel)) ggX7_fewestSteps_X7_plan
set_option maxRecDepth 20000 in
theorem ggX7_fewestSteps_X7_refuse : GoodIn wsX7_fewestSteps wsX7_refuse := mj_good (mj_cons (mc_X7_fewestSteps_X7_fewestSteps_r6 _ (List.mem_of_getElem? (i := 1) rfl)) (mj_app (mj_cons (mc_X7_fewestSteps_X7_fewestSteps_r1 _ (List.mem_of_getElem? (i := 1) rfl)) mj_nil) mc_X7_fewestSteps_X70)) (by decide +kernel)
set_option maxRecDepth 20000 in
theorem gX7_fewestSteps_X7_refuse : GoodIn wsX7_fewestSteps (wsV RX7 290 RX7 yX7_refuse wsX7_refuse) := goodIn_app (mj_good (mj_cons (mc_X7_fewestSteps_X7_fewestSteps_r5 _ (List.mem_of_getElem? (i := 22) rfl)) (mj_cons (mc_X7_fewestSteps_X7_fewestSteps_r5 _ (List.mem_of_getElem? (i := 23) rfl)) (mj_cons (mc_X7_fewestSteps_X7_fewestSteps_r6 _ (List.mem_of_getElem? (i := 0) rfl)) (mj_cons (mc_X7_fewestSteps_X7_fewestSteps_r1 _ (List.mem_of_getElem? (i := 6) rfl)) mj_nil)))) (by decide +kernel)) ggX7_fewestSteps_X7_refuse
theorem dX7_fewestSteps_0 : decode cX7_fewestSteps 0 = .ok (.aload_n 0, 1) := by decide +kernel
theorem dX7_fewestSteps_1 : decode cX7_fewestSteps 1 = .ok (.iconst 0, 1) := by decide +kernel
theorem dX7_fewestSteps_2 : decode cX7_fewestSteps 2 = .ok (.putfield 184, 3) := by decide +kernel
theorem dX7_fewestSteps_5 : decode cX7_fewestSteps 5 = .ok (.aload_n 0, 1) := by decide +kernel
theorem dX7_fewestSteps_6 : decode cX7_fewestSteps 6 = .ok (.iconst 0, 1) := by decide +kernel
theorem dX7_fewestSteps_7 : decode cX7_fewestSteps 7 = .ok (.putfield 187, 3) := by decide +kernel
theorem dX7_fewestSteps_10 : decode cX7_fewestSteps 10 = .ok (.aload_n 0, 1) := by decide +kernel
theorem dX7_fewestSteps_11 : decode cX7_fewestSteps 11 = .ok (.getfield 303, 3) := by decide +kernel
theorem dX7_fewestSteps_14 : decode cX7_fewestSteps 14 = .ok (.ifCond .eq 11, 3) := by decide +kernel
theorem dX7_fewestSteps_17 : decode cX7_fewestSteps 17 = .ok (.aload_n 0, 1) := by decide +kernel
theorem dX7_fewestSteps_18 : decode cX7_fewestSteps 18 = .ok (.iconst 1, 1) := by decide +kernel
theorem dX7_fewestSteps_19 : decode cX7_fewestSteps 19 = .ok (.invokevirtual 306, 3) := by decide +kernel
theorem dX7_fewestSteps_22 : decode cX7_fewestSteps 22 = .ok (.goto 8, 3) := by decide +kernel
theorem dX7_fewestSteps_25 : decode cX7_fewestSteps 25 = .ok (.aload_n 0, 1) := by decide +kernel
theorem dX7_fewestSteps_26 : decode cX7_fewestSteps 26 = .ok (.iconst 1, 1) := by decide +kernel
theorem dX7_fewestSteps_27 : decode cX7_fewestSteps 27 = .ok (.invokevirtual 290, 3) := by decide +kernel
theorem dX7_fewestSteps_30 : decode cX7_fewestSteps 30 = .ok (.ireturn, 1) := by decide +kernel
theorem dX7_planned_0 : decode cX7_planned 0 = .ok (.aload_n 0, 1) := by decide +kernel
theorem dX7_planned_1 : decode cX7_planned 1 = .ok (.iconst 0, 1) := by decide +kernel
theorem dX7_planned_2 : decode cX7_planned 2 = .ok (.putfield 184, 3) := by decide +kernel
theorem dX7_planned_5 : decode cX7_planned 5 = .ok (.aload_n 0, 1) := by decide +kernel
theorem dX7_planned_6 : decode cX7_planned 6 = .ok (.getfield 296, 3) := by decide +kernel
theorem dX7_planned_9 : decode cX7_planned 9 = .ok (.ifCond .eq 15, 3) := by decide +kernel
theorem dX7_planned_12 : decode cX7_planned 12 = .ok (.iload_n 1, 1) := by decide +kernel
theorem dX7_planned_13 : decode cX7_planned 13 = .ok (.ifCond .lt 11, 3) := by decide +kernel
theorem dX7_planned_16 : decode cX7_planned 16 = .ok (.iload_n 1, 1) := by decide +kernel
theorem dX7_planned_17 : decode cX7_planned 17 = .ok (.aload_n 0, 1) := by decide +kernel
theorem dX7_planned_18 : decode cX7_planned 18 = .ok (.getfield 300, 3) := by decide +kernel
theorem dX7_planned_21 : decode cX7_planned 21 = .ok (.if_icmp .lt 5, 3) := by decide +kernel
theorem dX7_planned_24 : decode cX7_planned 24 = .ok (.iconst (-1), 1) := by decide +kernel
theorem dX7_planned_25 : decode cX7_planned 25 = .ok (.ireturn, 1) := by decide +kernel
theorem dX7_planned_26 : decode cX7_planned 26 = .ok (.iload_n 2, 1) := by decide +kernel
theorem dX7_planned_27 : decode cX7_planned 27 = .ok (.ifCond .ne 12, 3) := by decide +kernel
theorem dX7_planned_30 : decode cX7_planned 30 = .ok (.aload_n 0, 1) := by decide +kernel
theorem dX7_planned_31 : decode cX7_planned 31 = .ok (.getfield 66, 3) := by decide +kernel
theorem dX7_planned_34 : decode cX7_planned 34 = .ok (.iload_n 1, 1) := by decide +kernel
theorem dX7_planned_35 : decode cX7_planned 35 = .ok (.iaload, 1) := by decide +kernel
theorem dX7_planned_36 : decode cX7_planned 36 = .ok (.goto 32, 3) := by decide +kernel
theorem dX7_planned_39 : decode cX7_planned 39 = .ok (.iload_n 2, 1) := by decide +kernel
theorem dX7_planned_40 : decode cX7_planned 40 = .ok (.iconst 1, 1) := by decide +kernel
theorem dX7_planned_41 : decode cX7_planned 41 = .ok (.if_icmp .ne 12, 3) := by decide +kernel
theorem dX7_planned_44 : decode cX7_planned 44 = .ok (.aload_n 0, 1) := by decide +kernel
theorem dX7_planned_45 : decode cX7_planned 45 = .ok (.getfield 69, 3) := by decide +kernel
theorem dX7_planned_48 : decode cX7_planned 48 = .ok (.iload_n 1, 1) := by decide +kernel
theorem dX7_planned_49 : decode cX7_planned 49 = .ok (.iaload, 1) := by decide +kernel
theorem dX7_planned_50 : decode cX7_planned 50 = .ok (.goto 18, 3) := by decide +kernel
theorem dX7_planned_53 : decode cX7_planned 53 = .ok (.iload_n 2, 1) := by decide +kernel
theorem dX7_planned_54 : decode cX7_planned 54 = .ok (.iconst 2, 1) := by decide +kernel
theorem dX7_planned_55 : decode cX7_planned 55 = .ok (.if_icmp .ne 12, 3) := by decide +kernel
theorem dX7_planned_58 : decode cX7_planned 58 = .ok (.aload_n 0, 1) := by decide +kernel
theorem dX7_planned_59 : decode cX7_planned 59 = .ok (.getfield 72, 3) := by decide +kernel
theorem dX7_planned_62 : decode cX7_planned 62 = .ok (.iload_n 1, 1) := by decide +kernel
theorem dX7_planned_63 : decode cX7_planned 63 = .ok (.iaload, 1) := by decide +kernel
theorem dX7_planned_64 : decode cX7_planned 64 = .ok (.goto 4, 3) := by decide +kernel
theorem dX7_planned_67 : decode cX7_planned 67 = .ok (.iconst (-1), 1) := by decide +kernel
theorem dX7_planned_68 : decode cX7_planned 68 = .ok (.ireturn, 1) := by decide +kernel
set_option maxRecDepth 20000 in
theorem mc_X7_ways_X7_ways_r1 : mjIn wsX7_ways wsX7_ways_r1 := fun w h => (List.mem_cons_of_mem _ (List.mem_append_left _ (List.mem_append_left _ h)))
set_option maxRecDepth 20000 in
theorem mc_X7_ways_X7_ways_r2 : mjIn wsX7_ways wsX7_ways_r2 := fun w h => (List.mem_cons_of_mem _ (List.mem_append_left _ (List.mem_append_right _ (List.mem_append_left _ h))))
set_option maxRecDepth 20000 in
theorem mc_X7_ways_X7_ways_r3 : mjIn wsX7_ways wsX7_ways_r3 := fun w h => (List.mem_cons_of_mem _ (List.mem_append_left _ (List.mem_append_right _ (List.mem_append_right _ (List.mem_append_left _ h)))))
set_option maxRecDepth 20000 in
theorem mc_X7_ways_X7_ways_r4 : mjIn wsX7_ways wsX7_ways_r4 := fun w h => (List.mem_cons_of_mem _ (List.mem_append_left _ (List.mem_append_right _ (List.mem_append_right _ (List.mem_append_right _ (List.mem_append_left _ h))))))
set_option maxRecDepth 20000 in
theorem mc_X7_ways_X7_ways_r5 : mjIn wsX7_ways wsX7_ways_r5 := fun w h => (List.mem_cons_of_mem _ (List.mem_append_left _ (List.mem_append_right _ (List.mem_append_right _ (List.mem_append_right _ (List.mem_append_right _ (List.mem_append_left _ h)))))))
set_option maxRecDepth 20000 in
theorem mc_X7_ways_X70 : mjIn wsX7_ways wsX70 := fun w h => (List.mem_cons_of_mem _ (List.mem_append_right _ h))
set_option maxRecDepth 20000 in
theorem ggX7_ways_X7_looksAtAll : GoodIn wsX7_ways wsX7_looksAtAll := mj_good (mj_cons (mc_X7_ways_X7_ways_r1 _ (List.mem_of_getElem? (i := 12) rfl)) (mj_app (mj_app (mj_cons (mc_X7_ways_X7_ways_r1 _ (List.mem_of_getElem? (i := 13) rfl)) (mj_cons (mc_X7_ways_X7_ways_r1 _ (List.mem_of_getElem? (i := 3) rfl)) (mj_cons (mc_X7_ways_X7_ways_r1 _ (List.mem_of_getElem? (i := 14) rfl)) (mj_cons (mc_X7_ways_X7_ways_r1 _ (List.mem_of_getElem? (i := 2) rfl)) (mj_cons (mc_X7_ways_X7_ways_r1 _ (List.mem_of_getElem? (i := 15) rfl)) (mj_cons (mc_X7_ways_X7_ways_r1 _ (List.mem_of_getElem? (i := 5) rfl)) (mj_cons (mc_X7_ways_X7_ways_r1 _ (List.mem_of_getElem? (i := 16) rfl)) (mj_cons (mc_X7_ways_X7_ways_r1 _ (List.mem_of_getElem? (i := 17) rfl)) (mj_cons (mc_X7_ways_X7_ways_r1 _ (List.mem_of_getElem? (i := 18) rfl)) (mj_cons (mc_X7_ways_X7_ways_r1 _ (List.mem_of_getElem? (i := 19) rfl)) (mj_cons (mc_X7_ways_X7_ways_r1 _ (List.mem_of_getElem? (i := 11) rfl)) (mj_cons (mc_X7_ways_X7_ways_r1 _ (List.mem_of_getElem? (i := 20) rfl)) (mj_cons (mc_X7_ways_X7_ways_r1 _ (List.mem_of_getElem? (i := 21) rfl)) (mj_cons (mc_X7_ways_X7_ways_r1 _ (List.mem_of_getElem? (i := 22) rfl)) (mj_cons (mc_X7_ways_X7_ways_r1 _ (List.mem_of_getElem? (i := 23) rfl)) (mj_cons (mc_X7_ways_X7_ways_r2 _ (List.mem_of_getElem? (i := 0) rfl)) (mj_cons (mc_X7_ways_X7_ways_r2 _ (List.mem_of_getElem? (i := 1) rfl)) (mj_cons (mc_X7_ways_X7_ways_r2 _ (List.mem_of_getElem? (i := 2) rfl)) (mj_cons (mc_X7_ways_X7_ways_r2 _ (List.mem_of_getElem? (i := 3) rfl)) (mj_cons (mc_X7_ways_X7_ways_r2 _ (List.mem_of_getElem? (i := 4) rfl)) (mj_cons (mc_X7_ways_X7_ways_r2 _ (List.mem_of_getElem? (i := 5) rfl)) (mj_cons (mc_X7_ways_X7_ways_r2 _ (List.mem_of_getElem? (i := 6) rfl)) (mj_cons (mc_X7_ways_X7_ways_r2 _ (List.mem_of_getElem? (i := 7) rfl)) (mj_cons (mc_X7_ways_X7_ways_r2 _ (List.mem_of_getElem? (i := 8) rfl)) mj_nil)))))))))))))))))))))))) (mj_app (mj_cons (mc_X7_ways_X7_ways_r2 _ (List.mem_of_getElem? (i := 9) rfl)) (mj_cons (mc_X7_ways_X7_ways_r2 _ (List.mem_of_getElem? (i := 10) rfl)) (mj_cons (mc_X7_ways_X7_ways_r2 _ (List.mem_of_getElem? (i := 11) rfl)) (mj_cons (mc_X7_ways_X7_ways_r2 _ (List.mem_of_getElem? (i := 12) rfl)) (mj_cons (mc_X7_ways_X7_ways_r2 _ (List.mem_of_getElem? (i := 13) rfl)) (mj_cons (mc_X7_ways_X7_ways_r2 _ (List.mem_of_getElem? (i := 14) rfl)) (mj_cons (mc_X7_ways_X7_ways_r2 _ (List.mem_of_getElem? (i := 15) rfl)) (mj_cons (mc_X7_ways_X7_ways_r2 _ (List.mem_of_getElem? (i := 16) rfl)) (mj_cons (mc_X7_ways_X7_ways_r2 _ (List.mem_of_getElem? (i := 17) rfl)) (mj_cons (mc_X7_ways_X7_ways_r2 _ (List.mem_of_getElem? (i := 18) rfl)) (mj_cons (mc_X7_ways_X7_ways_r2 _ (List.mem_of_getElem? (i := 19) rfl)) (mj_cons (mc_X7_ways_X7_ways_r2 _ (List.mem_of_getElem? (i := 20) rfl)) (mj_cons (mc_X7_ways_X7_ways_r2 _ (List.mem_of_getElem? (i := 21) rfl)) (mj_cons (mc_X7_ways_X7_ways_r2 _ (List.mem_of_getElem? (i := 22) rfl)) (mj_cons (mc_X7_ways_X7_ways_r2 _ (List.mem_of_getElem? (i := 23) rfl)) (mj_cons (mc_X7_ways_X7_ways_r3 _ (List.mem_of_getElem? (i := 0) rfl)) (mj_cons (mc_X7_ways_X7_ways_r3 _ (List.mem_of_getElem? (i := 1) rfl)) (mj_cons (mc_X7_ways_X7_ways_r3 _ (List.mem_of_getElem? (i := 2) rfl)) (mj_cons (mc_X7_ways_X7_ways_r3 _ (List.mem_of_getElem? (i := 3) rfl)) (mj_cons (mc_X7_ways_X7_ways_r3 _ (List.mem_of_getElem? (i := 4) rfl)) (mj_cons (mc_X7_ways_X7_ways_r3 _ (List.mem_of_getElem? (i := 5) rfl)) (mj_cons (mc_X7_ways_X7_ways_r3 _ (List.mem_of_getElem? (i := 6) rfl)) (mj_cons (mc_X7_ways_X7_ways_r3 _ (List.mem_of_getElem? (i := 7) rfl)) (mj_cons (mc_X7_ways_X7_ways_r3 _ (List.mem_of_getElem? (i := 8) rfl)) mj_nil)))))))))))))))))))))))) (mj_app (mj_cons (mc_X7_ways_X7_ways_r3 _ (List.mem_of_getElem? (i := 9) rfl)) (mj_cons (mc_X7_ways_X7_ways_r3 _ (List.mem_of_getElem? (i := 10) rfl)) (mj_cons (mc_X7_ways_X7_ways_r3 _ (List.mem_of_getElem? (i := 11) rfl)) (mj_cons (mc_X7_ways_X7_ways_r3 _ (List.mem_of_getElem? (i := 12) rfl)) (mj_cons (mc_X7_ways_X7_ways_r3 _ (List.mem_of_getElem? (i := 13) rfl)) (mj_cons (mc_X7_ways_X7_ways_r3 _ (List.mem_of_getElem? (i := 14) rfl)) (mj_cons (mc_X7_ways_X7_ways_r3 _ (List.mem_of_getElem? (i := 15) rfl)) (mj_cons (mc_X7_ways_X7_ways_r3 _ (List.mem_of_getElem? (i := 16) rfl)) (mj_cons (mc_X7_ways_X7_ways_r3 _ (List.mem_of_getElem? (i := 17) rfl)) (mj_cons (mc_X7_ways_X7_ways_r3 _ (List.mem_of_getElem? (i := 18) rfl)) (mj_cons (mc_X7_ways_X7_ways_r3 _ (List.mem_of_getElem? (i := 19) rfl)) (mj_cons (mc_X7_ways_X7_ways_r3 _ (List.mem_of_getElem? (i := 20) rfl)) (mj_cons (mc_X7_ways_X7_ways_r1 _ (List.mem_of_getElem? (i := 6) rfl)) (mj_cons (mc_X7_ways_X7_ways_r1 _ (List.mem_of_getElem? (i := 7) rfl)) (mj_cons (mc_X7_ways_X7_ways_r3 _ (List.mem_of_getElem? (i := 21) rfl)) (mj_cons (mc_X7_ways_X7_ways_r3 _ (List.mem_of_getElem? (i := 22) rfl)) (mj_cons (mc_X7_ways_X7_ways_r3 _ (List.mem_of_getElem? (i := 23) rfl)) (mj_cons (mc_X7_ways_X7_ways_r4 _ (List.mem_of_getElem? (i := 0) rfl)) (mj_cons (mc_X7_ways_X7_ways_r4 _ (List.mem_of_getElem? (i := 1) rfl)) (mj_cons (mc_X7_ways_X7_ways_r4 _ (List.mem_of_getElem? (i := 2) rfl)) (mj_cons (mc_X7_ways_X7_ways_r4 _ (List.mem_of_getElem? (i := 3) rfl)) (mj_cons (mc_X7_ways_X7_ways_r4 _ (List.mem_of_getElem? (i := 4) rfl)) (mj_cons (mc_X7_ways_X7_ways_r4 _ (List.mem_of_getElem? (i := 5) rfl)) (mj_cons (mc_X7_ways_X7_ways_r4 _ (List.mem_of_getElem? (i := 6) rfl)) mj_nil)))))))))))))))))))))))) (mj_app (mj_cons (mc_X7_ways_X7_ways_r4 _ (List.mem_of_getElem? (i := 7) rfl)) (mj_cons (mc_X7_ways_X7_ways_r4 _ (List.mem_of_getElem? (i := 8) rfl)) (mj_cons (mc_X7_ways_X7_ways_r4 _ (List.mem_of_getElem? (i := 9) rfl)) (mj_cons (mc_X7_ways_X7_ways_r4 _ (List.mem_of_getElem? (i := 10) rfl)) (mj_cons (mc_X7_ways_X7_ways_r4 _ (List.mem_of_getElem? (i := 11) rfl)) (mj_cons (mc_X7_ways_X7_ways_r4 _ (List.mem_of_getElem? (i := 12) rfl)) (mj_cons (mc_X7_ways_X7_ways_r4 _ (List.mem_of_getElem? (i := 13) rfl)) (mj_cons (mc_X7_ways_X7_ways_r4 _ (List.mem_of_getElem? (i := 14) rfl)) (mj_cons (mc_X7_ways_X7_ways_r4 _ (List.mem_of_getElem? (i := 15) rfl)) (mj_cons (mc_X7_ways_X7_ways_r4 _ (List.mem_of_getElem? (i := 16) rfl)) (mj_cons (mc_X7_ways_X7_ways_r4 _ (List.mem_of_getElem? (i := 17) rfl)) (mj_cons (mc_X7_ways_X7_ways_r4 _ (List.mem_of_getElem? (i := 18) rfl)) (mj_cons (mc_X7_ways_X7_ways_r4 _ (List.mem_of_getElem? (i := 19) rfl)) (mj_cons (mc_X7_ways_X7_ways_r4 _ (List.mem_of_getElem? (i := 20) rfl)) (mj_cons (mc_X7_ways_X7_ways_r4 _ (List.mem_of_getElem? (i := 21) rfl)) (mj_cons (mc_X7_ways_X7_ways_r4 _ (List.mem_of_getElem? (i := 22) rfl)) (mj_cons (mc_X7_ways_X7_ways_r4 _ (List.mem_of_getElem? (i := 23) rfl)) (mj_cons (mc_X7_ways_X7_ways_r5 _ (List.mem_of_getElem? (i := 0) rfl)) (mj_cons (mc_X7_ways_X7_ways_r5 _ (List.mem_of_getElem? (i := 1) rfl)) (mj_cons (mc_X7_ways_X7_ways_r5 _ (List.mem_of_getElem? (i := 2) rfl)) (mj_cons (mc_X7_ways_X7_ways_r5 _ (List.mem_of_getElem? (i := 3) rfl)) (mj_cons (mc_X7_ways_X7_ways_r5 _ (List.mem_of_getElem? (i := 4) rfl)) (mj_cons (mc_X7_ways_X7_ways_r5 _ (List.mem_of_getElem? (i := 5) rfl)) (mj_cons (mc_X7_ways_X7_ways_r5 _ (List.mem_of_getElem? (i := 6) rfl)) mj_nil)))))))))))))))))))))))) (mj_cons (mc_X7_ways_X7_ways_r5 _ (List.mem_of_getElem? (i := 7) rfl)) (mj_cons (mc_X7_ways_X7_ways_r5 _ (List.mem_of_getElem? (i := 8) rfl)) (mj_cons (mc_X7_ways_X7_ways_r5 _ (List.mem_of_getElem? (i := 9) rfl)) (mj_cons (mc_X7_ways_X7_ways_r5 _ (List.mem_of_getElem? (i := 10) rfl)) (mj_cons (mc_X7_ways_X7_ways_r5 _ (List.mem_of_getElem? (i := 11) rfl)) (mj_cons (mc_X7_ways_X7_ways_r5 _ (List.mem_of_getElem? (i := 12) rfl)) mj_nil)))))))))) mc_X7_ways_X70)) (by decide +kernel)
set_option maxRecDepth 20000 in
theorem gX7_ways_X7_looksAtAll : GoodIn wsX7_ways (wsV RX7 286 RX7 yX7_looksAtAll wsX7_looksAtAll) := goodIn_app (mj_good (mj_cons (mc_X7_ways_X7_ways_r1 _ (List.mem_of_getElem? (i := 8) rfl)) (mj_cons (mc_X7_ways_X7_ways_r1 _ (List.mem_of_getElem? (i := 9) rfl)) (mj_cons (mc_X7_ways_X7_ways_r1 _ (List.mem_of_getElem? (i := 10) rfl)) (mj_cons (mc_X7_ways_X7_ways_r1 _ (List.mem_of_getElem? (i := 11) rfl)) mj_nil)))) (by decide +kernel)) ggX7_ways_X7_looksAtAll
set_option maxRecDepth 20000 in
theorem ggX7_ways_X7_firstFreed : GoodIn wsX7_ways wsX7_firstFreed := mj_good (mj_cons (mc_X7_ways_X7_ways_r5 _ (List.mem_of_getElem? (i := 16) rfl)) (mj_app (mj_cons (mc_X7_ways_X7_ways_r1 _ (List.mem_of_getElem? (i := 3) rfl)) (mj_cons (mc_X7_ways_X7_ways_r5 _ (List.mem_of_getElem? (i := 17) rfl)) (mj_cons (mc_X7_ways_X7_ways_r5 _ (List.mem_of_getElem? (i := 18) rfl)) (mj_cons (mc_X7_ways_X7_ways_r5 _ (List.mem_of_getElem? (i := 19) rfl)) (mj_cons (mc_X7_ways_X7_ways_r1 _ (List.mem_of_getElem? (i := 11) rfl)) (mj_cons (mc_X7_ways_X7_ways_r5 _ (List.mem_of_getElem? (i := 20) rfl)) (mj_cons (mc_X7_ways_X7_ways_r1 _ (List.mem_of_getElem? (i := 16) rfl)) (mj_cons (mc_X7_ways_X7_ways_r2 _ (List.mem_of_getElem? (i := 12) rfl)) (mj_cons (mc_X7_ways_X7_ways_r3 _ (List.mem_of_getElem? (i := 4) rfl)) (mj_cons (mc_X7_ways_X7_ways_r5 _ (List.mem_of_getElem? (i := 21) rfl)) mj_nil)))))))))) mc_X7_ways_X70)) (by decide +kernel)
set_option maxRecDepth 20000 in
theorem gX7_ways_X7_firstFreed : GoodIn wsX7_ways (wsV RX7 293 RX7 yX7_firstFreed wsX7_firstFreed) := goodIn_app (mj_good (mj_cons (mc_X7_ways_X7_ways_r5 _ (List.mem_of_getElem? (i := 13) rfl)) (mj_cons (mc_X7_ways_X7_ways_r5 _ (List.mem_of_getElem? (i := 14) rfl)) (mj_cons (mc_X7_ways_X7_ways_r5 _ (List.mem_of_getElem? (i := 15) rfl)) (mj_cons (mc_X7_ways_X7_ways_r1 _ (List.mem_of_getElem? (i := 11) rfl)) mj_nil)))) (by decide +kernel)) ggX7_ways_X7_firstFreed
set_option maxRecDepth 20000 in
theorem ggX7_ways_X7_isFreedStand : GoodIn wsX7_ways wsX7_isFreedStand := mj_good (mj_cons (mc_X7_ways_X7_ways_r5 _ (List.mem_of_getElem? (i := 20) rfl)) (mj_app (mj_cons (mc_X7_ways_X7_ways_r1 _ (List.mem_of_getElem? (i := 16) rfl)) (mj_cons (mc_X7_ways_X7_ways_r2 _ (List.mem_of_getElem? (i := 12) rfl)) (mj_cons (mc_X7_ways_X7_ways_r3 _ (List.mem_of_getElem? (i := 4) rfl)) (mj_cons (mc_X7_ways_X7_ways_r5 _ (List.mem_of_getElem? (i := 21) rfl)) mj_nil)))) mc_X7_ways_X70)) (by decide +kernel)
set_option maxRecDepth 20000 in
theorem gX7_ways_X7_isFreedStand : GoodIn wsX7_ways (wsV RX7 283 RX7 yX7_isFreedStand wsX7_isFreedStand) := goodIn_app (mj_good (mj_cons (mc_X7_ways_X7_ways_r5 _ (List.mem_of_getElem? (i := 17) rfl)) (mj_cons (mc_X7_ways_X7_ways_r5 _ (List.mem_of_getElem? (i := 18) rfl)) (mj_cons (mc_X7_ways_X7_ways_r5 _ (List.mem_of_getElem? (i := 19) rfl)) (mj_cons (mc_X7_ways_X7_ways_r1 _ (List.mem_of_getElem? (i := 11) rfl)) mj_nil)))) (by decide +kernel)) ggX7_ways_X7_isFreedStand
set_option maxRecDepth 20000 in
theorem mc_X7_ways_X7_ways_r6 : mjIn wsX7_ways wsX7_ways_r6 := fun w h => (List.mem_cons_of_mem _ (List.mem_append_left _ (List.mem_append_right _ (List.mem_append_right _ (List.mem_append_right _ (List.mem_append_right _ (List.mem_append_right _ h)))))))
set_option maxRecDepth 20000 in
theorem ggX7_ways_X7_plus : GoodIn wsX7_ways wsX7_plus := mj_good (mj_cons (mc_X7_ways_X7_ways_r6 _ (List.mem_of_getElem? (i := 0) rfl)) (mj_cons (mc_X7_ways_X7_ways_r6 _ (List.mem_of_getElem? (i := 1) rfl)) mj_nil)) (by decide +kernel)
set_option maxRecDepth 20000 in
theorem gX7_ways_X7_plus : GoodIn wsX7_ways (va_wsS RX7 314 yX7_plus wsX7_plus) := goodIn_app (mj_good (mj_cons (mc_X7_ways_X7_ways_r5 _ (List.mem_of_getElem? (i := 22) rfl)) (mj_cons (mc_X7_ways_X7_ways_r5 _ (List.mem_of_getElem? (i := 23) rfl)) (mj_cons (mc_X7_ways_X7_ways_r1 _ (List.mem_of_getElem? (i := 11) rfl)) mj_nil))) (by decide +kernel)) ggX7_ways_X7_plus
theorem dX7_ways_0 : decode cX7_ways 0 = .ok (.aload_n 0, 1) := by decide +kernel
theorem dX7_ways_1 : decode cX7_ways 1 = .ok (.iconst 0, 1) := by decide +kernel
theorem dX7_ways_2 : decode cX7_ways 2 = .ok (.invokevirtual 286, 3) := by decide +kernel
theorem dX7_ways_5 : decode cX7_ways 5 = .ok (.ifCond .ne 7, 3) := by decide +kernel
theorem dX7_ways_8 : decode cX7_ways 8 = .ok (.ldc2_w 310, 3) := by decide +kernel
theorem dX7_ways_11 : decode cX7_ways 11 = .ok (.lreturn, 1) := by decide +kernel
theorem dX7_ways_12 : decode cX7_ways 12 = .ok (.aload_n 0, 1) := by decide +kernel
theorem dX7_ways_13 : decode cX7_ways 13 = .ok (.invokevirtual 293, 3) := by decide +kernel
theorem dX7_ways_16 : decode cX7_ways 16 = .ok (.istore_n 2, 1) := by decide +kernel
theorem dX7_ways_17 : decode cX7_ways 17 = .ok (.iload_n 2, 1) := by decide +kernel
theorem dX7_ways_18 : decode cX7_ways 18 = .ok (.ifCond .ge 7, 3) := by decide +kernel
theorem dX7_ways_21 : decode cX7_ways 21 = .ok (.ldc2_w 312, 3) := by decide +kernel
theorem dX7_ways_24 : decode cX7_ways 24 = .ok (.lreturn, 1) := by decide +kernel
theorem dX7_ways_25 : decode cX7_ways 25 = .ok (.aload_n 0, 1) := by decide +kernel
theorem dX7_ways_26 : decode cX7_ways 26 = .ok (.getfield 86, 3) := by decide +kernel
theorem dX7_ways_29 : decode cX7_ways 29 = .ok (.iload_n 2, 1) := by decide +kernel
theorem dX7_ways_30 : decode cX7_ways 30 = .ok (.iaload, 1) := by decide +kernel
theorem dX7_ways_31 : decode cX7_ways 31 = .ok (.istore_n 3, 1) := by decide +kernel
theorem dX7_ways_32 : decode cX7_ways 32 = .ok (.iconst 0, 1) := by decide +kernel
theorem dX7_ways_33 : decode cX7_ways 33 = .ok (.istore 4, 2) := by decide +kernel
theorem dX7_ways_35 : decode cX7_ways 35 = .ok (.iload 4, 2) := by decide +kernel
theorem dX7_ways_37 : decode cX7_ways 37 = .ok (.aload_n 0, 1) := by decide +kernel
theorem dX7_ways_38 : decode cX7_ways 38 = .ok (.getfield 256, 3) := by decide +kernel
theorem dX7_ways_41 : decode cX7_ways 41 = .ok (.if_icmp .ge 17, 3) := by decide +kernel
theorem dX7_ways_44 : decode cX7_ways 44 = .ok (.aload_n 0, 1) := by decide +kernel
theorem dX7_ways_45 : decode cX7_ways 45 = .ok (.getfield 114, 3) := by decide +kernel
theorem dX7_ways_48 : decode cX7_ways 48 = .ok (.iload 4, 2) := by decide +kernel
theorem dX7_ways_50 : decode cX7_ways 50 = .ok (.lconst 0, 1) := by decide +kernel
theorem dX7_ways_51 : decode cX7_ways 51 = .ok (.lastore, 1) := by decide +kernel
theorem dX7_ways_52 : decode cX7_ways 52 = .ok (.iinc 4 1, 3) := by decide +kernel
theorem dX7_ways_55 : decode cX7_ways 55 = .ok (.goto (-20), 3) := by decide +kernel
theorem dX7_ways_58 : decode cX7_ways 58 = .ok (.aload_n 0, 1) := by decide +kernel
theorem dX7_ways_59 : decode cX7_ways 59 = .ok (.getfield 114, 3) := by decide +kernel
theorem dX7_ways_62 : decode cX7_ways 62 = .ok (.iconst 0, 1) := by decide +kernel
theorem dX7_ways_63 : decode cX7_ways 63 = .ok (.lconst 1, 1) := by decide +kernel
theorem dX7_ways_64 : decode cX7_ways 64 = .ok (.lastore, 1) := by decide +kernel
theorem dX7_ways_65 : decode cX7_ways 65 = .ok (.lconst 0, 1) := by decide +kernel
theorem dX7_ways_66 : decode cX7_ways 66 = .ok (.lstore 4, 2) := by decide +kernel
theorem dX7_ways_68 : decode cX7_ways 68 = .ok (.iconst 0, 1) := by decide +kernel
theorem dX7_ways_69 : decode cX7_ways 69 = .ok (.istore 6, 2) := by decide +kernel
theorem dX7_ways_71 : decode cX7_ways 71 = .ok (.iload 6, 2) := by decide +kernel
theorem dX7_ways_73 : decode cX7_ways 73 = .ok (.aload_n 0, 1) := by decide +kernel
theorem dX7_ways_74 : decode cX7_ways 74 = .ok (.getfield 256, 3) := by decide +kernel
theorem dX7_ways_77 : decode cX7_ways 77 = .ok (.if_icmp .ge 146, 3) := by decide +kernel
theorem dX7_ways_80 : decode cX7_ways 80 = .ok (.aload_n 0, 1) := by decide +kernel
theorem dX7_ways_81 : decode cX7_ways 81 = .ok (.getfield 86, 3) := by decide +kernel
theorem dX7_ways_84 : decode cX7_ways 84 = .ok (.iload 6, 2) := by decide +kernel
theorem dX7_ways_86 : decode cX7_ways 86 = .ok (.iaload, 1) := by decide +kernel
theorem dX7_ways_87 : decode cX7_ways 87 = .ok (.iload_n 3, 1) := by decide +kernel
theorem dX7_ways_88 : decode cX7_ways 88 = .ok (.if_icmp .ne 26, 3) := by decide +kernel
theorem dX7_ways_91 : decode cX7_ways 91 = .ok (.aload_n 0, 1) := by decide +kernel
theorem dX7_ways_92 : decode cX7_ways 92 = .ok (.iload 6, 2) := by decide +kernel
theorem dX7_ways_94 : decode cX7_ways 94 = .ok (.invokevirtual 283, 3) := by decide +kernel
theorem dX7_ways_97 : decode cX7_ways 97 = .ok (.ifCond .eq 17, 3) := by decide +kernel
theorem dX7_ways_100 : decode cX7_ways 100 = .ok (.lload 4, 2) := by decide +kernel
theorem dX7_ways_102 : decode cX7_ways 102 = .ok (.aload_n 0, 1) := by decide +kernel
theorem dX7_ways_103 : decode cX7_ways 103 = .ok (.getfield 114, 3) := by decide +kernel
theorem dX7_ways_106 : decode cX7_ways 106 = .ok (.iload 6, 2) := by decide +kernel
theorem dX7_ways_108 : decode cX7_ways 108 = .ok (.laload, 1) := by decide +kernel
theorem dX7_ways_109 : decode cX7_ways 109 = .ok (.invokestatic 314, 3) := by decide +kernel
theorem dX7_ways_112 : decode cX7_ways 112 = .ok (.lstore 4, 2) := by decide +kernel
theorem dX7_ways_114 : decode cX7_ways 114 = .ok (.aload_n 0, 1) := by decide +kernel
theorem dX7_ways_115 : decode cX7_ways 115 = .ok (.getfield 104, 3) := by decide +kernel
theorem dX7_ways_118 : decode cX7_ways 118 = .ok (.iload 6, 2) := by decide +kernel
theorem dX7_ways_120 : decode cX7_ways 120 = .ok (.iaload, 1) := by decide +kernel
theorem dX7_ways_121 : decode cX7_ways 121 = .ok (.istore 7, 2) := by decide +kernel
theorem dX7_ways_123 : decode cX7_ways 123 = .ok (.iload 7, 2) := by decide +kernel
theorem dX7_ways_125 : decode cX7_ways 125 = .ok (.aload_n 0, 1) := by decide +kernel
theorem dX7_ways_126 : decode cX7_ways 126 = .ok (.getfield 104, 3) := by decide +kernel
theorem dX7_ways_129 : decode cX7_ways 129 = .ok (.iload 6, 2) := by decide +kernel
theorem dX7_ways_131 : decode cX7_ways 131 = .ok (.iconst 1, 1) := by decide +kernel
theorem dX7_ways_132 : decode cX7_ways 132 = .ok (.iadd, 1) := by decide +kernel
theorem dX7_ways_133 : decode cX7_ways 133 = .ok (.iaload, 1) := by decide +kernel
theorem dX7_ways_134 : decode cX7_ways 134 = .ok (.if_icmp .ge 83, 3) := by decide +kernel
theorem dX7_ways_137 : decode cX7_ways 137 = .ok (.aload_n 0, 1) := by decide +kernel
theorem dX7_ways_138 : decode cX7_ways 138 = .ok (.getfield 86, 3) := by decide +kernel
theorem dX7_ways_141 : decode cX7_ways 141 = .ok (.iload 6, 2) := by decide +kernel
theorem dX7_ways_143 : decode cX7_ways 143 = .ok (.iaload, 1) := by decide +kernel
theorem dX7_ways_144 : decode cX7_ways 144 = .ok (.iload_n 3, 1) := by decide +kernel
theorem dX7_ways_145 : decode cX7_ways 145 = .ok (.if_icmp .ge 72, 3) := by decide +kernel
theorem dX7_ways_148 : decode cX7_ways 148 = .ok (.aload_n 0, 1) := by decide +kernel
theorem dX7_ways_149 : decode cX7_ways 149 = .ok (.getfield 108, 3) := by decide +kernel
theorem dX7_ways_152 : decode cX7_ways 152 = .ok (.iload 7, 2) := by decide +kernel
theorem dX7_ways_154 : decode cX7_ways 154 = .ok (.iaload, 1) := by decide +kernel
theorem dX7_ways_155 : decode cX7_ways 155 = .ok (.istore 8, 2) := by decide +kernel
theorem dX7_ways_157 : decode cX7_ways 157 = .ok (.aload_n 0, 1) := by decide +kernel
theorem dX7_ways_158 : decode cX7_ways 158 = .ok (.getfield 86, 3) := by decide +kernel
theorem dX7_ways_161 : decode cX7_ways 161 = .ok (.iload 8, 2) := by decide +kernel
theorem dX7_ways_163 : decode cX7_ways 163 = .ok (.iaload, 1) := by decide +kernel
theorem dX7_ways_164 : decode cX7_ways 164 = .ok (.aload_n 0, 1) := by decide +kernel
theorem dX7_ways_165 : decode cX7_ways 165 = .ok (.getfield 86, 3) := by decide +kernel
theorem dX7_ways_168 : decode cX7_ways 168 = .ok (.iload 6, 2) := by decide +kernel
theorem dX7_ways_170 : decode cX7_ways 170 = .ok (.iaload, 1) := by decide +kernel
theorem dX7_ways_171 : decode cX7_ways 171 = .ok (.iconst 1, 1) := by decide +kernel
theorem dX7_ways_172 : decode cX7_ways 172 = .ok (.iadd, 1) := by decide +kernel
theorem dX7_ways_173 : decode cX7_ways 173 = .ok (.if_icmp .ne 38, 3) := by decide +kernel
theorem dX7_ways_176 : decode cX7_ways 176 = .ok (.aload_n 0, 1) := by decide +kernel
theorem dX7_ways_177 : decode cX7_ways 177 = .ok (.getfield 111, 3) := by decide +kernel
theorem dX7_ways_180 : decode cX7_ways 180 = .ok (.iload 7, 2) := by decide +kernel
theorem dX7_ways_182 : decode cX7_ways 182 = .ok (.baload, 1) := by decide +kernel
theorem dX7_ways_183 : decode cX7_ways 183 = .ok (.iload_n 1, 1) := by decide +kernel
theorem dX7_ways_184 : decode cX7_ways 184 = .ok (.if_icmp .eq 27, 3) := by decide +kernel
theorem dX7_ways_187 : decode cX7_ways 187 = .ok (.aload_n 0, 1) := by decide +kernel
theorem dX7_ways_188 : decode cX7_ways 188 = .ok (.getfield 114, 3) := by decide +kernel
theorem dX7_ways_191 : decode cX7_ways 191 = .ok (.iload 8, 2) := by decide +kernel
theorem dX7_ways_193 : decode cX7_ways 193 = .ok (.aload_n 0, 1) := by decide +kernel
theorem dX7_ways_194 : decode cX7_ways 194 = .ok (.getfield 114, 3) := by decide +kernel
theorem dX7_ways_197 : decode cX7_ways 197 = .ok (.iload 8, 2) := by decide +kernel
theorem dX7_ways_199 : decode cX7_ways 199 = .ok (.laload, 1) := by decide +kernel
theorem dX7_ways_200 : decode cX7_ways 200 = .ok (.aload_n 0, 1) := by decide +kernel
theorem dX7_ways_201 : decode cX7_ways 201 = .ok (.getfield 114, 3) := by decide +kernel
theorem dX7_ways_204 : decode cX7_ways 204 = .ok (.iload 6, 2) := by decide +kernel
theorem dX7_ways_206 : decode cX7_ways 206 = .ok (.laload, 1) := by decide +kernel
theorem dX7_ways_207 : decode cX7_ways 207 = .ok (.invokestatic 314, 3) := by decide +kernel
theorem dX7_ways_210 : decode cX7_ways 210 = .ok (.lastore, 1) := by decide +kernel
theorem dX7_ways_211 : decode cX7_ways 211 = .ok (.iinc 7 1, 3) := by decide +kernel
theorem dX7_ways_214 : decode cX7_ways 214 = .ok (.goto (-91), 3) := by decide +kernel
theorem dX7_ways_217 : decode cX7_ways 217 = .ok (.iinc 6 1, 3) := by decide +kernel
theorem dX7_ways_220 : decode cX7_ways 220 = .ok (.goto (-149), 3) := by decide +kernel
theorem dX7_ways_223 : decode cX7_ways 223 = .ok (.lload 4, 2) := by decide +kernel
theorem dX7_ways_225 : decode cX7_ways 225 = .ok (.lreturn, 1) := by decide +kernel
theorem dX7_plus_0 : decode cX7_plus 0 = .ok (.lload_n 0, 1) := by decide +kernel
theorem dX7_plus_1 : decode cX7_plus 1 = .ok (.lload_n 2, 1) := by decide +kernel
theorem dX7_plus_2 : decode cX7_plus 2 = .ok (.ladd, 1) := by decide +kernel
theorem dX7_plus_3 : decode cX7_plus 3 = .ok (.ldc2_w 318, 3) := by decide +kernel
theorem dX7_plus_6 : decode cX7_plus 6 = .ok (.lcmp, 1) := by decide +kernel
theorem dX7_plus_7 : decode cX7_plus 7 = .ok (.ifCond .ge 11, 3) := by decide +kernel
theorem dX7_plus_10 : decode cX7_plus 10 = .ok (.lload_n 0, 1) := by decide +kernel
theorem dX7_plus_11 : decode cX7_plus 11 = .ok (.lload_n 2, 1) := by decide +kernel
theorem dX7_plus_12 : decode cX7_plus 12 = .ok (.ladd, 1) := by decide +kernel
theorem dX7_plus_13 : decode cX7_plus 13 = .ok (.lconst 0, 1) := by decide +kernel
theorem dX7_plus_14 : decode cX7_plus 14 = .ok (.lcmp, 1) := by decide +kernel
theorem dX7_plus_15 : decode cX7_plus 15 = .ok (.ifCond .ge 9, 3) := by decide +kernel
theorem dX7_plus_18 : decode cX7_plus 18 = .ok (.ldc2_w 318, 3) := by decide +kernel
theorem dX7_plus_21 : decode cX7_plus 21 = .ok (.goto 6, 3) := by decide +kernel
theorem dX7_plus_24 : decode cX7_plus 24 = .ok (.lload_n 0, 1) := by decide +kernel
theorem dX7_plus_25 : decode cX7_plus 25 = .ok (.lload_n 2, 1) := by decide +kernel
theorem dX7_plus_26 : decode cX7_plus 26 = .ok (.ladd, 1) := by decide +kernel
theorem dX7_plus_27 : decode cX7_plus 27 = .ok (.lreturn, 1) := by decide +kernel
set_option maxRecDepth 20000 in
theorem mc_X7_all_X7_all_r1 : mjIn wsX7_all wsX7_all_r1 := fun w h => (List.mem_cons_of_mem _ (List.mem_append_left _ (List.mem_append_left _ h)))
set_option maxRecDepth 20000 in
theorem mc_X7_all_X70 : mjIn wsX7_all wsX70 := fun w h => (List.mem_cons_of_mem _ (List.mem_append_right _ h))
set_option maxRecDepth 20000 in
theorem ggX7_all_X7_refuse : GoodIn wsX7_all wsX7_refuse := mj_good (mj_cons (mc_X7_all_X7_all_r1 _ (List.mem_of_getElem? (i := 8) rfl)) (mj_app (mj_cons (mc_X7_all_X7_all_r1 _ (List.mem_of_getElem? (i := 1) rfl)) mj_nil) mc_X7_all_X70)) (by decide +kernel)
set_option maxRecDepth 20000 in
theorem gX7_all_X7_refuse : GoodIn wsX7_all (wsV RX7 290 RX7 yX7_refuse wsX7_refuse) := goodIn_app (mj_good (mj_cons (mc_X7_all_X7_all_r1 _ (List.mem_of_getElem? (i := 4) rfl)) (mj_cons (mc_X7_all_X7_all_r1 _ (List.mem_of_getElem? (i := 5) rfl)) (mj_cons (mc_X7_all_X7_all_r1 _ (List.mem_of_getElem? (i := 6) rfl)) (mj_cons (mc_X7_all_X7_all_r1 _ (List.mem_of_getElem? (i := 7) rfl)) mj_nil)))) (by decide +kernel)) ggX7_all_X7_refuse
set_option maxRecDepth 20000 in
theorem mc_X7_all_X7_all_r2 : mjIn wsX7_all wsX7_all_r2 := fun w h => (List.mem_cons_of_mem _ (List.mem_append_left _ (List.mem_append_right _ (List.mem_append_left _ h))))
set_option maxRecDepth 20000 in
theorem mc_X7_all_X7_all_r3 : mjIn wsX7_all wsX7_all_r3 := fun w h => (List.mem_cons_of_mem _ (List.mem_append_left _ (List.mem_append_right _ (List.mem_append_right _ (List.mem_append_left _ h)))))
set_option maxRecDepth 20000 in
theorem mc_X7_all_X7_all_r4 : mjIn wsX7_all wsX7_all_r4 := fun w h => (List.mem_cons_of_mem _ (List.mem_append_left _ (List.mem_append_right _ (List.mem_append_right _ (List.mem_append_right _ (List.mem_append_left _ h))))))
set_option maxRecDepth 20000 in
theorem mc_X7_all_X7_all_r5 : mjIn wsX7_all wsX7_all_r5 := fun w h => (List.mem_cons_of_mem _ (List.mem_append_left _ (List.mem_append_right _ (List.mem_append_right _ (List.mem_append_right _ (List.mem_append_right _ (List.mem_append_left _ h)))))))
set_option maxRecDepth 20000 in
theorem mc_X7_all_X7_all_r6 : mjIn wsX7_all wsX7_all_r6 := fun w h => (List.mem_cons_of_mem _ (List.mem_append_left _ (List.mem_append_right _ (List.mem_append_right _ (List.mem_append_right _ (List.mem_append_right _ (List.mem_append_right _ h)))))))
set_option maxRecDepth 20000 in
theorem ggX7_all_X7_ways : GoodIn wsX7_all wsX7_ways := mj_good (mj_cons (mc_X7_all_X7_all_r1 _ (List.mem_of_getElem? (i := 12) rfl)) (mj_app (mj_app (mj_cons (mc_X7_all_X7_all_r1 _ (List.mem_of_getElem? (i := 13) rfl)) (mj_cons (mc_X7_all_X7_all_r1 _ (List.mem_of_getElem? (i := 14) rfl)) (mj_cons (mc_X7_all_X7_all_r1 _ (List.mem_of_getElem? (i := 15) rfl)) (mj_cons (mc_X7_all_X7_all_r1 _ (List.mem_of_getElem? (i := 16) rfl)) (mj_cons (mc_X7_all_X7_all_r1 _ (List.mem_of_getElem? (i := 17) rfl)) (mj_cons (mc_X7_all_X7_all_r1 _ (List.mem_of_getElem? (i := 18) rfl)) (mj_cons (mc_X7_all_X7_all_r1 _ (List.mem_of_getElem? (i := 19) rfl)) (mj_cons (mc_X7_all_X7_all_r1 _ (List.mem_of_getElem? (i := 20) rfl)) (mj_cons (mc_X7_all_X7_all_r1 _ (List.mem_of_getElem? (i := 21) rfl)) (mj_cons (mc_X7_all_X7_all_r1 _ (List.mem_of_getElem? (i := 22) rfl)) (mj_cons (mc_X7_all_X7_all_r1 _ (List.mem_of_getElem? (i := 23) rfl)) (mj_cons (mc_X7_all_X7_all_r1 _ (List.mem_of_getElem? (i := 7) rfl)) (mj_cons (mc_X7_all_X7_all_r2 _ (List.mem_of_getElem? (i := 0) rfl)) (mj_cons (mc_X7_all_X7_all_r2 _ (List.mem_of_getElem? (i := 1) rfl)) (mj_cons (mc_X7_all_X7_all_r2 _ (List.mem_of_getElem? (i := 2) rfl)) (mj_cons (mc_X7_all_X7_all_r2 _ (List.mem_of_getElem? (i := 3) rfl)) (mj_cons (mc_X7_all_X7_all_r2 _ (List.mem_of_getElem? (i := 4) rfl)) (mj_cons (mc_X7_all_X7_all_r2 _ (List.mem_of_getElem? (i := 5) rfl)) (mj_cons (mc_X7_all_X7_all_r2 _ (List.mem_of_getElem? (i := 6) rfl)) (mj_cons (mc_X7_all_X7_all_r2 _ (List.mem_of_getElem? (i := 7) rfl)) (mj_cons (mc_X7_all_X7_all_r2 _ (List.mem_of_getElem? (i := 8) rfl)) (mj_cons (mc_X7_all_X7_all_r2 _ (List.mem_of_getElem? (i := 9) rfl)) (mj_cons (mc_X7_all_X7_all_r2 _ (List.mem_of_getElem? (i := 10) rfl)) (mj_cons (mc_X7_all_X7_all_r2 _ (List.mem_of_getElem? (i := 11) rfl)) mj_nil)))))))))))))))))))))))) (mj_app (mj_cons (mc_X7_all_X7_all_r2 _ (List.mem_of_getElem? (i := 12) rfl)) (mj_cons (mc_X7_all_X7_all_r2 _ (List.mem_of_getElem? (i := 13) rfl)) (mj_cons (mc_X7_all_X7_all_r2 _ (List.mem_of_getElem? (i := 14) rfl)) (mj_cons (mc_X7_all_X7_all_r2 _ (List.mem_of_getElem? (i := 15) rfl)) (mj_cons (mc_X7_all_X7_all_r2 _ (List.mem_of_getElem? (i := 16) rfl)) (mj_cons (mc_X7_all_X7_all_r2 _ (List.mem_of_getElem? (i := 17) rfl)) (mj_cons (mc_X7_all_X7_all_r2 _ (List.mem_of_getElem? (i := 18) rfl)) (mj_cons (mc_X7_all_X7_all_r2 _ (List.mem_of_getElem? (i := 19) rfl)) (mj_cons (mc_X7_all_X7_all_r2 _ (List.mem_of_getElem? (i := 20) rfl)) (mj_cons (mc_X7_all_X7_all_r2 _ (List.mem_of_getElem? (i := 21) rfl)) (mj_cons (mc_X7_all_X7_all_r2 _ (List.mem_of_getElem? (i := 22) rfl)) (mj_cons (mc_X7_all_X7_all_r2 _ (List.mem_of_getElem? (i := 23) rfl)) (mj_cons (mc_X7_all_X7_all_r3 _ (List.mem_of_getElem? (i := 0) rfl)) (mj_cons (mc_X7_all_X7_all_r3 _ (List.mem_of_getElem? (i := 1) rfl)) (mj_cons (mc_X7_all_X7_all_r3 _ (List.mem_of_getElem? (i := 2) rfl)) (mj_cons (mc_X7_all_X7_all_r3 _ (List.mem_of_getElem? (i := 3) rfl)) (mj_cons (mc_X7_all_X7_all_r3 _ (List.mem_of_getElem? (i := 4) rfl)) (mj_cons (mc_X7_all_X7_all_r3 _ (List.mem_of_getElem? (i := 5) rfl)) (mj_cons (mc_X7_all_X7_all_r3 _ (List.mem_of_getElem? (i := 6) rfl)) (mj_cons (mc_X7_all_X7_all_r3 _ (List.mem_of_getElem? (i := 7) rfl)) (mj_cons (mc_X7_all_X7_all_r3 _ (List.mem_of_getElem? (i := 8) rfl)) (mj_cons (mc_X7_all_X7_all_r3 _ (List.mem_of_getElem? (i := 9) rfl)) (mj_cons (mc_X7_all_X7_all_r3 _ (List.mem_of_getElem? (i := 10) rfl)) (mj_cons (mc_X7_all_X7_all_r3 _ (List.mem_of_getElem? (i := 11) rfl)) mj_nil)))))))))))))))))))))))) (mj_app (mj_cons (mc_X7_all_X7_all_r3 _ (List.mem_of_getElem? (i := 12) rfl)) (mj_cons (mc_X7_all_X7_all_r3 _ (List.mem_of_getElem? (i := 13) rfl)) (mj_cons (mc_X7_all_X7_all_r3 _ (List.mem_of_getElem? (i := 14) rfl)) (mj_cons (mc_X7_all_X7_all_r3 _ (List.mem_of_getElem? (i := 15) rfl)) (mj_cons (mc_X7_all_X7_all_r3 _ (List.mem_of_getElem? (i := 16) rfl)) (mj_cons (mc_X7_all_X7_all_r3 _ (List.mem_of_getElem? (i := 17) rfl)) (mj_cons (mc_X7_all_X7_all_r3 _ (List.mem_of_getElem? (i := 18) rfl)) (mj_cons (mc_X7_all_X7_all_r3 _ (List.mem_of_getElem? (i := 19) rfl)) (mj_cons (mc_X7_all_X7_all_r3 _ (List.mem_of_getElem? (i := 20) rfl)) (mj_cons (mc_X7_all_X7_all_r3 _ (List.mem_of_getElem? (i := 21) rfl)) (mj_cons (mc_X7_all_X7_all_r3 _ (List.mem_of_getElem? (i := 22) rfl)) (mj_cons (mc_X7_all_X7_all_r3 _ (List.mem_of_getElem? (i := 23) rfl)) (mj_cons (mc_X7_all_X7_all_r4 _ (List.mem_of_getElem? (i := 0) rfl)) (mj_cons (mc_X7_all_X7_all_r4 _ (List.mem_of_getElem? (i := 1) rfl)) (mj_cons (mc_X7_all_X7_all_r4 _ (List.mem_of_getElem? (i := 2) rfl)) (mj_cons (mc_X7_all_X7_all_r4 _ (List.mem_of_getElem? (i := 3) rfl)) (mj_cons (mc_X7_all_X7_all_r4 _ (List.mem_of_getElem? (i := 4) rfl)) (mj_cons (mc_X7_all_X7_all_r4 _ (List.mem_of_getElem? (i := 5) rfl)) (mj_cons (mc_X7_all_X7_all_r4 _ (List.mem_of_getElem? (i := 6) rfl)) (mj_cons (mc_X7_all_X7_all_r4 _ (List.mem_of_getElem? (i := 7) rfl)) (mj_cons (mc_X7_all_X7_all_r4 _ (List.mem_of_getElem? (i := 8) rfl)) (mj_cons (mc_X7_all_X7_all_r4 _ (List.mem_of_getElem? (i := 9) rfl)) (mj_cons (mc_X7_all_X7_all_r4 _ (List.mem_of_getElem? (i := 10) rfl)) (mj_cons (mc_X7_all_X7_all_r4 _ (List.mem_of_getElem? (i := 11) rfl)) mj_nil)))))))))))))))))))))))) (mj_app (mj_cons (mc_X7_all_X7_all_r4 _ (List.mem_of_getElem? (i := 12) rfl)) (mj_cons (mc_X7_all_X7_all_r4 _ (List.mem_of_getElem? (i := 13) rfl)) (mj_cons (mc_X7_all_X7_all_r4 _ (List.mem_of_getElem? (i := 14) rfl)) (mj_cons (mc_X7_all_X7_all_r4 _ (List.mem_of_getElem? (i := 15) rfl)) (mj_cons (mc_X7_all_X7_all_r4 _ (List.mem_of_getElem? (i := 16) rfl)) (mj_cons (mc_X7_all_X7_all_r4 _ (List.mem_of_getElem? (i := 17) rfl)) (mj_cons (mc_X7_all_X7_all_r4 _ (List.mem_of_getElem? (i := 18) rfl)) (mj_cons (mc_X7_all_X7_all_r4 _ (List.mem_of_getElem? (i := 19) rfl)) (mj_cons (mc_X7_all_X7_all_r4 _ (List.mem_of_getElem? (i := 20) rfl)) (mj_cons (mc_X7_all_X7_all_r4 _ (List.mem_of_getElem? (i := 21) rfl)) (mj_cons (mc_X7_all_X7_all_r4 _ (List.mem_of_getElem? (i := 22) rfl)) (mj_cons (mc_X7_all_X7_all_r4 _ (List.mem_of_getElem? (i := 23) rfl)) (mj_cons (mc_X7_all_X7_all_r5 _ (List.mem_of_getElem? (i := 0) rfl)) (mj_cons (mc_X7_all_X7_all_r5 _ (List.mem_of_getElem? (i := 1) rfl)) (mj_cons (mc_X7_all_X7_all_r5 _ (List.mem_of_getElem? (i := 2) rfl)) (mj_cons (mc_X7_all_X7_all_r5 _ (List.mem_of_getElem? (i := 3) rfl)) (mj_cons (mc_X7_all_X7_all_r5 _ (List.mem_of_getElem? (i := 4) rfl)) (mj_cons (mc_X7_all_X7_all_r5 _ (List.mem_of_getElem? (i := 5) rfl)) (mj_cons (mc_X7_all_X7_all_r5 _ (List.mem_of_getElem? (i := 6) rfl)) (mj_cons (mc_X7_all_X7_all_r5 _ (List.mem_of_getElem? (i := 7) rfl)) (mj_cons (mc_X7_all_X7_all_r5 _ (List.mem_of_getElem? (i := 8) rfl)) (mj_cons (mc_X7_all_X7_all_r5 _ (List.mem_of_getElem? (i := 9) rfl)) (mj_cons (mc_X7_all_X7_all_r5 _ (List.mem_of_getElem? (i := 10) rfl)) (mj_cons (mc_X7_all_X7_all_r5 _ (List.mem_of_getElem? (i := 11) rfl)) mj_nil)))))))))))))))))))))))) (mj_app (mj_cons (mc_X7_all_X7_all_r5 _ (List.mem_of_getElem? (i := 12) rfl)) (mj_cons (mc_X7_all_X7_all_r5 _ (List.mem_of_getElem? (i := 13) rfl)) (mj_cons (mc_X7_all_X7_all_r5 _ (List.mem_of_getElem? (i := 14) rfl)) (mj_cons (mc_X7_all_X7_all_r5 _ (List.mem_of_getElem? (i := 15) rfl)) (mj_cons (mc_X7_all_X7_all_r5 _ (List.mem_of_getElem? (i := 16) rfl)) (mj_cons (mc_X7_all_X7_all_r5 _ (List.mem_of_getElem? (i := 17) rfl)) (mj_cons (mc_X7_all_X7_all_r5 _ (List.mem_of_getElem? (i := 18) rfl)) (mj_cons (mc_X7_all_X7_all_r5 _ (List.mem_of_getElem? (i := 19) rfl)) (mj_cons (mc_X7_all_X7_all_r5 _ (List.mem_of_getElem? (i := 20) rfl)) (mj_cons (mc_X7_all_X7_all_r5 _ (List.mem_of_getElem? (i := 21) rfl)) (mj_cons (mc_X7_all_X7_all_r5 _ (List.mem_of_getElem? (i := 22) rfl)) (mj_cons (mc_X7_all_X7_all_r5 _ (List.mem_of_getElem? (i := 23) rfl)) (mj_cons (mc_X7_all_X7_all_r6 _ (List.mem_of_getElem? (i := 0) rfl)) (mj_cons (mc_X7_all_X7_all_r6 _ (List.mem_of_getElem? (i := 1) rfl)) (mj_cons (mc_X7_all_X7_all_r6 _ (List.mem_of_getElem? (i := 2) rfl)) (mj_cons (mc_X7_all_X7_all_r6 _ (List.mem_of_getElem? (i := 3) rfl)) (mj_cons (mc_X7_all_X7_all_r6 _ (List.mem_of_getElem? (i := 4) rfl)) (mj_cons (mc_X7_all_X7_all_r6 _ (List.mem_of_getElem? (i := 5) rfl)) (mj_cons (mc_X7_all_X7_all_r6 _ (List.mem_of_getElem? (i := 6) rfl)) (mj_cons (mc_X7_all_X7_all_r6 _ (List.mem_of_getElem? (i := 7) rfl)) (mj_cons (mc_X7_all_X7_all_r6 _ (List.mem_of_getElem? (i := 8) rfl)) (mj_cons (mc_X7_all_X7_all_r6 _ (List.mem_of_getElem? (i := 9) rfl)) (mj_cons (mc_X7_all_X7_all_r6 _ (List.mem_of_getElem? (i := 10) rfl)) (mj_cons (mc_X7_all_X7_all_r6 _ (List.mem_of_getElem? (i := 11) rfl)) mj_nil)))))))))))))))))))))))) (mj_cons (mc_X7_all_X7_all_r6 _ (List.mem_of_getElem? (i := 12) rfl)) (mj_cons (mc_X7_all_X7_all_r1 _ (List.mem_of_getElem? (i := 3) rfl)) mj_nil))))))) mc_X7_all_X70)) (by decide +kernel)
set_option maxRecDepth 20000 in
theorem gX7_all_X7_ways : GoodIn wsX7_all (wsV RX7 320 RX7 yX7_ways wsX7_ways) := goodIn_app (mj_good (mj_cons (mc_X7_all_X7_all_r1 _ (List.mem_of_getElem? (i := 9) rfl)) (mj_cons (mc_X7_all_X7_all_r1 _ (List.mem_of_getElem? (i := 10) rfl)) (mj_cons (mc_X7_all_X7_all_r1 _ (List.mem_of_getElem? (i := 11) rfl)) (mj_cons (mc_X7_all_X7_all_r1 _ (List.mem_of_getElem? (i := 7) rfl)) mj_nil)))) (by decide +kernel)) ggX7_all_X7_ways
theorem dX7_all_0 : decode cX7_all 0 = .ok (.aload_n 0, 1) := by decide +kernel
theorem dX7_all_1 : decode cX7_all 1 = .ok (.iconst 0, 1) := by decide +kernel
theorem dX7_all_2 : decode cX7_all 2 = .ok (.putfield 184, 3) := by decide +kernel
theorem dX7_all_5 : decode cX7_all 5 = .ok (.aload_n 0, 1) := by decide +kernel
theorem dX7_all_6 : decode cX7_all 6 = .ok (.iconst 0, 1) := by decide +kernel
theorem dX7_all_7 : decode cX7_all 7 = .ok (.putfield 187, 3) := by decide +kernel
theorem dX7_all_10 : decode cX7_all 10 = .ok (.aload_n 0, 1) := by decide +kernel
theorem dX7_all_11 : decode cX7_all 11 = .ok (.getfield 303, 3) := by decide +kernel
theorem dX7_all_14 : decode cX7_all 14 = .ok (.ifCond .ne 10, 3) := by decide +kernel
theorem dX7_all_17 : decode cX7_all 17 = .ok (.aload_n 0, 1) := by decide +kernel
theorem dX7_all_18 : decode cX7_all 18 = .ok (.iconst 1, 1) := by decide +kernel
theorem dX7_all_19 : decode cX7_all 19 = .ok (.invokevirtual 290, 3) := by decide +kernel
theorem dX7_all_22 : decode cX7_all 22 = .ok (.i2l, 1) := by decide +kernel
theorem dX7_all_23 : decode cX7_all 23 = .ok (.lreturn, 1) := by decide +kernel
theorem dX7_all_24 : decode cX7_all 24 = .ok (.aload_n 0, 1) := by decide +kernel
theorem dX7_all_25 : decode cX7_all 25 = .ok (.iconst (-1), 1) := by decide +kernel
theorem dX7_all_26 : decode cX7_all 26 = .ok (.invokevirtual 320, 3) := by decide +kernel
theorem dX7_all_29 : decode cX7_all 29 = .ok (.lstore_n 1, 1) := by decide +kernel
theorem dX7_all_30 : decode cX7_all 30 = .ok (.lload_n 1, 1) := by decide +kernel
theorem dX7_all_31 : decode cX7_all 31 = .ok (.lconst 0, 1) := by decide +kernel
theorem dX7_all_32 : decode cX7_all 32 = .ok (.lcmp, 1) := by decide +kernel
theorem dX7_all_33 : decode cX7_all 33 = .ok (.ifCond .ge 14, 3) := by decide +kernel
theorem dX7_all_36 : decode cX7_all 36 = .ok (.aload_n 0, 1) := by decide +kernel
theorem dX7_all_37 : decode cX7_all 37 = .ok (.lload_n 1, 1) := by decide +kernel
theorem dX7_all_38 : decode cX7_all 38 = .ok (.lneg, 1) := by decide +kernel
theorem dX7_all_39 : decode cX7_all 39 = .ok (.l2i, 1) := by decide +kernel
theorem dX7_all_40 : decode cX7_all 40 = .ok (.invokevirtual 290, 3) := by decide +kernel
theorem dX7_all_43 : decode cX7_all 43 = .ok (.i2l, 1) := by decide +kernel
theorem dX7_all_44 : decode cX7_all 44 = .ok (.goto 22, 3) := by decide +kernel
theorem dX7_all_47 : decode cX7_all 47 = .ok (.lload_n 1, 1) := by decide +kernel
theorem dX7_all_48 : decode cX7_all 48 = .ok (.ldc2_w 318, 3) := by decide +kernel
theorem dX7_all_51 : decode cX7_all 51 = .ok (.lcmp, 1) := by decide +kernel
theorem dX7_all_52 : decode cX7_all 52 = .ok (.ifCond .lt 13, 3) := by decide +kernel
theorem dX7_all_55 : decode cX7_all 55 = .ok (.aload_n 0, 1) := by decide +kernel
theorem dX7_all_56 : decode cX7_all 56 = .ok (.bipush 10, 2) := by decide +kernel
theorem dX7_all_58 : decode cX7_all 58 = .ok (.invokevirtual 290, 3) := by decide +kernel
theorem dX7_all_61 : decode cX7_all 61 = .ok (.i2l, 1) := by decide +kernel
theorem dX7_all_62 : decode cX7_all 62 = .ok (.goto 4, 3) := by decide +kernel
theorem dX7_all_65 : decode cX7_all 65 = .ok (.lload_n 1, 1) := by decide +kernel
theorem dX7_all_66 : decode cX7_all 66 = .ok (.lreturn, 1) := by decide +kernel
set_option maxRecDepth 20000 in
theorem mc_X7_must_X7_must_r1 : mjIn wsX7_must wsX7_must_r1 := fun w h => (List.mem_cons_of_mem _ (List.mem_append_left _ (List.mem_append_left _ h)))
set_option maxRecDepth 20000 in
theorem mc_X7_must_X70 : mjIn wsX7_must wsX70 := fun w h => (List.mem_cons_of_mem _ (List.mem_append_right _ h))
set_option maxRecDepth 20000 in
theorem ggX7_must_X7_refuse : GoodIn wsX7_must wsX7_refuse := mj_good (mj_cons (mc_X7_must_X7_must_r1 _ (List.mem_of_getElem? (i := 8) rfl)) (mj_app (mj_cons (mc_X7_must_X7_must_r1 _ (List.mem_of_getElem? (i := 1) rfl)) mj_nil) mc_X7_must_X70)) (by decide +kernel)
set_option maxRecDepth 20000 in
theorem gX7_must_X7_refuse : GoodIn wsX7_must (wsV RX7 290 RX7 yX7_refuse wsX7_refuse) := goodIn_app (mj_good (mj_cons (mc_X7_must_X7_must_r1 _ (List.mem_of_getElem? (i := 4) rfl)) (mj_cons (mc_X7_must_X7_must_r1 _ (List.mem_of_getElem? (i := 5) rfl)) (mj_cons (mc_X7_must_X7_must_r1 _ (List.mem_of_getElem? (i := 6) rfl)) (mj_cons (mc_X7_must_X7_must_r1 _ (List.mem_of_getElem? (i := 7) rfl)) mj_nil)))) (by decide +kernel)) ggX7_must_X7_refuse
set_option maxRecDepth 20000 in
theorem mc_X7_must_X7_must_r2 : mjIn wsX7_must wsX7_must_r2 := fun w h => (List.mem_cons_of_mem _ (List.mem_append_left _ (List.mem_append_right _ (List.mem_append_left _ h))))
set_option maxRecDepth 20000 in
theorem mc_X7_must_X7_must_r3 : mjIn wsX7_must wsX7_must_r3 := fun w h => (List.mem_cons_of_mem _ (List.mem_append_left _ (List.mem_append_right _ (List.mem_append_right _ (List.mem_append_left _ h)))))
set_option maxRecDepth 20000 in
theorem mc_X7_must_X7_must_r4 : mjIn wsX7_must wsX7_must_r4 := fun w h => (List.mem_cons_of_mem _ (List.mem_append_left _ (List.mem_append_right _ (List.mem_append_right _ (List.mem_append_right _ (List.mem_append_left _ h))))))
set_option maxRecDepth 20000 in
theorem mc_X7_must_X7_must_r5 : mjIn wsX7_must wsX7_must_r5 := fun w h => (List.mem_cons_of_mem _ (List.mem_append_left _ (List.mem_append_right _ (List.mem_append_right _ (List.mem_append_right _ (List.mem_append_right _ (List.mem_append_left _ h)))))))
set_option maxRecDepth 20000 in
theorem mc_X7_must_X7_must_r6 : mjIn wsX7_must wsX7_must_r6 := fun w h => (List.mem_cons_of_mem _ (List.mem_append_left _ (List.mem_append_right _ (List.mem_append_right _ (List.mem_append_right _ (List.mem_append_right _ (List.mem_append_right _ h)))))))
set_option maxRecDepth 20000 in
theorem ggX7_must_X7_ways : GoodIn wsX7_must wsX7_ways := mj_good (mj_cons (mc_X7_must_X7_must_r1 _ (List.mem_of_getElem? (i := 12) rfl)) (mj_app (mj_app (mj_cons (mc_X7_must_X7_must_r1 _ (List.mem_of_getElem? (i := 13) rfl)) (mj_cons (mc_X7_must_X7_must_r1 _ (List.mem_of_getElem? (i := 14) rfl)) (mj_cons (mc_X7_must_X7_must_r1 _ (List.mem_of_getElem? (i := 15) rfl)) (mj_cons (mc_X7_must_X7_must_r1 _ (List.mem_of_getElem? (i := 16) rfl)) (mj_cons (mc_X7_must_X7_must_r1 _ (List.mem_of_getElem? (i := 17) rfl)) (mj_cons (mc_X7_must_X7_must_r1 _ (List.mem_of_getElem? (i := 18) rfl)) (mj_cons (mc_X7_must_X7_must_r1 _ (List.mem_of_getElem? (i := 19) rfl)) (mj_cons (mc_X7_must_X7_must_r1 _ (List.mem_of_getElem? (i := 20) rfl)) (mj_cons (mc_X7_must_X7_must_r1 _ (List.mem_of_getElem? (i := 21) rfl)) (mj_cons (mc_X7_must_X7_must_r1 _ (List.mem_of_getElem? (i := 22) rfl)) (mj_cons (mc_X7_must_X7_must_r1 _ (List.mem_of_getElem? (i := 23) rfl)) (mj_cons (mc_X7_must_X7_must_r1 _ (List.mem_of_getElem? (i := 7) rfl)) (mj_cons (mc_X7_must_X7_must_r2 _ (List.mem_of_getElem? (i := 0) rfl)) (mj_cons (mc_X7_must_X7_must_r2 _ (List.mem_of_getElem? (i := 1) rfl)) (mj_cons (mc_X7_must_X7_must_r2 _ (List.mem_of_getElem? (i := 2) rfl)) (mj_cons (mc_X7_must_X7_must_r2 _ (List.mem_of_getElem? (i := 3) rfl)) (mj_cons (mc_X7_must_X7_must_r1 _ (List.mem_of_getElem? (i := 3) rfl)) (mj_cons (mc_X7_must_X7_must_r2 _ (List.mem_of_getElem? (i := 4) rfl)) (mj_cons (mc_X7_must_X7_must_r2 _ (List.mem_of_getElem? (i := 5) rfl)) (mj_cons (mc_X7_must_X7_must_r2 _ (List.mem_of_getElem? (i := 6) rfl)) (mj_cons (mc_X7_must_X7_must_r2 _ (List.mem_of_getElem? (i := 7) rfl)) (mj_cons (mc_X7_must_X7_must_r2 _ (List.mem_of_getElem? (i := 8) rfl)) (mj_cons (mc_X7_must_X7_must_r2 _ (List.mem_of_getElem? (i := 9) rfl)) (mj_cons (mc_X7_must_X7_must_r2 _ (List.mem_of_getElem? (i := 10) rfl)) mj_nil)))))))))))))))))))))))) (mj_app (mj_cons (mc_X7_must_X7_must_r2 _ (List.mem_of_getElem? (i := 11) rfl)) (mj_cons (mc_X7_must_X7_must_r2 _ (List.mem_of_getElem? (i := 12) rfl)) (mj_cons (mc_X7_must_X7_must_r2 _ (List.mem_of_getElem? (i := 13) rfl)) (mj_cons (mc_X7_must_X7_must_r2 _ (List.mem_of_getElem? (i := 14) rfl)) (mj_cons (mc_X7_must_X7_must_r2 _ (List.mem_of_getElem? (i := 15) rfl)) (mj_cons (mc_X7_must_X7_must_r2 _ (List.mem_of_getElem? (i := 16) rfl)) (mj_cons (mc_X7_must_X7_must_r2 _ (List.mem_of_getElem? (i := 17) rfl)) (mj_cons (mc_X7_must_X7_must_r2 _ (List.mem_of_getElem? (i := 18) rfl)) (mj_cons (mc_X7_must_X7_must_r2 _ (List.mem_of_getElem? (i := 19) rfl)) (mj_cons (mc_X7_must_X7_must_r2 _ (List.mem_of_getElem? (i := 20) rfl)) (mj_cons (mc_X7_must_X7_must_r2 _ (List.mem_of_getElem? (i := 21) rfl)) (mj_cons (mc_X7_must_X7_must_r2 _ (List.mem_of_getElem? (i := 22) rfl)) (mj_cons (mc_X7_must_X7_must_r2 _ (List.mem_of_getElem? (i := 23) rfl)) (mj_cons (mc_X7_must_X7_must_r3 _ (List.mem_of_getElem? (i := 0) rfl)) (mj_cons (mc_X7_must_X7_must_r3 _ (List.mem_of_getElem? (i := 1) rfl)) (mj_cons (mc_X7_must_X7_must_r3 _ (List.mem_of_getElem? (i := 2) rfl)) (mj_cons (mc_X7_must_X7_must_r3 _ (List.mem_of_getElem? (i := 3) rfl)) (mj_cons (mc_X7_must_X7_must_r3 _ (List.mem_of_getElem? (i := 4) rfl)) (mj_cons (mc_X7_must_X7_must_r3 _ (List.mem_of_getElem? (i := 5) rfl)) (mj_cons (mc_X7_must_X7_must_r3 _ (List.mem_of_getElem? (i := 6) rfl)) (mj_cons (mc_X7_must_X7_must_r3 _ (List.mem_of_getElem? (i := 7) rfl)) (mj_cons (mc_X7_must_X7_must_r3 _ (List.mem_of_getElem? (i := 8) rfl)) (mj_cons (mc_X7_must_X7_must_r3 _ (List.mem_of_getElem? (i := 9) rfl)) (mj_cons (mc_X7_must_X7_must_r3 _ (List.mem_of_getElem? (i := 10) rfl)) mj_nil)))))))))))))))))))))))) (mj_app (mj_cons (mc_X7_must_X7_must_r3 _ (List.mem_of_getElem? (i := 11) rfl)) (mj_cons (mc_X7_must_X7_must_r3 _ (List.mem_of_getElem? (i := 12) rfl)) (mj_cons (mc_X7_must_X7_must_r3 _ (List.mem_of_getElem? (i := 13) rfl)) (mj_cons (mc_X7_must_X7_must_r3 _ (List.mem_of_getElem? (i := 14) rfl)) (mj_cons (mc_X7_must_X7_must_r3 _ (List.mem_of_getElem? (i := 15) rfl)) (mj_cons (mc_X7_must_X7_must_r3 _ (List.mem_of_getElem? (i := 16) rfl)) (mj_cons (mc_X7_must_X7_must_r3 _ (List.mem_of_getElem? (i := 17) rfl)) (mj_cons (mc_X7_must_X7_must_r3 _ (List.mem_of_getElem? (i := 18) rfl)) (mj_cons (mc_X7_must_X7_must_r3 _ (List.mem_of_getElem? (i := 19) rfl)) (mj_cons (mc_X7_must_X7_must_r3 _ (List.mem_of_getElem? (i := 20) rfl)) (mj_cons (mc_X7_must_X7_must_r3 _ (List.mem_of_getElem? (i := 21) rfl)) (mj_cons (mc_X7_must_X7_must_r3 _ (List.mem_of_getElem? (i := 22) rfl)) (mj_cons (mc_X7_must_X7_must_r3 _ (List.mem_of_getElem? (i := 23) rfl)) (mj_cons (mc_X7_must_X7_must_r4 _ (List.mem_of_getElem? (i := 0) rfl)) (mj_cons (mc_X7_must_X7_must_r4 _ (List.mem_of_getElem? (i := 1) rfl)) (mj_cons (mc_X7_must_X7_must_r4 _ (List.mem_of_getElem? (i := 2) rfl)) (mj_cons (mc_X7_must_X7_must_r4 _ (List.mem_of_getElem? (i := 3) rfl)) (mj_cons (mc_X7_must_X7_must_r4 _ (List.mem_of_getElem? (i := 4) rfl)) (mj_cons (mc_X7_must_X7_must_r4 _ (List.mem_of_getElem? (i := 5) rfl)) (mj_cons (mc_X7_must_X7_must_r4 _ (List.mem_of_getElem? (i := 6) rfl)) (mj_cons (mc_X7_must_X7_must_r4 _ (List.mem_of_getElem? (i := 7) rfl)) (mj_cons (mc_X7_must_X7_must_r4 _ (List.mem_of_getElem? (i := 8) rfl)) (mj_cons (mc_X7_must_X7_must_r4 _ (List.mem_of_getElem? (i := 9) rfl)) (mj_cons (mc_X7_must_X7_must_r4 _ (List.mem_of_getElem? (i := 10) rfl)) mj_nil)))))))))))))))))))))))) (mj_app (mj_cons (mc_X7_must_X7_must_r4 _ (List.mem_of_getElem? (i := 11) rfl)) (mj_cons (mc_X7_must_X7_must_r4 _ (List.mem_of_getElem? (i := 12) rfl)) (mj_cons (mc_X7_must_X7_must_r4 _ (List.mem_of_getElem? (i := 13) rfl)) (mj_cons (mc_X7_must_X7_must_r4 _ (List.mem_of_getElem? (i := 14) rfl)) (mj_cons (mc_X7_must_X7_must_r4 _ (List.mem_of_getElem? (i := 15) rfl)) (mj_cons (mc_X7_must_X7_must_r4 _ (List.mem_of_getElem? (i := 16) rfl)) (mj_cons (mc_X7_must_X7_must_r4 _ (List.mem_of_getElem? (i := 17) rfl)) (mj_cons (mc_X7_must_X7_must_r4 _ (List.mem_of_getElem? (i := 18) rfl)) (mj_cons (mc_X7_must_X7_must_r4 _ (List.mem_of_getElem? (i := 19) rfl)) (mj_cons (mc_X7_must_X7_must_r4 _ (List.mem_of_getElem? (i := 20) rfl)) (mj_cons (mc_X7_must_X7_must_r4 _ (List.mem_of_getElem? (i := 21) rfl)) (mj_cons (mc_X7_must_X7_must_r4 _ (List.mem_of_getElem? (i := 22) rfl)) (mj_cons (mc_X7_must_X7_must_r4 _ (List.mem_of_getElem? (i := 23) rfl)) (mj_cons (mc_X7_must_X7_must_r5 _ (List.mem_of_getElem? (i := 0) rfl)) (mj_cons (mc_X7_must_X7_must_r5 _ (List.mem_of_getElem? (i := 1) rfl)) (mj_cons (mc_X7_must_X7_must_r5 _ (List.mem_of_getElem? (i := 2) rfl)) (mj_cons (mc_X7_must_X7_must_r5 _ (List.mem_of_getElem? (i := 3) rfl)) (mj_cons (mc_X7_must_X7_must_r5 _ (List.mem_of_getElem? (i := 4) rfl)) (mj_cons (mc_X7_must_X7_must_r5 _ (List.mem_of_getElem? (i := 5) rfl)) (mj_cons (mc_X7_must_X7_must_r5 _ (List.mem_of_getElem? (i := 6) rfl)) (mj_cons (mc_X7_must_X7_must_r5 _ (List.mem_of_getElem? (i := 7) rfl)) (mj_cons (mc_X7_must_X7_must_r5 _ (List.mem_of_getElem? (i := 8) rfl)) (mj_cons (mc_X7_must_X7_must_r5 _ (List.mem_of_getElem? (i := 9) rfl)) (mj_cons (mc_X7_must_X7_must_r5 _ (List.mem_of_getElem? (i := 10) rfl)) mj_nil)))))))))))))))))))))))) (mj_app (mj_cons (mc_X7_must_X7_must_r5 _ (List.mem_of_getElem? (i := 11) rfl)) (mj_cons (mc_X7_must_X7_must_r5 _ (List.mem_of_getElem? (i := 12) rfl)) (mj_cons (mc_X7_must_X7_must_r5 _ (List.mem_of_getElem? (i := 13) rfl)) (mj_cons (mc_X7_must_X7_must_r5 _ (List.mem_of_getElem? (i := 14) rfl)) (mj_cons (mc_X7_must_X7_must_r5 _ (List.mem_of_getElem? (i := 15) rfl)) (mj_cons (mc_X7_must_X7_must_r5 _ (List.mem_of_getElem? (i := 16) rfl)) (mj_cons (mc_X7_must_X7_must_r5 _ (List.mem_of_getElem? (i := 17) rfl)) (mj_cons (mc_X7_must_X7_must_r5 _ (List.mem_of_getElem? (i := 18) rfl)) (mj_cons (mc_X7_must_X7_must_r5 _ (List.mem_of_getElem? (i := 19) rfl)) (mj_cons (mc_X7_must_X7_must_r5 _ (List.mem_of_getElem? (i := 20) rfl)) (mj_cons (mc_X7_must_X7_must_r5 _ (List.mem_of_getElem? (i := 21) rfl)) (mj_cons (mc_X7_must_X7_must_r5 _ (List.mem_of_getElem? (i := 22) rfl)) (mj_cons (mc_X7_must_X7_must_r5 _ (List.mem_of_getElem? (i := 23) rfl)) (mj_cons (mc_X7_must_X7_must_r6 _ (List.mem_of_getElem? (i := 0) rfl)) (mj_cons (mc_X7_must_X7_must_r6 _ (List.mem_of_getElem? (i := 1) rfl)) (mj_cons (mc_X7_must_X7_must_r6 _ (List.mem_of_getElem? (i := 2) rfl)) (mj_cons (mc_X7_must_X7_must_r6 _ (List.mem_of_getElem? (i := 3) rfl)) (mj_cons (mc_X7_must_X7_must_r6 _ (List.mem_of_getElem? (i := 4) rfl)) (mj_cons (mc_X7_must_X7_must_r6 _ (List.mem_of_getElem? (i := 5) rfl)) (mj_cons (mc_X7_must_X7_must_r6 _ (List.mem_of_getElem? (i := 6) rfl)) (mj_cons (mc_X7_must_X7_must_r6 _ (List.mem_of_getElem? (i := 7) rfl)) (mj_cons (mc_X7_must_X7_must_r6 _ (List.mem_of_getElem? (i := 8) rfl)) (mj_cons (mc_X7_must_X7_must_r6 _ (List.mem_of_getElem? (i := 9) rfl)) (mj_cons (mc_X7_must_X7_must_r6 _ (List.mem_of_getElem? (i := 10) rfl)) mj_nil)))))))))))))))))))))))) (mj_cons (mc_X7_must_X7_must_r6 _ (List.mem_of_getElem? (i := 11) rfl)) (mj_cons (mc_X7_must_X7_must_r6 _ (List.mem_of_getElem? (i := 12) rfl)) mj_nil))))))) mc_X7_must_X70)) (by decide +kernel)
set_option maxRecDepth 20000 in
theorem gX7_must_X7_ways : GoodIn wsX7_must (wsV RX7 320 RX7 yX7_ways wsX7_ways) := goodIn_app (mj_good (mj_cons (mc_X7_must_X7_must_r1 _ (List.mem_of_getElem? (i := 9) rfl)) (mj_cons (mc_X7_must_X7_must_r1 _ (List.mem_of_getElem? (i := 10) rfl)) (mj_cons (mc_X7_must_X7_must_r1 _ (List.mem_of_getElem? (i := 11) rfl)) (mj_cons (mc_X7_must_X7_must_r1 _ (List.mem_of_getElem? (i := 7) rfl)) mj_nil)))) (by decide +kernel)) ggX7_must_X7_ways
theorem dX7_must_0 : decode cX7_must 0 = .ok (.aload_n 0, 1) := by decide +kernel
theorem dX7_must_1 : decode cX7_must 1 = .ok (.iconst 0, 1) := by decide +kernel
theorem dX7_must_2 : decode cX7_must 2 = .ok (.putfield 184, 3) := by decide +kernel
theorem dX7_must_5 : decode cX7_must 5 = .ok (.aload_n 0, 1) := by decide +kernel
theorem dX7_must_6 : decode cX7_must 6 = .ok (.iconst 0, 1) := by decide +kernel
theorem dX7_must_7 : decode cX7_must 7 = .ok (.putfield 187, 3) := by decide +kernel
theorem dX7_must_10 : decode cX7_must 10 = .ok (.aload_n 0, 1) := by decide +kernel
theorem dX7_must_11 : decode cX7_must 11 = .ok (.getfield 303, 3) := by decide +kernel
theorem dX7_must_14 : decode cX7_must 14 = .ok (.ifCond .ne 9, 3) := by decide +kernel
theorem dX7_must_17 : decode cX7_must 17 = .ok (.aload_n 0, 1) := by decide +kernel
theorem dX7_must_18 : decode cX7_must 18 = .ok (.iconst 1, 1) := by decide +kernel
theorem dX7_must_19 : decode cX7_must 19 = .ok (.invokevirtual 290, 3) := by decide +kernel
theorem dX7_must_22 : decode cX7_must 22 = .ok (.ireturn, 1) := by decide +kernel
theorem dX7_must_23 : decode cX7_must 23 = .ok (.iload_n 1, 1) := by decide +kernel
theorem dX7_must_24 : decode cX7_must 24 = .ok (.ifCond .lt 11, 3) := by decide +kernel
theorem dX7_must_27 : decode cX7_must 27 = .ok (.iload_n 1, 1) := by decide +kernel
theorem dX7_must_28 : decode cX7_must 28 = .ok (.aload_n 0, 1) := by decide +kernel
theorem dX7_must_29 : decode cX7_must 29 = .ok (.getfield 216, 3) := by decide +kernel
theorem dX7_must_32 : decode cX7_must 32 = .ok (.if_icmp .lt 9, 3) := by decide +kernel
theorem dX7_must_35 : decode cX7_must 35 = .ok (.aload_n 0, 1) := by decide +kernel
theorem dX7_must_36 : decode cX7_must 36 = .ok (.iconst 2, 1) := by decide +kernel
theorem dX7_must_37 : decode cX7_must 37 = .ok (.invokevirtual 290, 3) := by decide +kernel
theorem dX7_must_40 : decode cX7_must 40 = .ok (.ireturn, 1) := by decide +kernel
theorem dX7_must_41 : decode cX7_must 41 = .ok (.aload_n 0, 1) := by decide +kernel
theorem dX7_must_42 : decode cX7_must 42 = .ok (.iload_n 1, 1) := by decide +kernel
theorem dX7_must_43 : decode cX7_must 43 = .ok (.invokevirtual 320, 3) := by decide +kernel
theorem dX7_must_46 : decode cX7_must 46 = .ok (.lstore_n 2, 1) := by decide +kernel
theorem dX7_must_47 : decode cX7_must 47 = .ok (.lload_n 2, 1) := by decide +kernel
theorem dX7_must_48 : decode cX7_must 48 = .ok (.lconst 0, 1) := by decide +kernel
theorem dX7_must_49 : decode cX7_must 49 = .ok (.lcmp, 1) := by decide +kernel
theorem dX7_must_50 : decode cX7_must 50 = .ok (.ifCond .ge 13, 3) := by decide +kernel
theorem dX7_must_53 : decode cX7_must 53 = .ok (.aload_n 0, 1) := by decide +kernel
theorem dX7_must_54 : decode cX7_must 54 = .ok (.lload_n 2, 1) := by decide +kernel
theorem dX7_must_55 : decode cX7_must 55 = .ok (.lneg, 1) := by decide +kernel
theorem dX7_must_56 : decode cX7_must 56 = .ok (.l2i, 1) := by decide +kernel
theorem dX7_must_57 : decode cX7_must 57 = .ok (.invokevirtual 290, 3) := by decide +kernel
theorem dX7_must_60 : decode cX7_must 60 = .ok (.goto 14, 3) := by decide +kernel
theorem dX7_must_63 : decode cX7_must 63 = .ok (.lload_n 2, 1) := by decide +kernel
theorem dX7_must_64 : decode cX7_must 64 = .ok (.lconst 0, 1) := by decide +kernel
theorem dX7_must_65 : decode cX7_must 65 = .ok (.lcmp, 1) := by decide +kernel
theorem dX7_must_66 : decode cX7_must 66 = .ok (.ifCond .ne 7, 3) := by decide +kernel
theorem dX7_must_69 : decode cX7_must 69 = .ok (.iconst 1, 1) := by decide +kernel
theorem dX7_must_70 : decode cX7_must 70 = .ok (.goto 4, 3) := by decide +kernel
theorem dX7_must_73 : decode cX7_must 73 = .ok (.iconst 0, 1) := by decide +kernel
theorem dX7_must_74 : decode cX7_must 74 = .ok (.ireturn, 1) := by decide +kernel
set_option maxRecDepth 20000 in
theorem mc_X7_hardest_X7_hardest_r1 : mjIn wsX7_hardest wsX7_hardest_r1 := fun w h => (List.mem_cons_of_mem _ (List.mem_append_left _ (List.mem_append_left _ h)))
set_option maxRecDepth 20000 in
theorem mc_X7_hardest_X7_hardest_r2 : mjIn wsX7_hardest wsX7_hardest_r2 := fun w h => (List.mem_cons_of_mem _ (List.mem_append_left _ (List.mem_append_right _ (List.mem_append_left _ h))))
set_option maxRecDepth 20000 in
theorem mc_X7_hardest_X7_hardest_r3 : mjIn wsX7_hardest wsX7_hardest_r3 := fun w h => (List.mem_cons_of_mem _ (List.mem_append_left _ (List.mem_append_right _ (List.mem_append_right _ (List.mem_append_left _ h)))))
set_option maxRecDepth 20000 in
theorem mc_X7_hardest_X7_hardest_r4 : mjIn wsX7_hardest wsX7_hardest_r4 := fun w h => (List.mem_cons_of_mem _ (List.mem_append_left _ (List.mem_append_right _ (List.mem_append_right _ (List.mem_append_right _ (List.mem_append_left _ h))))))
set_option maxRecDepth 20000 in
theorem mc_X7_hardest_X7_hardest_r5 : mjIn wsX7_hardest wsX7_hardest_r5 := fun w h => (List.mem_cons_of_mem _ (List.mem_append_left _ (List.mem_append_right _ (List.mem_append_right _ (List.mem_append_right _ (List.mem_append_right _ h))))))
set_option maxRecDepth 20000 in
theorem mc_X7_hardest_X70 : mjIn wsX7_hardest wsX70 := fun w h => (List.mem_cons_of_mem _ (List.mem_append_right _ h))
set_option maxRecDepth 20000 in
theorem ggX7_hardest_X7_looksAtAll : GoodIn wsX7_hardest wsX7_looksAtAll := mj_good (mj_cons (mc_X7_hardest_X7_hardest_r1 _ (List.mem_of_getElem? (i := 8) rfl)) (mj_app (mj_app (mj_cons (mc_X7_hardest_X7_hardest_r1 _ (List.mem_of_getElem? (i := 9) rfl)) (mj_cons (mc_X7_hardest_X7_hardest_r1 _ (List.mem_of_getElem? (i := 0) rfl)) (mj_cons (mc_X7_hardest_X7_hardest_r1 _ (List.mem_of_getElem? (i := 10) rfl)) (mj_cons (mc_X7_hardest_X7_hardest_r1 _ (List.mem_of_getElem? (i := 11) rfl)) (mj_cons (mc_X7_hardest_X7_hardest_r1 _ (List.mem_of_getElem? (i := 12) rfl)) (mj_cons (mc_X7_hardest_X7_hardest_r1 _ (List.mem_of_getElem? (i := 2) rfl)) (mj_cons (mc_X7_hardest_X7_hardest_r1 _ (List.mem_of_getElem? (i := 13) rfl)) (mj_cons (mc_X7_hardest_X7_hardest_r1 _ (List.mem_of_getElem? (i := 14) rfl)) (mj_cons (mc_X7_hardest_X7_hardest_r1 _ (List.mem_of_getElem? (i := 15) rfl)) (mj_cons (mc_X7_hardest_X7_hardest_r1 _ (List.mem_of_getElem? (i := 16) rfl)) (mj_cons (mc_X7_hardest_X7_hardest_r1 _ (List.mem_of_getElem? (i := 7) rfl)) (mj_cons (mc_X7_hardest_X7_hardest_r1 _ (List.mem_of_getElem? (i := 17) rfl)) (mj_cons (mc_X7_hardest_X7_hardest_r1 _ (List.mem_of_getElem? (i := 18) rfl)) (mj_cons (mc_X7_hardest_X7_hardest_r1 _ (List.mem_of_getElem? (i := 19) rfl)) (mj_cons (mc_X7_hardest_X7_hardest_r1 _ (List.mem_of_getElem? (i := 20) rfl)) (mj_cons (mc_X7_hardest_X7_hardest_r1 _ (List.mem_of_getElem? (i := 21) rfl)) (mj_cons (mc_X7_hardest_X7_hardest_r1 _ (List.mem_of_getElem? (i := 22) rfl)) (mj_cons (mc_X7_hardest_X7_hardest_r1 _ (List.mem_of_getElem? (i := 23) rfl)) (mj_cons (mc_X7_hardest_X7_hardest_r2 _ (List.mem_of_getElem? (i := 0) rfl)) (mj_cons (mc_X7_hardest_X7_hardest_r2 _ (List.mem_of_getElem? (i := 1) rfl)) (mj_cons (mc_X7_hardest_X7_hardest_r2 _ (List.mem_of_getElem? (i := 2) rfl)) (mj_cons (mc_X7_hardest_X7_hardest_r2 _ (List.mem_of_getElem? (i := 3) rfl)) (mj_cons (mc_X7_hardest_X7_hardest_r2 _ (List.mem_of_getElem? (i := 4) rfl)) (mj_cons (mc_X7_hardest_X7_hardest_r2 _ (List.mem_of_getElem? (i := 5) rfl)) mj_nil)))))))))))))))))))))))) (mj_app (mj_cons (mc_X7_hardest_X7_hardest_r2 _ (List.mem_of_getElem? (i := 6) rfl)) (mj_cons (mc_X7_hardest_X7_hardest_r2 _ (List.mem_of_getElem? (i := 7) rfl)) (mj_cons (mc_X7_hardest_X7_hardest_r2 _ (List.mem_of_getElem? (i := 8) rfl)) (mj_cons (mc_X7_hardest_X7_hardest_r2 _ (List.mem_of_getElem? (i := 9) rfl)) (mj_cons (mc_X7_hardest_X7_hardest_r2 _ (List.mem_of_getElem? (i := 10) rfl)) (mj_cons (mc_X7_hardest_X7_hardest_r2 _ (List.mem_of_getElem? (i := 11) rfl)) (mj_cons (mc_X7_hardest_X7_hardest_r2 _ (List.mem_of_getElem? (i := 12) rfl)) (mj_cons (mc_X7_hardest_X7_hardest_r2 _ (List.mem_of_getElem? (i := 13) rfl)) (mj_cons (mc_X7_hardest_X7_hardest_r2 _ (List.mem_of_getElem? (i := 14) rfl)) (mj_cons (mc_X7_hardest_X7_hardest_r2 _ (List.mem_of_getElem? (i := 15) rfl)) (mj_cons (mc_X7_hardest_X7_hardest_r2 _ (List.mem_of_getElem? (i := 16) rfl)) (mj_cons (mc_X7_hardest_X7_hardest_r2 _ (List.mem_of_getElem? (i := 17) rfl)) (mj_cons (mc_X7_hardest_X7_hardest_r2 _ (List.mem_of_getElem? (i := 18) rfl)) (mj_cons (mc_X7_hardest_X7_hardest_r2 _ (List.mem_of_getElem? (i := 19) rfl)) (mj_cons (mc_X7_hardest_X7_hardest_r2 _ (List.mem_of_getElem? (i := 20) rfl)) (mj_cons (mc_X7_hardest_X7_hardest_r2 _ (List.mem_of_getElem? (i := 21) rfl)) (mj_cons (mc_X7_hardest_X7_hardest_r2 _ (List.mem_of_getElem? (i := 22) rfl)) (mj_cons (mc_X7_hardest_X7_hardest_r2 _ (List.mem_of_getElem? (i := 23) rfl)) (mj_cons (mc_X7_hardest_X7_hardest_r3 _ (List.mem_of_getElem? (i := 0) rfl)) (mj_cons (mc_X7_hardest_X7_hardest_r3 _ (List.mem_of_getElem? (i := 1) rfl)) (mj_cons (mc_X7_hardest_X7_hardest_r3 _ (List.mem_of_getElem? (i := 2) rfl)) (mj_cons (mc_X7_hardest_X7_hardest_r3 _ (List.mem_of_getElem? (i := 3) rfl)) (mj_cons (mc_X7_hardest_X7_hardest_r3 _ (List.mem_of_getElem? (i := 4) rfl)) (mj_cons (mc_X7_hardest_X7_hardest_r3 _ (List.mem_of_getElem? (i := 5) rfl)) mj_nil)))))))))))))))))))))))) (mj_app (mj_cons (mc_X7_hardest_X7_hardest_r3 _ (List.mem_of_getElem? (i := 6) rfl)) (mj_cons (mc_X7_hardest_X7_hardest_r3 _ (List.mem_of_getElem? (i := 7) rfl)) (mj_cons (mc_X7_hardest_X7_hardest_r3 _ (List.mem_of_getElem? (i := 8) rfl)) (mj_cons (mc_X7_hardest_X7_hardest_r3 _ (List.mem_of_getElem? (i := 9) rfl)) (mj_cons (mc_X7_hardest_X7_hardest_r3 _ (List.mem_of_getElem? (i := 10) rfl)) (mj_cons (mc_X7_hardest_X7_hardest_r3 _ (List.mem_of_getElem? (i := 11) rfl)) (mj_cons (mc_X7_hardest_X7_hardest_r3 _ (List.mem_of_getElem? (i := 12) rfl)) (mj_cons (mc_X7_hardest_X7_hardest_r3 _ (List.mem_of_getElem? (i := 13) rfl)) (mj_cons (mc_X7_hardest_X7_hardest_r3 _ (List.mem_of_getElem? (i := 14) rfl)) (mj_cons (mc_X7_hardest_X7_hardest_r3 _ (List.mem_of_getElem? (i := 15) rfl)) (mj_cons (mc_X7_hardest_X7_hardest_r3 _ (List.mem_of_getElem? (i := 16) rfl)) (mj_cons (mc_X7_hardest_X7_hardest_r3 _ (List.mem_of_getElem? (i := 17) rfl)) (mj_cons (mc_X7_hardest_X7_hardest_r1 _ (List.mem_of_getElem? (i := 3) rfl)) (mj_cons (mc_X7_hardest_X7_hardest_r3 _ (List.mem_of_getElem? (i := 18) rfl)) (mj_cons (mc_X7_hardest_X7_hardest_r3 _ (List.mem_of_getElem? (i := 19) rfl)) (mj_cons (mc_X7_hardest_X7_hardest_r3 _ (List.mem_of_getElem? (i := 20) rfl)) (mj_cons (mc_X7_hardest_X7_hardest_r3 _ (List.mem_of_getElem? (i := 21) rfl)) (mj_cons (mc_X7_hardest_X7_hardest_r3 _ (List.mem_of_getElem? (i := 22) rfl)) (mj_cons (mc_X7_hardest_X7_hardest_r3 _ (List.mem_of_getElem? (i := 23) rfl)) (mj_cons (mc_X7_hardest_X7_hardest_r4 _ (List.mem_of_getElem? (i := 0) rfl)) (mj_cons (mc_X7_hardest_X7_hardest_r4 _ (List.mem_of_getElem? (i := 1) rfl)) (mj_cons (mc_X7_hardest_X7_hardest_r4 _ (List.mem_of_getElem? (i := 2) rfl)) (mj_cons (mc_X7_hardest_X7_hardest_r4 _ (List.mem_of_getElem? (i := 3) rfl)) (mj_cons (mc_X7_hardest_X7_hardest_r4 _ (List.mem_of_getElem? (i := 4) rfl)) mj_nil)))))))))))))))))))))))) (mj_app (mj_cons (mc_X7_hardest_X7_hardest_r4 _ (List.mem_of_getElem? (i := 5) rfl)) (mj_cons (mc_X7_hardest_X7_hardest_r4 _ (List.mem_of_getElem? (i := 6) rfl)) (mj_cons (mc_X7_hardest_X7_hardest_r4 _ (List.mem_of_getElem? (i := 7) rfl)) (mj_cons (mc_X7_hardest_X7_hardest_r4 _ (List.mem_of_getElem? (i := 8) rfl)) (mj_cons (mc_X7_hardest_X7_hardest_r4 _ (List.mem_of_getElem? (i := 9) rfl)) (mj_cons (mc_X7_hardest_X7_hardest_r4 _ (List.mem_of_getElem? (i := 10) rfl)) (mj_cons (mc_X7_hardest_X7_hardest_r4 _ (List.mem_of_getElem? (i := 11) rfl)) (mj_cons (mc_X7_hardest_X7_hardest_r4 _ (List.mem_of_getElem? (i := 12) rfl)) (mj_cons (mc_X7_hardest_X7_hardest_r4 _ (List.mem_of_getElem? (i := 13) rfl)) (mj_cons (mc_X7_hardest_X7_hardest_r4 _ (List.mem_of_getElem? (i := 14) rfl)) (mj_cons (mc_X7_hardest_X7_hardest_r4 _ (List.mem_of_getElem? (i := 15) rfl)) (mj_cons (mc_X7_hardest_X7_hardest_r4 _ (List.mem_of_getElem? (i := 16) rfl)) (mj_cons (mc_X7_hardest_X7_hardest_r4 _ (List.mem_of_getElem? (i := 17) rfl)) (mj_cons (mc_X7_hardest_X7_hardest_r4 _ (List.mem_of_getElem? (i := 18) rfl)) (mj_cons (mc_X7_hardest_X7_hardest_r4 _ (List.mem_of_getElem? (i := 19) rfl)) (mj_cons (mc_X7_hardest_X7_hardest_r4 _ (List.mem_of_getElem? (i := 20) rfl)) (mj_cons (mc_X7_hardest_X7_hardest_r4 _ (List.mem_of_getElem? (i := 21) rfl)) (mj_cons (mc_X7_hardest_X7_hardest_r4 _ (List.mem_of_getElem? (i := 22) rfl)) (mj_cons (mc_X7_hardest_X7_hardest_r4 _ (List.mem_of_getElem? (i := 23) rfl)) (mj_cons (mc_X7_hardest_X7_hardest_r5 _ (List.mem_of_getElem? (i := 0) rfl)) (mj_cons (mc_X7_hardest_X7_hardest_r5 _ (List.mem_of_getElem? (i := 1) rfl)) (mj_cons (mc_X7_hardest_X7_hardest_r5 _ (List.mem_of_getElem? (i := 2) rfl)) (mj_cons (mc_X7_hardest_X7_hardest_r5 _ (List.mem_of_getElem? (i := 3) rfl)) (mj_cons (mc_X7_hardest_X7_hardest_r5 _ (List.mem_of_getElem? (i := 4) rfl)) mj_nil)))))))))))))))))))))))) (mj_cons (mc_X7_hardest_X7_hardest_r5 _ (List.mem_of_getElem? (i := 5) rfl)) (mj_cons (mc_X7_hardest_X7_hardest_r5 _ (List.mem_of_getElem? (i := 6) rfl)) (mj_cons (mc_X7_hardest_X7_hardest_r5 _ (List.mem_of_getElem? (i := 7) rfl)) (mj_cons (mc_X7_hardest_X7_hardest_r5 _ (List.mem_of_getElem? (i := 8) rfl)) (mj_cons (mc_X7_hardest_X7_hardest_r5 _ (List.mem_of_getElem? (i := 9) rfl)) (mj_cons (mc_X7_hardest_X7_hardest_r5 _ (List.mem_of_getElem? (i := 10) rfl)) mj_nil)))))))))) mc_X7_hardest_X70)) (by decide +kernel)
set_option maxRecDepth 20000 in
theorem gX7_hardest_X7_looksAtAll : GoodIn wsX7_hardest (wsV RX7 286 RX7 yX7_looksAtAll wsX7_looksAtAll) := goodIn_app (mj_good (mj_cons (mc_X7_hardest_X7_hardest_r1 _ (List.mem_of_getElem? (i := 4) rfl)) (mj_cons (mc_X7_hardest_X7_hardest_r1 _ (List.mem_of_getElem? (i := 5) rfl)) (mj_cons (mc_X7_hardest_X7_hardest_r1 _ (List.mem_of_getElem? (i := 6) rfl)) (mj_cons (mc_X7_hardest_X7_hardest_r1 _ (List.mem_of_getElem? (i := 7) rfl)) mj_nil)))) (by decide +kernel)) ggX7_hardest_X7_looksAtAll
set_option maxRecDepth 20000 in
theorem ggX7_hardest_X7_isFreedStand : GoodIn wsX7_hardest wsX7_isFreedStand := mj_good (mj_cons (mc_X7_hardest_X7_hardest_r5 _ (List.mem_of_getElem? (i := 14) rfl)) (mj_app (mj_cons (mc_X7_hardest_X7_hardest_r1 _ (List.mem_of_getElem? (i := 13) rfl)) (mj_cons (mc_X7_hardest_X7_hardest_r2 _ (List.mem_of_getElem? (i := 9) rfl)) (mj_cons (mc_X7_hardest_X7_hardest_r3 _ (List.mem_of_getElem? (i := 1) rfl)) (mj_cons (mc_X7_hardest_X7_hardest_r5 _ (List.mem_of_getElem? (i := 15) rfl)) mj_nil)))) mc_X7_hardest_X70)) (by decide +kernel)
set_option maxRecDepth 20000 in
theorem gX7_hardest_X7_isFreedStand : GoodIn wsX7_hardest (wsV RX7 283 RX7 yX7_isFreedStand wsX7_isFreedStand) := goodIn_app (mj_good (mj_cons (mc_X7_hardest_X7_hardest_r5 _ (List.mem_of_getElem? (i := 11) rfl)) (mj_cons (mc_X7_hardest_X7_hardest_r5 _ (List.mem_of_getElem? (i := 12) rfl)) (mj_cons (mc_X7_hardest_X7_hardest_r5 _ (List.mem_of_getElem? (i := 13) rfl)) (mj_cons (mc_X7_hardest_X7_hardest_r1 _ (List.mem_of_getElem? (i := 7) rfl)) mj_nil)))) (by decide +kernel)) ggX7_hardest_X7_isFreedStand
theorem dX7_hardest_0 : decode cX7_hardest 0 = .ok (.aload_n 0, 1) := by decide +kernel
theorem dX7_hardest_1 : decode cX7_hardest 1 = .ok (.iconst 0, 1) := by decide +kernel
theorem dX7_hardest_2 : decode cX7_hardest 2 = .ok (.invokevirtual 286, 3) := by decide +kernel
theorem dX7_hardest_5 : decode cX7_hardest 5 = .ok (.ifCond .ne 6, 3) := by decide +kernel
theorem dX7_hardest_8 : decode cX7_hardest 8 = .ok (.bipush (-10), 2) := by decide +kernel
theorem dX7_hardest_10 : decode cX7_hardest 10 = .ok (.ireturn, 1) := by decide +kernel
theorem dX7_hardest_11 : decode cX7_hardest 11 = .ok (.iconst 0, 1) := by decide +kernel
theorem dX7_hardest_12 : decode cX7_hardest 12 = .ok (.istore_n 1, 1) := by decide +kernel
theorem dX7_hardest_13 : decode cX7_hardest 13 = .ok (.iconst 0, 1) := by decide +kernel
theorem dX7_hardest_14 : decode cX7_hardest 14 = .ok (.istore_n 2, 1) := by decide +kernel
theorem dX7_hardest_15 : decode cX7_hardest 15 = .ok (.iload_n 2, 1) := by decide +kernel
theorem dX7_hardest_16 : decode cX7_hardest 16 = .ok (.aload_n 0, 1) := by decide +kernel
theorem dX7_hardest_17 : decode cX7_hardest 17 = .ok (.getfield 256, 3) := by decide +kernel
theorem dX7_hardest_20 : decode cX7_hardest 20 = .ok (.if_icmp .ge 45, 3) := by decide +kernel
theorem dX7_hardest_23 : decode cX7_hardest 23 = .ok (.aload_n 0, 1) := by decide +kernel
theorem dX7_hardest_24 : decode cX7_hardest 24 = .ok (.getfield 101, 3) := by decide +kernel
theorem dX7_hardest_27 : decode cX7_hardest 27 = .ok (.iload_n 2, 1) := by decide +kernel
theorem dX7_hardest_28 : decode cX7_hardest 28 = .ok (.aload_n 0, 1) := by decide +kernel
theorem dX7_hardest_29 : decode cX7_hardest 29 = .ok (.iload_n 2, 1) := by decide +kernel
theorem dX7_hardest_30 : decode cX7_hardest 30 = .ok (.invokevirtual 283, 3) := by decide +kernel
theorem dX7_hardest_33 : decode cX7_hardest 33 = .ok (.ifCond .eq 7, 3) := by decide +kernel
theorem dX7_hardest_36 : decode cX7_hardest 36 = .ok (.iconst 0, 1) := by decide +kernel
theorem dX7_hardest_37 : decode cX7_hardest 37 = .ok (.goto 4, 3) := by decide +kernel
theorem dX7_hardest_40 : decode cX7_hardest 40 = .ok (.iconst (-1), 1) := by decide +kernel
theorem dX7_hardest_41 : decode cX7_hardest 41 = .ok (.iastore, 1) := by decide +kernel
theorem dX7_hardest_42 : decode cX7_hardest 42 = .ok (.iload_n 1, 1) := by decide +kernel
theorem dX7_hardest_43 : decode cX7_hardest 43 = .ok (.aload_n 0, 1) := by decide +kernel
theorem dX7_hardest_44 : decode cX7_hardest 44 = .ok (.getfield 101, 3) := by decide +kernel
theorem dX7_hardest_47 : decode cX7_hardest 47 = .ok (.iload_n 2, 1) := by decide +kernel
theorem dX7_hardest_48 : decode cX7_hardest 48 = .ok (.iaload, 1) := by decide +kernel
theorem dX7_hardest_49 : decode cX7_hardest 49 = .ok (.ifCond .ge 7, 3) := by decide +kernel
theorem dX7_hardest_52 : decode cX7_hardest 52 = .ok (.iconst 1, 1) := by decide +kernel
theorem dX7_hardest_53 : decode cX7_hardest 53 = .ok (.goto 4, 3) := by decide +kernel
theorem dX7_hardest_56 : decode cX7_hardest 56 = .ok (.iconst 0, 1) := by decide +kernel
theorem dX7_hardest_57 : decode cX7_hardest 57 = .ok (.iadd, 1) := by decide +kernel
theorem dX7_hardest_58 : decode cX7_hardest 58 = .ok (.istore_n 1, 1) := by decide +kernel
theorem dX7_hardest_59 : decode cX7_hardest 59 = .ok (.iinc 2 1, 3) := by decide +kernel
theorem dX7_hardest_62 : decode cX7_hardest 62 = .ok (.goto (-47), 3) := by decide +kernel
theorem dX7_hardest_65 : decode cX7_hardest 65 = .ok (.iload_n 1, 1) := by decide +kernel
theorem dX7_hardest_66 : decode cX7_hardest 66 = .ok (.aload_n 0, 1) := by decide +kernel
theorem dX7_hardest_67 : decode cX7_hardest 67 = .ok (.getfield 256, 3) := by decide +kernel
theorem dX7_hardest_70 : decode cX7_hardest 70 = .ok (.if_icmp .ne 6, 3) := by decide +kernel
theorem dX7_hardest_73 : decode cX7_hardest 73 = .ok (.bipush (-11), 2) := by decide +kernel
theorem dX7_hardest_75 : decode cX7_hardest 75 = .ok (.ireturn, 1) := by decide +kernel
theorem dX7_hardest_76 : decode cX7_hardest 76 = .ok (.iconst 1, 1) := by decide +kernel
theorem dX7_hardest_77 : decode cX7_hardest 77 = .ok (.istore_n 2, 1) := by decide +kernel
theorem dX7_hardest_78 : decode cX7_hardest 78 = .ok (.iconst 1, 1) := by decide +kernel
theorem dX7_hardest_79 : decode cX7_hardest 79 = .ok (.istore_n 3, 1) := by decide +kernel
theorem dX7_hardest_80 : decode cX7_hardest 80 = .ok (.iload_n 2, 1) := by decide +kernel
theorem dX7_hardest_81 : decode cX7_hardest 81 = .ok (.ifCond .eq 132, 3) := by decide +kernel
theorem dX7_hardest_84 : decode cX7_hardest 84 = .ok (.iconst 0, 1) := by decide +kernel
theorem dX7_hardest_85 : decode cX7_hardest 85 = .ok (.istore_n 2, 1) := by decide +kernel
theorem dX7_hardest_86 : decode cX7_hardest 86 = .ok (.iconst 0, 1) := by decide +kernel
theorem dX7_hardest_87 : decode cX7_hardest 87 = .ok (.istore 4, 2) := by decide +kernel
theorem dX7_hardest_89 : decode cX7_hardest 89 = .ok (.iload 4, 2) := by decide +kernel
theorem dX7_hardest_91 : decode cX7_hardest 91 = .ok (.aload_n 0, 1) := by decide +kernel
theorem dX7_hardest_92 : decode cX7_hardest 92 = .ok (.getfield 256, 3) := by decide +kernel
theorem dX7_hardest_95 : decode cX7_hardest 95 = .ok (.if_icmp .ge 112, 3) := by decide +kernel
theorem dX7_hardest_98 : decode cX7_hardest 98 = .ok (.aload_n 0, 1) := by decide +kernel
theorem dX7_hardest_99 : decode cX7_hardest 99 = .ok (.getfield 101, 3) := by decide +kernel
theorem dX7_hardest_102 : decode cX7_hardest 102 = .ok (.iload 4, 2) := by decide +kernel
theorem dX7_hardest_104 : decode cX7_hardest 104 = .ok (.iaload, 1) := by decide +kernel
theorem dX7_hardest_105 : decode cX7_hardest 105 = .ok (.ifCond .lt 6, 3) := by decide +kernel
theorem dX7_hardest_108 : decode cX7_hardest 108 = .ok (.goto 93, 3) := by decide +kernel
theorem dX7_hardest_111 : decode cX7_hardest 111 = .ok (.iconst 0, 1) := by decide +kernel
theorem dX7_hardest_112 : decode cX7_hardest 112 = .ok (.istore 5, 2) := by decide +kernel
theorem dX7_hardest_114 : decode cX7_hardest 114 = .ok (.aload_n 0, 1) := by decide +kernel
theorem dX7_hardest_115 : decode cX7_hardest 115 = .ok (.getfield 104, 3) := by decide +kernel
theorem dX7_hardest_118 : decode cX7_hardest 118 = .ok (.iload 4, 2) := by decide +kernel
theorem dX7_hardest_120 : decode cX7_hardest 120 = .ok (.iaload, 1) := by decide +kernel
theorem dX7_hardest_121 : decode cX7_hardest 121 = .ok (.istore 6, 2) := by decide +kernel
theorem dX7_hardest_123 : decode cX7_hardest 123 = .ok (.iload 6, 2) := by decide +kernel
theorem dX7_hardest_125 : decode cX7_hardest 125 = .ok (.aload_n 0, 1) := by decide +kernel
theorem dX7_hardest_126 : decode cX7_hardest 126 = .ok (.getfield 104, 3) := by decide +kernel
theorem dX7_hardest_129 : decode cX7_hardest 129 = .ok (.iload 4, 2) := by decide +kernel
theorem dX7_hardest_131 : decode cX7_hardest 131 = .ok (.iconst 1, 1) := by decide +kernel
theorem dX7_hardest_132 : decode cX7_hardest 132 = .ok (.iadd, 1) := by decide +kernel
theorem dX7_hardest_133 : decode cX7_hardest 133 = .ok (.iaload, 1) := by decide +kernel
theorem dX7_hardest_134 : decode cX7_hardest 134 = .ok (.if_icmp .ge 39, 3) := by decide +kernel
theorem dX7_hardest_137 : decode cX7_hardest 137 = .ok (.iload 5, 2) := by decide +kernel
theorem dX7_hardest_139 : decode cX7_hardest 139 = .ok (.ifCond .ne 34, 3) := by decide +kernel
theorem dX7_hardest_142 : decode cX7_hardest 142 = .ok (.aload_n 0, 1) := by decide +kernel
theorem dX7_hardest_143 : decode cX7_hardest 143 = .ok (.getfield 101, 3) := by decide +kernel
theorem dX7_hardest_146 : decode cX7_hardest 146 = .ok (.aload_n 0, 1) := by decide +kernel
theorem dX7_hardest_147 : decode cX7_hardest 147 = .ok (.getfield 108, 3) := by decide +kernel
theorem dX7_hardest_150 : decode cX7_hardest 150 = .ok (.iload 6, 2) := by decide +kernel
theorem dX7_hardest_152 : decode cX7_hardest 152 = .ok (.iaload, 1) := by decide +kernel
theorem dX7_hardest_153 : decode cX7_hardest 153 = .ok (.iaload, 1) := by decide +kernel
theorem dX7_hardest_154 : decode cX7_hardest 154 = .ok (.iload_n 3, 1) := by decide +kernel
theorem dX7_hardest_155 : decode cX7_hardest 155 = .ok (.iconst 1, 1) := by decide +kernel
theorem dX7_hardest_156 : decode cX7_hardest 156 = .ok (.isub, 1) := by decide +kernel
theorem dX7_hardest_157 : decode cX7_hardest 157 = .ok (.if_icmp .ne 7, 3) := by decide +kernel
theorem dX7_hardest_160 : decode cX7_hardest 160 = .ok (.iconst 1, 1) := by decide +kernel
theorem dX7_hardest_161 : decode cX7_hardest 161 = .ok (.goto 4, 3) := by decide +kernel
theorem dX7_hardest_164 : decode cX7_hardest 164 = .ok (.iconst 0, 1) := by decide +kernel
theorem dX7_hardest_165 : decode cX7_hardest 165 = .ok (.istore 5, 2) := by decide +kernel
theorem dX7_hardest_167 : decode cX7_hardest 167 = .ok (.iinc 6 1, 3) := by decide +kernel
theorem dX7_hardest_170 : decode cX7_hardest 170 = .ok (.goto (-47), 3) := by decide +kernel
theorem dX7_hardest_173 : decode cX7_hardest 173 = .ok (.iload 5, 2) := by decide +kernel
theorem dX7_hardest_175 : decode cX7_hardest 175 = .ok (.ifCond .eq 11, 3) := by decide +kernel
theorem dX7_hardest_178 : decode cX7_hardest 178 = .ok (.aload_n 0, 1) := by decide +kernel
theorem dX7_hardest_179 : decode cX7_hardest 179 = .ok (.getfield 101, 3) := by decide +kernel
theorem dX7_hardest_182 : decode cX7_hardest 182 = .ok (.iload 4, 2) := by decide +kernel
theorem dX7_hardest_184 : decode cX7_hardest 184 = .ok (.iload_n 3, 1) := by decide +kernel
theorem dX7_hardest_185 : decode cX7_hardest 185 = .ok (.iastore, 1) := by decide +kernel
theorem dX7_hardest_186 : decode cX7_hardest 186 = .ok (.iload_n 2, 1) := by decide +kernel
theorem dX7_hardest_187 : decode cX7_hardest 187 = .ok (.ifCond .ne 8, 3) := by decide +kernel
theorem dX7_hardest_190 : decode cX7_hardest 190 = .ok (.iload 5, 2) := by decide +kernel
theorem dX7_hardest_192 : decode cX7_hardest 192 = .ok (.ifCond .eq 7, 3) := by decide +kernel
theorem dX7_hardest_195 : decode cX7_hardest 195 = .ok (.iconst 1, 1) := by decide +kernel
theorem dX7_hardest_196 : decode cX7_hardest 196 = .ok (.goto 4, 3) := by decide +kernel
theorem dX7_hardest_199 : decode cX7_hardest 199 = .ok (.iconst 0, 1) := by decide +kernel
theorem dX7_hardest_200 : decode cX7_hardest 200 = .ok (.istore_n 2, 1) := by decide +kernel
theorem dX7_hardest_201 : decode cX7_hardest 201 = .ok (.iinc 4 1, 3) := by decide +kernel
theorem dX7_hardest_204 : decode cX7_hardest 204 = .ok (.goto (-115), 3) := by decide +kernel
theorem dX7_hardest_207 : decode cX7_hardest 207 = .ok (.iinc 3 1, 3) := by decide +kernel
theorem dX7_hardest_210 : decode cX7_hardest 210 = .ok (.goto (-130), 3) := by decide +kernel
theorem dX7_hardest_213 : decode cX7_hardest 213 = .ok (.iconst 0, 1) := by decide +kernel
theorem dX7_hardest_214 : decode cX7_hardest 214 = .ok (.istore_n 3, 1) := by decide +kernel
theorem dX7_hardest_215 : decode cX7_hardest 215 = .ok (.iconst 1, 1) := by decide +kernel
theorem dX7_hardest_216 : decode cX7_hardest 216 = .ok (.istore 4, 2) := by decide +kernel
theorem dX7_hardest_218 : decode cX7_hardest 218 = .ok (.iload 4, 2) := by decide +kernel
theorem dX7_hardest_220 : decode cX7_hardest 220 = .ok (.aload_n 0, 1) := by decide +kernel
theorem dX7_hardest_221 : decode cX7_hardest 221 = .ok (.getfield 256, 3) := by decide +kernel
theorem dX7_hardest_224 : decode cX7_hardest 224 = .ok (.if_icmp .ge 28, 3) := by decide +kernel
theorem dX7_hardest_227 : decode cX7_hardest 227 = .ok (.aload_n 0, 1) := by decide +kernel
theorem dX7_hardest_228 : decode cX7_hardest 228 = .ok (.getfield 101, 3) := by decide +kernel
theorem dX7_hardest_231 : decode cX7_hardest 231 = .ok (.iload 4, 2) := by decide +kernel
theorem dX7_hardest_233 : decode cX7_hardest 233 = .ok (.iaload, 1) := by decide +kernel
theorem dX7_hardest_234 : decode cX7_hardest 234 = .ok (.aload_n 0, 1) := by decide +kernel
theorem dX7_hardest_235 : decode cX7_hardest 235 = .ok (.getfield 101, 3) := by decide +kernel
theorem dX7_hardest_238 : decode cX7_hardest 238 = .ok (.iload_n 3, 1) := by decide +kernel
theorem dX7_hardest_239 : decode cX7_hardest 239 = .ok (.iaload, 1) := by decide +kernel
theorem dX7_hardest_240 : decode cX7_hardest 240 = .ok (.if_icmp .le 6, 3) := by decide +kernel
theorem dX7_hardest_243 : decode cX7_hardest 243 = .ok (.iload 4, 2) := by decide +kernel
theorem dX7_hardest_245 : decode cX7_hardest 245 = .ok (.istore_n 3, 1) := by decide +kernel
theorem dX7_hardest_246 : decode cX7_hardest 246 = .ok (.iinc 4 1, 3) := by decide +kernel
theorem dX7_hardest_249 : decode cX7_hardest 249 = .ok (.goto (-31), 3) := by decide +kernel
theorem dX7_hardest_252 : decode cX7_hardest 252 = .ok (.iload_n 3, 1) := by decide +kernel
theorem dX7_hardest_253 : decode cX7_hardest 253 = .ok (.ireturn, 1) := by decide +kernel
set_option maxRecDepth 20000 in
theorem mc_X7_far_X7_far_r1 : mjIn wsX7_far wsX7_far_r1 := fun w h => (List.mem_cons_of_mem _ (List.mem_append_left _ (List.mem_append_left _ h)))
set_option maxRecDepth 20000 in
theorem mc_X7_far_X70 : mjIn wsX7_far wsX70 := fun w h => (List.mem_cons_of_mem _ (List.mem_append_right _ h))
set_option maxRecDepth 20000 in
theorem ggX7_far_X7_refuse : GoodIn wsX7_far wsX7_refuse := mj_good (mj_cons (mc_X7_far_X7_far_r1 _ (List.mem_of_getElem? (i := 8) rfl)) (mj_app (mj_cons (mc_X7_far_X7_far_r1 _ (List.mem_of_getElem? (i := 1) rfl)) mj_nil) mc_X7_far_X70)) (by decide +kernel)
set_option maxRecDepth 20000 in
theorem gX7_far_X7_refuse : GoodIn wsX7_far (wsV RX7 290 RX7 yX7_refuse wsX7_refuse) := goodIn_app (mj_good (mj_cons (mc_X7_far_X7_far_r1 _ (List.mem_of_getElem? (i := 4) rfl)) (mj_cons (mc_X7_far_X7_far_r1 _ (List.mem_of_getElem? (i := 5) rfl)) (mj_cons (mc_X7_far_X7_far_r1 _ (List.mem_of_getElem? (i := 6) rfl)) (mj_cons (mc_X7_far_X7_far_r1 _ (List.mem_of_getElem? (i := 7) rfl)) mj_nil)))) (by decide +kernel)) ggX7_far_X7_refuse
set_option maxRecDepth 20000 in
theorem mc_X7_far_X7_far_r2 : mjIn wsX7_far wsX7_far_r2 := fun w h => (List.mem_cons_of_mem _ (List.mem_append_left _ (List.mem_append_right _ (List.mem_append_left _ h))))
set_option maxRecDepth 20000 in
theorem mc_X7_far_X7_far_r3 : mjIn wsX7_far wsX7_far_r3 := fun w h => (List.mem_cons_of_mem _ (List.mem_append_left _ (List.mem_append_right _ (List.mem_append_right _ (List.mem_append_left _ h)))))
set_option maxRecDepth 20000 in
theorem mc_X7_far_X7_far_r4 : mjIn wsX7_far wsX7_far_r4 := fun w h => (List.mem_cons_of_mem _ (List.mem_append_left _ (List.mem_append_right _ (List.mem_append_right _ (List.mem_append_right _ (List.mem_append_left _ h))))))
set_option maxRecDepth 20000 in
theorem mc_X7_far_X7_far_r5 : mjIn wsX7_far wsX7_far_r5 := fun w h => (List.mem_cons_of_mem _ (List.mem_append_left _ (List.mem_append_right _ (List.mem_append_right _ (List.mem_append_right _ (List.mem_append_right _ (List.mem_append_left _ h)))))))
set_option maxRecDepth 20000 in
theorem mc_X7_far_X7_far_r6 : mjIn wsX7_far wsX7_far_r6 := fun w h => (List.mem_cons_of_mem _ (List.mem_append_left _ (List.mem_append_right _ (List.mem_append_right _ (List.mem_append_right _ (List.mem_append_right _ (List.mem_append_right _ h)))))))
set_option maxRecDepth 20000 in
theorem ggX7_far_X7_hardest : GoodIn wsX7_far wsX7_hardest := mj_good (mj_cons (mc_X7_far_X7_far_r1 _ (List.mem_of_getElem? (i := 12) rfl)) (mj_app (mj_app (mj_cons (mc_X7_far_X7_far_r1 _ (List.mem_of_getElem? (i := 13) rfl)) (mj_cons (mc_X7_far_X7_far_r1 _ (List.mem_of_getElem? (i := 3) rfl)) (mj_cons (mc_X7_far_X7_far_r1 _ (List.mem_of_getElem? (i := 14) rfl)) (mj_cons (mc_X7_far_X7_far_r1 _ (List.mem_of_getElem? (i := 15) rfl)) (mj_cons (mc_X7_far_X7_far_r1 _ (List.mem_of_getElem? (i := 16) rfl)) (mj_cons (mc_X7_far_X7_far_r1 _ (List.mem_of_getElem? (i := 17) rfl)) (mj_cons (mc_X7_far_X7_far_r1 _ (List.mem_of_getElem? (i := 18) rfl)) (mj_cons (mc_X7_far_X7_far_r1 _ (List.mem_of_getElem? (i := 7) rfl)) (mj_cons (mc_X7_far_X7_far_r1 _ (List.mem_of_getElem? (i := 19) rfl)) (mj_cons (mc_X7_far_X7_far_r1 _ (List.mem_of_getElem? (i := 20) rfl)) (mj_cons (mc_X7_far_X7_far_r1 _ (List.mem_of_getElem? (i := 21) rfl)) (mj_cons (mc_X7_far_X7_far_r1 _ (List.mem_of_getElem? (i := 22) rfl)) (mj_cons (mc_X7_far_X7_far_r1 _ (List.mem_of_getElem? (i := 23) rfl)) (mj_cons (mc_X7_far_X7_far_r2 _ (List.mem_of_getElem? (i := 0) rfl)) (mj_cons (mc_X7_far_X7_far_r2 _ (List.mem_of_getElem? (i := 1) rfl)) (mj_cons (mc_X7_far_X7_far_r2 _ (List.mem_of_getElem? (i := 2) rfl)) (mj_cons (mc_X7_far_X7_far_r2 _ (List.mem_of_getElem? (i := 3) rfl)) (mj_cons (mc_X7_far_X7_far_r2 _ (List.mem_of_getElem? (i := 4) rfl)) (mj_cons (mc_X7_far_X7_far_r2 _ (List.mem_of_getElem? (i := 5) rfl)) (mj_cons (mc_X7_far_X7_far_r2 _ (List.mem_of_getElem? (i := 6) rfl)) (mj_cons (mc_X7_far_X7_far_r2 _ (List.mem_of_getElem? (i := 7) rfl)) (mj_cons (mc_X7_far_X7_far_r2 _ (List.mem_of_getElem? (i := 8) rfl)) (mj_cons (mc_X7_far_X7_far_r2 _ (List.mem_of_getElem? (i := 9) rfl)) (mj_cons (mc_X7_far_X7_far_r2 _ (List.mem_of_getElem? (i := 10) rfl)) mj_nil)))))))))))))))))))))))) (mj_app (mj_cons (mc_X7_far_X7_far_r2 _ (List.mem_of_getElem? (i := 11) rfl)) (mj_cons (mc_X7_far_X7_far_r2 _ (List.mem_of_getElem? (i := 12) rfl)) (mj_cons (mc_X7_far_X7_far_r2 _ (List.mem_of_getElem? (i := 13) rfl)) (mj_cons (mc_X7_far_X7_far_r2 _ (List.mem_of_getElem? (i := 14) rfl)) (mj_cons (mc_X7_far_X7_far_r2 _ (List.mem_of_getElem? (i := 15) rfl)) (mj_cons (mc_X7_far_X7_far_r2 _ (List.mem_of_getElem? (i := 16) rfl)) (mj_cons (mc_X7_far_X7_far_r2 _ (List.mem_of_getElem? (i := 17) rfl)) (mj_cons (mc_X7_far_X7_far_r2 _ (List.mem_of_getElem? (i := 18) rfl)) (mj_cons (mc_X7_far_X7_far_r2 _ (List.mem_of_getElem? (i := 19) rfl)) (mj_cons (mc_X7_far_X7_far_r2 _ (List.mem_of_getElem? (i := 20) rfl)) (mj_cons (mc_X7_far_X7_far_r2 _ (List.mem_of_getElem? (i := 21) rfl)) (mj_cons (mc_X7_far_X7_far_r2 _ (List.mem_of_getElem? (i := 22) rfl)) (mj_cons (mc_X7_far_X7_far_r2 _ (List.mem_of_getElem? (i := 23) rfl)) (mj_cons (mc_X7_far_X7_far_r3 _ (List.mem_of_getElem? (i := 0) rfl)) (mj_cons (mc_X7_far_X7_far_r3 _ (List.mem_of_getElem? (i := 1) rfl)) (mj_cons (mc_X7_far_X7_far_r3 _ (List.mem_of_getElem? (i := 2) rfl)) (mj_cons (mc_X7_far_X7_far_r3 _ (List.mem_of_getElem? (i := 3) rfl)) (mj_cons (mc_X7_far_X7_far_r3 _ (List.mem_of_getElem? (i := 4) rfl)) (mj_cons (mc_X7_far_X7_far_r3 _ (List.mem_of_getElem? (i := 5) rfl)) (mj_cons (mc_X7_far_X7_far_r3 _ (List.mem_of_getElem? (i := 6) rfl)) (mj_cons (mc_X7_far_X7_far_r3 _ (List.mem_of_getElem? (i := 7) rfl)) (mj_cons (mc_X7_far_X7_far_r3 _ (List.mem_of_getElem? (i := 8) rfl)) (mj_cons (mc_X7_far_X7_far_r3 _ (List.mem_of_getElem? (i := 9) rfl)) (mj_cons (mc_X7_far_X7_far_r3 _ (List.mem_of_getElem? (i := 10) rfl)) mj_nil)))))))))))))))))))))))) (mj_app (mj_cons (mc_X7_far_X7_far_r3 _ (List.mem_of_getElem? (i := 11) rfl)) (mj_cons (mc_X7_far_X7_far_r3 _ (List.mem_of_getElem? (i := 12) rfl)) (mj_cons (mc_X7_far_X7_far_r3 _ (List.mem_of_getElem? (i := 13) rfl)) (mj_cons (mc_X7_far_X7_far_r3 _ (List.mem_of_getElem? (i := 14) rfl)) (mj_cons (mc_X7_far_X7_far_r3 _ (List.mem_of_getElem? (i := 15) rfl)) (mj_cons (mc_X7_far_X7_far_r3 _ (List.mem_of_getElem? (i := 16) rfl)) (mj_cons (mc_X7_far_X7_far_r3 _ (List.mem_of_getElem? (i := 17) rfl)) (mj_cons (mc_X7_far_X7_far_r3 _ (List.mem_of_getElem? (i := 18) rfl)) (mj_cons (mc_X7_far_X7_far_r3 _ (List.mem_of_getElem? (i := 19) rfl)) (mj_cons (mc_X7_far_X7_far_r3 _ (List.mem_of_getElem? (i := 20) rfl)) (mj_cons (mc_X7_far_X7_far_r3 _ (List.mem_of_getElem? (i := 21) rfl)) (mj_cons (mc_X7_far_X7_far_r3 _ (List.mem_of_getElem? (i := 22) rfl)) (mj_cons (mc_X7_far_X7_far_r3 _ (List.mem_of_getElem? (i := 23) rfl)) (mj_cons (mc_X7_far_X7_far_r4 _ (List.mem_of_getElem? (i := 0) rfl)) (mj_cons (mc_X7_far_X7_far_r4 _ (List.mem_of_getElem? (i := 1) rfl)) (mj_cons (mc_X7_far_X7_far_r4 _ (List.mem_of_getElem? (i := 2) rfl)) (mj_cons (mc_X7_far_X7_far_r4 _ (List.mem_of_getElem? (i := 3) rfl)) (mj_cons (mc_X7_far_X7_far_r4 _ (List.mem_of_getElem? (i := 4) rfl)) (mj_cons (mc_X7_far_X7_far_r4 _ (List.mem_of_getElem? (i := 5) rfl)) (mj_cons (mc_X7_far_X7_far_r4 _ (List.mem_of_getElem? (i := 6) rfl)) (mj_cons (mc_X7_far_X7_far_r4 _ (List.mem_of_getElem? (i := 7) rfl)) (mj_cons (mc_X7_far_X7_far_r4 _ (List.mem_of_getElem? (i := 8) rfl)) (mj_cons (mc_X7_far_X7_far_r4 _ (List.mem_of_getElem? (i := 9) rfl)) (mj_cons (mc_X7_far_X7_far_r4 _ (List.mem_of_getElem? (i := 10) rfl)) mj_nil)))))))))))))))))))))))) (mj_app (mj_cons (mc_X7_far_X7_far_r4 _ (List.mem_of_getElem? (i := 11) rfl)) (mj_cons (mc_X7_far_X7_far_r4 _ (List.mem_of_getElem? (i := 12) rfl)) (mj_cons (mc_X7_far_X7_far_r4 _ (List.mem_of_getElem? (i := 13) rfl)) (mj_cons (mc_X7_far_X7_far_r4 _ (List.mem_of_getElem? (i := 14) rfl)) (mj_cons (mc_X7_far_X7_far_r4 _ (List.mem_of_getElem? (i := 15) rfl)) (mj_cons (mc_X7_far_X7_far_r4 _ (List.mem_of_getElem? (i := 16) rfl)) (mj_cons (mc_X7_far_X7_far_r4 _ (List.mem_of_getElem? (i := 17) rfl)) (mj_cons (mc_X7_far_X7_far_r4 _ (List.mem_of_getElem? (i := 18) rfl)) (mj_cons (mc_X7_far_X7_far_r4 _ (List.mem_of_getElem? (i := 19) rfl)) (mj_cons (mc_X7_far_X7_far_r4 _ (List.mem_of_getElem? (i := 20) rfl)) (mj_cons (mc_X7_far_X7_far_r4 _ (List.mem_of_getElem? (i := 21) rfl)) (mj_cons (mc_X7_far_X7_far_r4 _ (List.mem_of_getElem? (i := 22) rfl)) (mj_cons (mc_X7_far_X7_far_r4 _ (List.mem_of_getElem? (i := 23) rfl)) (mj_cons (mc_X7_far_X7_far_r5 _ (List.mem_of_getElem? (i := 0) rfl)) (mj_cons (mc_X7_far_X7_far_r5 _ (List.mem_of_getElem? (i := 1) rfl)) (mj_cons (mc_X7_far_X7_far_r5 _ (List.mem_of_getElem? (i := 2) rfl)) (mj_cons (mc_X7_far_X7_far_r5 _ (List.mem_of_getElem? (i := 3) rfl)) (mj_cons (mc_X7_far_X7_far_r5 _ (List.mem_of_getElem? (i := 4) rfl)) (mj_cons (mc_X7_far_X7_far_r5 _ (List.mem_of_getElem? (i := 5) rfl)) (mj_cons (mc_X7_far_X7_far_r5 _ (List.mem_of_getElem? (i := 6) rfl)) (mj_cons (mc_X7_far_X7_far_r5 _ (List.mem_of_getElem? (i := 7) rfl)) (mj_cons (mc_X7_far_X7_far_r5 _ (List.mem_of_getElem? (i := 8) rfl)) (mj_cons (mc_X7_far_X7_far_r5 _ (List.mem_of_getElem? (i := 9) rfl)) (mj_cons (mc_X7_far_X7_far_r5 _ (List.mem_of_getElem? (i := 10) rfl)) mj_nil)))))))))))))))))))))))) (mj_cons (mc_X7_far_X7_far_r5 _ (List.mem_of_getElem? (i := 11) rfl)) (mj_cons (mc_X7_far_X7_far_r5 _ (List.mem_of_getElem? (i := 12) rfl)) (mj_cons (mc_X7_far_X7_far_r5 _ (List.mem_of_getElem? (i := 13) rfl)) (mj_cons (mc_X7_far_X7_far_r5 _ (List.mem_of_getElem? (i := 14) rfl)) (mj_cons (mc_X7_far_X7_far_r5 _ (List.mem_of_getElem? (i := 15) rfl)) (mj_cons (mc_X7_far_X7_far_r5 _ (List.mem_of_getElem? (i := 16) rfl)) (mj_cons (mc_X7_far_X7_far_r5 _ (List.mem_of_getElem? (i := 17) rfl)) (mj_cons (mc_X7_far_X7_far_r5 _ (List.mem_of_getElem? (i := 18) rfl)) (mj_cons (mc_X7_far_X7_far_r5 _ (List.mem_of_getElem? (i := 19) rfl)) (mj_cons (mc_X7_far_X7_far_r5 _ (List.mem_of_getElem? (i := 20) rfl)) (mj_cons (mc_X7_far_X7_far_r5 _ (List.mem_of_getElem? (i := 21) rfl)) (mj_cons (mc_X7_far_X7_far_r5 _ (List.mem_of_getElem? (i := 22) rfl)) (mj_cons (mc_X7_far_X7_far_r5 _ (List.mem_of_getElem? (i := 23) rfl)) (mj_cons (mc_X7_far_X7_far_r6 _ (List.mem_of_getElem? (i := 0) rfl)) (mj_cons (mc_X7_far_X7_far_r6 _ (List.mem_of_getElem? (i := 1) rfl)) (mj_cons (mc_X7_far_X7_far_r6 _ (List.mem_of_getElem? (i := 2) rfl)) mj_nil)))))))))))))))))))) mc_X7_far_X70)) (by decide +kernel)
set_option maxRecDepth 20000 in
theorem gX7_far_X7_hardest : GoodIn wsX7_far (wsV RX7 324 RX7 yX7_hardest wsX7_hardest) := goodIn_app (mj_good (mj_cons (mc_X7_far_X7_far_r1 _ (List.mem_of_getElem? (i := 9) rfl)) (mj_cons (mc_X7_far_X7_far_r1 _ (List.mem_of_getElem? (i := 10) rfl)) (mj_cons (mc_X7_far_X7_far_r1 _ (List.mem_of_getElem? (i := 11) rfl)) (mj_cons (mc_X7_far_X7_far_r1 _ (List.mem_of_getElem? (i := 7) rfl)) mj_nil)))) (by decide +kernel)) ggX7_far_X7_hardest
theorem dX7_far_0 : decode cX7_far 0 = .ok (.aload_n 0, 1) := by decide +kernel
theorem dX7_far_1 : decode cX7_far 1 = .ok (.iconst 0, 1) := by decide +kernel
theorem dX7_far_2 : decode cX7_far 2 = .ok (.putfield 184, 3) := by decide +kernel
theorem dX7_far_5 : decode cX7_far 5 = .ok (.aload_n 0, 1) := by decide +kernel
theorem dX7_far_6 : decode cX7_far 6 = .ok (.iconst 0, 1) := by decide +kernel
theorem dX7_far_7 : decode cX7_far 7 = .ok (.putfield 187, 3) := by decide +kernel
theorem dX7_far_10 : decode cX7_far 10 = .ok (.aload_n 0, 1) := by decide +kernel
theorem dX7_far_11 : decode cX7_far 11 = .ok (.getfield 303, 3) := by decide +kernel
theorem dX7_far_14 : decode cX7_far 14 = .ok (.ifCond .ne 9, 3) := by decide +kernel
theorem dX7_far_17 : decode cX7_far 17 = .ok (.aload_n 0, 1) := by decide +kernel
theorem dX7_far_18 : decode cX7_far 18 = .ok (.iconst 1, 1) := by decide +kernel
theorem dX7_far_19 : decode cX7_far 19 = .ok (.invokevirtual 290, 3) := by decide +kernel
theorem dX7_far_22 : decode cX7_far 22 = .ok (.ireturn, 1) := by decide +kernel
theorem dX7_far_23 : decode cX7_far 23 = .ok (.aload_n 0, 1) := by decide +kernel
theorem dX7_far_24 : decode cX7_far 24 = .ok (.invokevirtual 324, 3) := by decide +kernel
theorem dX7_far_27 : decode cX7_far 27 = .ok (.istore_n 1, 1) := by decide +kernel
theorem dX7_far_28 : decode cX7_far 28 = .ok (.iload_n 1, 1) := by decide +kernel
theorem dX7_far_29 : decode cX7_far 29 = .ok (.ifCond .ge 12, 3) := by decide +kernel
theorem dX7_far_32 : decode cX7_far 32 = .ok (.aload_n 0, 1) := by decide +kernel
theorem dX7_far_33 : decode cX7_far 33 = .ok (.iload_n 1, 1) := by decide +kernel
theorem dX7_far_34 : decode cX7_far 34 = .ok (.ineg, 1) := by decide +kernel
theorem dX7_far_35 : decode cX7_far 35 = .ok (.invokevirtual 290, 3) := by decide +kernel
theorem dX7_far_38 : decode cX7_far 38 = .ok (.goto 9, 3) := by decide +kernel
theorem dX7_far_41 : decode cX7_far 41 = .ok (.aload_n 0, 1) := by decide +kernel
theorem dX7_far_42 : decode cX7_far 42 = .ok (.getfield 101, 3) := by decide +kernel
theorem dX7_far_45 : decode cX7_far 45 = .ok (.iload_n 1, 1) := by decide +kernel
theorem dX7_far_46 : decode cX7_far 46 = .ok (.iaload, 1) := by decide +kernel
theorem dX7_far_47 : decode cX7_far 47 = .ok (.ireturn, 1) := by decide +kernel
set_option maxRecDepth 20000 in
theorem mc_X7_go_X7_go_r1 : mjIn wsX7_go wsX7_go_r1 := fun w h => (List.mem_cons_of_mem _ (List.mem_append_left _ (List.mem_append_left _ h)))
set_option maxRecDepth 20000 in
theorem mc_X7_go_X70 : mjIn wsX7_go wsX70 := fun w h => (List.mem_cons_of_mem _ (List.mem_append_right _ h))
set_option maxRecDepth 20000 in
theorem ggX7_go_X7_no : GoodIn wsX7_go wsX7_no := mj_good (mj_cons (mc_X7_go_X7_go_r1 _ (List.mem_of_getElem? (i := 10) rfl)) (mj_app (mj_cons (mc_X7_go_X7_go_r1 _ (List.mem_of_getElem? (i := 1) rfl)) mj_nil) mc_X7_go_X70)) (by decide +kernel)
set_option maxRecDepth 20000 in
theorem gX7_go_X7_no : GoodIn wsX7_go (wsV RX7 327 RX7 yX7_no wsX7_no) := goodIn_app (mj_good (mj_cons (mc_X7_go_X7_go_r1 _ (List.mem_of_getElem? (i := 6) rfl)) (mj_cons (mc_X7_go_X7_go_r1 _ (List.mem_of_getElem? (i := 7) rfl)) (mj_cons (mc_X7_go_X7_go_r1 _ (List.mem_of_getElem? (i := 8) rfl)) (mj_cons (mc_X7_go_X7_go_r1 _ (List.mem_of_getElem? (i := 9) rfl)) mj_nil)))) (by decide +kernel)) ggX7_go_X7_no
set_option maxRecDepth 20000 in
theorem mc_X7_go_X7_go_r2 : mjIn wsX7_go wsX7_go_r2 := fun w h => (List.mem_cons_of_mem _ (List.mem_append_left _ (List.mem_append_right _ (List.mem_append_left _ h))))
set_option maxRecDepth 20000 in
theorem mc_X7_go_X7_go_r3 : mjIn wsX7_go wsX7_go_r3 := fun w h => (List.mem_cons_of_mem _ (List.mem_append_left _ (List.mem_append_right _ (List.mem_append_right _ (List.mem_append_left _ h)))))
set_option maxRecDepth 20000 in
theorem mc_X7_go_X7_go_r4 : mjIn wsX7_go wsX7_go_r4 := fun w h => (List.mem_cons_of_mem _ (List.mem_append_left _ (List.mem_append_right _ (List.mem_append_right _ (List.mem_append_right _ (List.mem_append_left _ h))))))
set_option maxRecDepth 20000 in
theorem mc_X7_go_X7_go_r5 : mjIn wsX7_go wsX7_go_r5 := fun w h => (List.mem_cons_of_mem _ (List.mem_append_left _ (List.mem_append_right _ (List.mem_append_right _ (List.mem_append_right _ (List.mem_append_right _ (List.mem_append_left _ h)))))))
set_option maxRecDepth 20000 in
theorem mc_X7_go_X7_go_r6 : mjIn wsX7_go wsX7_go_r6 := fun w h => (List.mem_cons_of_mem _ (List.mem_append_left _ (List.mem_append_right _ (List.mem_append_right _ (List.mem_append_right _ (List.mem_append_right _ (List.mem_append_right _ h)))))))
set_option maxRecDepth 20000 in
theorem ggX7_go_X7_hardest : GoodIn wsX7_go wsX7_hardest := mj_good (mj_cons (mc_X7_go_X7_go_r1 _ (List.mem_of_getElem? (i := 14) rfl)) (mj_app (mj_app (mj_cons (mc_X7_go_X7_go_r1 _ (List.mem_of_getElem? (i := 15) rfl)) (mj_cons (mc_X7_go_X7_go_r1 _ (List.mem_of_getElem? (i := 16) rfl)) (mj_cons (mc_X7_go_X7_go_r1 _ (List.mem_of_getElem? (i := 17) rfl)) (mj_cons (mc_X7_go_X7_go_r1 _ (List.mem_of_getElem? (i := 18) rfl)) (mj_cons (mc_X7_go_X7_go_r1 _ (List.mem_of_getElem? (i := 19) rfl)) (mj_cons (mc_X7_go_X7_go_r1 _ (List.mem_of_getElem? (i := 20) rfl)) (mj_cons (mc_X7_go_X7_go_r1 _ (List.mem_of_getElem? (i := 21) rfl)) (mj_cons (mc_X7_go_X7_go_r1 _ (List.mem_of_getElem? (i := 9) rfl)) (mj_cons (mc_X7_go_X7_go_r1 _ (List.mem_of_getElem? (i := 22) rfl)) (mj_cons (mc_X7_go_X7_go_r1 _ (List.mem_of_getElem? (i := 23) rfl)) (mj_cons (mc_X7_go_X7_go_r2 _ (List.mem_of_getElem? (i := 0) rfl)) (mj_cons (mc_X7_go_X7_go_r2 _ (List.mem_of_getElem? (i := 1) rfl)) (mj_cons (mc_X7_go_X7_go_r2 _ (List.mem_of_getElem? (i := 2) rfl)) (mj_cons (mc_X7_go_X7_go_r1 _ (List.mem_of_getElem? (i := 3) rfl)) (mj_cons (mc_X7_go_X7_go_r2 _ (List.mem_of_getElem? (i := 3) rfl)) (mj_cons (mc_X7_go_X7_go_r2 _ (List.mem_of_getElem? (i := 4) rfl)) (mj_cons (mc_X7_go_X7_go_r2 _ (List.mem_of_getElem? (i := 5) rfl)) (mj_cons (mc_X7_go_X7_go_r2 _ (List.mem_of_getElem? (i := 6) rfl)) (mj_cons (mc_X7_go_X7_go_r2 _ (List.mem_of_getElem? (i := 7) rfl)) (mj_cons (mc_X7_go_X7_go_r1 _ (List.mem_of_getElem? (i := 4) rfl)) (mj_cons (mc_X7_go_X7_go_r2 _ (List.mem_of_getElem? (i := 8) rfl)) (mj_cons (mc_X7_go_X7_go_r2 _ (List.mem_of_getElem? (i := 9) rfl)) (mj_cons (mc_X7_go_X7_go_r2 _ (List.mem_of_getElem? (i := 10) rfl)) (mj_cons (mc_X7_go_X7_go_r2 _ (List.mem_of_getElem? (i := 11) rfl)) mj_nil)))))))))))))))))))))))) (mj_app (mj_cons (mc_X7_go_X7_go_r2 _ (List.mem_of_getElem? (i := 12) rfl)) (mj_cons (mc_X7_go_X7_go_r2 _ (List.mem_of_getElem? (i := 13) rfl)) (mj_cons (mc_X7_go_X7_go_r2 _ (List.mem_of_getElem? (i := 14) rfl)) (mj_cons (mc_X7_go_X7_go_r2 _ (List.mem_of_getElem? (i := 15) rfl)) (mj_cons (mc_X7_go_X7_go_r2 _ (List.mem_of_getElem? (i := 16) rfl)) (mj_cons (mc_X7_go_X7_go_r2 _ (List.mem_of_getElem? (i := 17) rfl)) (mj_cons (mc_X7_go_X7_go_r2 _ (List.mem_of_getElem? (i := 18) rfl)) (mj_cons (mc_X7_go_X7_go_r2 _ (List.mem_of_getElem? (i := 19) rfl)) (mj_cons (mc_X7_go_X7_go_r2 _ (List.mem_of_getElem? (i := 20) rfl)) (mj_cons (mc_X7_go_X7_go_r2 _ (List.mem_of_getElem? (i := 21) rfl)) (mj_cons (mc_X7_go_X7_go_r2 _ (List.mem_of_getElem? (i := 22) rfl)) (mj_cons (mc_X7_go_X7_go_r2 _ (List.mem_of_getElem? (i := 23) rfl)) (mj_cons (mc_X7_go_X7_go_r3 _ (List.mem_of_getElem? (i := 0) rfl)) (mj_cons (mc_X7_go_X7_go_r3 _ (List.mem_of_getElem? (i := 1) rfl)) (mj_cons (mc_X7_go_X7_go_r3 _ (List.mem_of_getElem? (i := 2) rfl)) (mj_cons (mc_X7_go_X7_go_r3 _ (List.mem_of_getElem? (i := 3) rfl)) (mj_cons (mc_X7_go_X7_go_r3 _ (List.mem_of_getElem? (i := 4) rfl)) (mj_cons (mc_X7_go_X7_go_r3 _ (List.mem_of_getElem? (i := 5) rfl)) (mj_cons (mc_X7_go_X7_go_r3 _ (List.mem_of_getElem? (i := 6) rfl)) (mj_cons (mc_X7_go_X7_go_r3 _ (List.mem_of_getElem? (i := 7) rfl)) (mj_cons (mc_X7_go_X7_go_r3 _ (List.mem_of_getElem? (i := 8) rfl)) (mj_cons (mc_X7_go_X7_go_r3 _ (List.mem_of_getElem? (i := 9) rfl)) (mj_cons (mc_X7_go_X7_go_r3 _ (List.mem_of_getElem? (i := 10) rfl)) (mj_cons (mc_X7_go_X7_go_r3 _ (List.mem_of_getElem? (i := 11) rfl)) mj_nil)))))))))))))))))))))))) (mj_app (mj_cons (mc_X7_go_X7_go_r3 _ (List.mem_of_getElem? (i := 12) rfl)) (mj_cons (mc_X7_go_X7_go_r1 _ (List.mem_of_getElem? (i := 5) rfl)) (mj_cons (mc_X7_go_X7_go_r3 _ (List.mem_of_getElem? (i := 13) rfl)) (mj_cons (mc_X7_go_X7_go_r3 _ (List.mem_of_getElem? (i := 14) rfl)) (mj_cons (mc_X7_go_X7_go_r3 _ (List.mem_of_getElem? (i := 15) rfl)) (mj_cons (mc_X7_go_X7_go_r3 _ (List.mem_of_getElem? (i := 16) rfl)) (mj_cons (mc_X7_go_X7_go_r3 _ (List.mem_of_getElem? (i := 17) rfl)) (mj_cons (mc_X7_go_X7_go_r3 _ (List.mem_of_getElem? (i := 18) rfl)) (mj_cons (mc_X7_go_X7_go_r3 _ (List.mem_of_getElem? (i := 19) rfl)) (mj_cons (mc_X7_go_X7_go_r3 _ (List.mem_of_getElem? (i := 20) rfl)) (mj_cons (mc_X7_go_X7_go_r3 _ (List.mem_of_getElem? (i := 21) rfl)) (mj_cons (mc_X7_go_X7_go_r3 _ (List.mem_of_getElem? (i := 22) rfl)) (mj_cons (mc_X7_go_X7_go_r3 _ (List.mem_of_getElem? (i := 23) rfl)) (mj_cons (mc_X7_go_X7_go_r4 _ (List.mem_of_getElem? (i := 0) rfl)) (mj_cons (mc_X7_go_X7_go_r4 _ (List.mem_of_getElem? (i := 1) rfl)) (mj_cons (mc_X7_go_X7_go_r4 _ (List.mem_of_getElem? (i := 2) rfl)) (mj_cons (mc_X7_go_X7_go_r4 _ (List.mem_of_getElem? (i := 3) rfl)) (mj_cons (mc_X7_go_X7_go_r4 _ (List.mem_of_getElem? (i := 4) rfl)) (mj_cons (mc_X7_go_X7_go_r4 _ (List.mem_of_getElem? (i := 5) rfl)) (mj_cons (mc_X7_go_X7_go_r4 _ (List.mem_of_getElem? (i := 6) rfl)) (mj_cons (mc_X7_go_X7_go_r4 _ (List.mem_of_getElem? (i := 7) rfl)) (mj_cons (mc_X7_go_X7_go_r4 _ (List.mem_of_getElem? (i := 8) rfl)) (mj_cons (mc_X7_go_X7_go_r4 _ (List.mem_of_getElem? (i := 9) rfl)) (mj_cons (mc_X7_go_X7_go_r4 _ (List.mem_of_getElem? (i := 10) rfl)) mj_nil)))))))))))))))))))))))) (mj_app (mj_cons (mc_X7_go_X7_go_r4 _ (List.mem_of_getElem? (i := 11) rfl)) (mj_cons (mc_X7_go_X7_go_r4 _ (List.mem_of_getElem? (i := 12) rfl)) (mj_cons (mc_X7_go_X7_go_r4 _ (List.mem_of_getElem? (i := 13) rfl)) (mj_cons (mc_X7_go_X7_go_r4 _ (List.mem_of_getElem? (i := 14) rfl)) (mj_cons (mc_X7_go_X7_go_r4 _ (List.mem_of_getElem? (i := 15) rfl)) (mj_cons (mc_X7_go_X7_go_r4 _ (List.mem_of_getElem? (i := 16) rfl)) (mj_cons (mc_X7_go_X7_go_r4 _ (List.mem_of_getElem? (i := 17) rfl)) (mj_cons (mc_X7_go_X7_go_r4 _ (List.mem_of_getElem? (i := 18) rfl)) (mj_cons (mc_X7_go_X7_go_r4 _ (List.mem_of_getElem? (i := 19) rfl)) (mj_cons (mc_X7_go_X7_go_r4 _ (List.mem_of_getElem? (i := 20) rfl)) (mj_cons (mc_X7_go_X7_go_r4 _ (List.mem_of_getElem? (i := 21) rfl)) (mj_cons (mc_X7_go_X7_go_r4 _ (List.mem_of_getElem? (i := 22) rfl)) (mj_cons (mc_X7_go_X7_go_r4 _ (List.mem_of_getElem? (i := 23) rfl)) (mj_cons (mc_X7_go_X7_go_r5 _ (List.mem_of_getElem? (i := 0) rfl)) (mj_cons (mc_X7_go_X7_go_r5 _ (List.mem_of_getElem? (i := 1) rfl)) (mj_cons (mc_X7_go_X7_go_r5 _ (List.mem_of_getElem? (i := 2) rfl)) (mj_cons (mc_X7_go_X7_go_r5 _ (List.mem_of_getElem? (i := 3) rfl)) (mj_cons (mc_X7_go_X7_go_r5 _ (List.mem_of_getElem? (i := 4) rfl)) (mj_cons (mc_X7_go_X7_go_r5 _ (List.mem_of_getElem? (i := 5) rfl)) (mj_cons (mc_X7_go_X7_go_r5 _ (List.mem_of_getElem? (i := 6) rfl)) (mj_cons (mc_X7_go_X7_go_r5 _ (List.mem_of_getElem? (i := 7) rfl)) (mj_cons (mc_X7_go_X7_go_r5 _ (List.mem_of_getElem? (i := 8) rfl)) (mj_cons (mc_X7_go_X7_go_r5 _ (List.mem_of_getElem? (i := 9) rfl)) (mj_cons (mc_X7_go_X7_go_r5 _ (List.mem_of_getElem? (i := 10) rfl)) mj_nil)))))))))))))))))))))))) (mj_cons (mc_X7_go_X7_go_r5 _ (List.mem_of_getElem? (i := 11) rfl)) (mj_cons (mc_X7_go_X7_go_r5 _ (List.mem_of_getElem? (i := 12) rfl)) (mj_cons (mc_X7_go_X7_go_r5 _ (List.mem_of_getElem? (i := 13) rfl)) (mj_cons (mc_X7_go_X7_go_r5 _ (List.mem_of_getElem? (i := 14) rfl)) (mj_cons (mc_X7_go_X7_go_r5 _ (List.mem_of_getElem? (i := 15) rfl)) (mj_cons (mc_X7_go_X7_go_r5 _ (List.mem_of_getElem? (i := 16) rfl)) (mj_cons (mc_X7_go_X7_go_r5 _ (List.mem_of_getElem? (i := 17) rfl)) (mj_cons (mc_X7_go_X7_go_r5 _ (List.mem_of_getElem? (i := 18) rfl)) (mj_cons (mc_X7_go_X7_go_r5 _ (List.mem_of_getElem? (i := 19) rfl)) (mj_cons (mc_X7_go_X7_go_r5 _ (List.mem_of_getElem? (i := 20) rfl)) (mj_cons (mc_X7_go_X7_go_r5 _ (List.mem_of_getElem? (i := 21) rfl)) (mj_cons (mc_X7_go_X7_go_r5 _ (List.mem_of_getElem? (i := 22) rfl)) (mj_cons (mc_X7_go_X7_go_r5 _ (List.mem_of_getElem? (i := 23) rfl)) (mj_cons (mc_X7_go_X7_go_r6 _ (List.mem_of_getElem? (i := 0) rfl)) (mj_cons (mc_X7_go_X7_go_r6 _ (List.mem_of_getElem? (i := 1) rfl)) (mj_cons (mc_X7_go_X7_go_r6 _ (List.mem_of_getElem? (i := 2) rfl)) mj_nil)))))))))))))))))))) mc_X7_go_X70)) (by decide +kernel)
set_option maxRecDepth 20000 in
theorem gX7_go_X7_hardest : GoodIn wsX7_go (wsV RX7 324 RX7 yX7_hardest wsX7_hardest) := goodIn_app (mj_good (mj_cons (mc_X7_go_X7_go_r1 _ (List.mem_of_getElem? (i := 11) rfl)) (mj_cons (mc_X7_go_X7_go_r1 _ (List.mem_of_getElem? (i := 12) rfl)) (mj_cons (mc_X7_go_X7_go_r1 _ (List.mem_of_getElem? (i := 13) rfl)) (mj_cons (mc_X7_go_X7_go_r1 _ (List.mem_of_getElem? (i := 9) rfl)) mj_nil)))) (by decide +kernel)) ggX7_go_X7_hardest
set_option maxRecDepth 20000 in
theorem ggX7_go_X7_clearUndo : GoodIn wsX7_go wsX7_clearUndo := mj_good (mj_cons (mc_X7_go_X7_go_r6 _ (List.mem_of_getElem? (i := 6) rfl)) (mj_app (mj_cons (mc_X7_go_X7_go_r6 _ (List.mem_of_getElem? (i := 7) rfl)) (mj_cons (mc_X7_go_X7_go_r6 _ (List.mem_of_getElem? (i := 8) rfl)) mj_nil)) mc_X7_go_X70)) (by decide +kernel)
set_option maxRecDepth 20000 in
theorem gX7_go_X7_clearUndo : GoodIn wsX7_go (wsV RX7 330 RX7 yX7_clearUndo wsX7_clearUndo) := goodIn_app (mj_good (mj_cons (mc_X7_go_X7_go_r6 _ (List.mem_of_getElem? (i := 3) rfl)) (mj_cons (mc_X7_go_X7_go_r6 _ (List.mem_of_getElem? (i := 4) rfl)) (mj_cons (mc_X7_go_X7_go_r6 _ (List.mem_of_getElem? (i := 5) rfl)) (mj_cons (mc_X7_go_X7_go_r1 _ (List.mem_of_getElem? (i := 9) rfl)) mj_nil)))) (by decide +kernel)) ggX7_go_X7_clearUndo
theorem dX7_go_0 : decode cX7_go 0 = .ok (.aload_n 0, 1) := by decide +kernel
theorem dX7_go_1 : decode cX7_go 1 = .ok (.iconst 0, 1) := by decide +kernel
theorem dX7_go_2 : decode cX7_go 2 = .ok (.putfield 184, 3) := by decide +kernel
theorem dX7_go_5 : decode cX7_go 5 = .ok (.aload_n 0, 1) := by decide +kernel
theorem dX7_go_6 : decode cX7_go 6 = .ok (.iconst 0, 1) := by decide +kernel
theorem dX7_go_7 : decode cX7_go 7 = .ok (.putfield 187, 3) := by decide +kernel
theorem dX7_go_10 : decode cX7_go 10 = .ok (.aload_n 0, 1) := by decide +kernel
theorem dX7_go_11 : decode cX7_go 11 = .ok (.getfield 303, 3) := by decide +kernel
theorem dX7_go_14 : decode cX7_go 14 = .ok (.ifCond .ne 9, 3) := by decide +kernel
theorem dX7_go_17 : decode cX7_go 17 = .ok (.aload_n 0, 1) := by decide +kernel
theorem dX7_go_18 : decode cX7_go 18 = .ok (.iconst 1, 1) := by decide +kernel
theorem dX7_go_19 : decode cX7_go 19 = .ok (.invokevirtual 327, 3) := by decide +kernel
theorem dX7_go_22 : decode cX7_go 22 = .ok (.ireturn, 1) := by decide +kernel
theorem dX7_go_23 : decode cX7_go 23 = .ok (.aload_n 0, 1) := by decide +kernel
theorem dX7_go_24 : decode cX7_go 24 = .ok (.invokevirtual 324, 3) := by decide +kernel
theorem dX7_go_27 : decode cX7_go 27 = .ok (.istore_n 1, 1) := by decide +kernel
theorem dX7_go_28 : decode cX7_go 28 = .ok (.iload_n 1, 1) := by decide +kernel
theorem dX7_go_29 : decode cX7_go 29 = .ok (.ifCond .ge 10, 3) := by decide +kernel
theorem dX7_go_32 : decode cX7_go 32 = .ok (.aload_n 0, 1) := by decide +kernel
theorem dX7_go_33 : decode cX7_go 33 = .ok (.iload_n 1, 1) := by decide +kernel
theorem dX7_go_34 : decode cX7_go 34 = .ok (.ineg, 1) := by decide +kernel
theorem dX7_go_35 : decode cX7_go 35 = .ok (.invokevirtual 327, 3) := by decide +kernel
theorem dX7_go_38 : decode cX7_go 38 = .ok (.ireturn, 1) := by decide +kernel
theorem dX7_go_39 : decode cX7_go 39 = .ok (.iconst 0, 1) := by decide +kernel
theorem dX7_go_40 : decode cX7_go 40 = .ok (.istore_n 2, 1) := by decide +kernel
theorem dX7_go_41 : decode cX7_go 41 = .ok (.iload_n 2, 1) := by decide +kernel
theorem dX7_go_42 : decode cX7_go 42 = .ok (.aload_n 0, 1) := by decide +kernel
theorem dX7_go_43 : decode cX7_go 43 = .ok (.getfield 216, 3) := by decide +kernel
theorem dX7_go_46 : decode cX7_go 46 = .ok (.if_icmp .ge 26, 3) := by decide +kernel
theorem dX7_go_49 : decode cX7_go 49 = .ok (.aload_n 0, 1) := by decide +kernel
theorem dX7_go_50 : decode cX7_go 50 = .ok (.getfield 26, 3) := by decide +kernel
theorem dX7_go_53 : decode cX7_go 53 = .ok (.iload_n 2, 1) := by decide +kernel
theorem dX7_go_54 : decode cX7_go 54 = .ok (.aload_n 0, 1) := by decide +kernel
theorem dX7_go_55 : decode cX7_go 55 = .ok (.getfield 76, 3) := by decide +kernel
theorem dX7_go_58 : decode cX7_go 58 = .ok (.bipush 12, 2) := by decide +kernel
theorem dX7_go_60 : decode cX7_go 60 = .ok (.iload_n 1, 1) := by decide +kernel
theorem dX7_go_61 : decode cX7_go 61 = .ok (.imul, 1) := by decide +kernel
theorem dX7_go_62 : decode cX7_go 62 = .ok (.iload_n 2, 1) := by decide +kernel
theorem dX7_go_63 : decode cX7_go 63 = .ok (.iadd, 1) := by decide +kernel
theorem dX7_go_64 : decode cX7_go 64 = .ok (.baload, 1) := by decide +kernel
theorem dX7_go_65 : decode cX7_go 65 = .ok (.iastore, 1) := by decide +kernel
theorem dX7_go_66 : decode cX7_go 66 = .ok (.iinc 2 1, 3) := by decide +kernel
theorem dX7_go_69 : decode cX7_go 69 = .ok (.goto (-28), 3) := by decide +kernel
theorem dX7_go_72 : decode cX7_go 72 = .ok (.aload_n 0, 1) := by decide +kernel
theorem dX7_go_73 : decode cX7_go 73 = .ok (.invokevirtual 330, 3) := by decide +kernel
theorem dX7_go_76 : decode cX7_go 76 = .ok (.iconst 1, 1) := by decide +kernel
theorem dX7_go_77 : decode cX7_go 77 = .ok (.ireturn, 1) := by decide +kernel
set_option maxRecDepth 20000 in
theorem mc_X7_reach_X7_reach_r1 : mjIn wsX7_reach wsX7_reach_r1 := fun w h => (List.mem_cons_of_mem _ (List.mem_append_left _ (List.mem_append_left _ h)))
set_option maxRecDepth 20000 in
theorem mc_X7_reach_X70 : mjIn wsX7_reach wsX70 := fun w h => (List.mem_cons_of_mem _ (List.mem_append_right _ h))
set_option maxRecDepth 20000 in
theorem ggX7_reach_X7_refuse : GoodIn wsX7_reach wsX7_refuse := mj_good (mj_cons (mc_X7_reach_X7_reach_r1 _ (List.mem_of_getElem? (i := 8) rfl)) (mj_app (mj_cons (mc_X7_reach_X7_reach_r1 _ (List.mem_of_getElem? (i := 1) rfl)) mj_nil) mc_X7_reach_X70)) (by decide +kernel)
set_option maxRecDepth 20000 in
theorem gX7_reach_X7_refuse : GoodIn wsX7_reach (wsV RX7 290 RX7 yX7_refuse wsX7_refuse) := goodIn_app (mj_good (mj_cons (mc_X7_reach_X7_reach_r1 _ (List.mem_of_getElem? (i := 4) rfl)) (mj_cons (mc_X7_reach_X7_reach_r1 _ (List.mem_of_getElem? (i := 5) rfl)) (mj_cons (mc_X7_reach_X7_reach_r1 _ (List.mem_of_getElem? (i := 6) rfl)) (mj_cons (mc_X7_reach_X7_reach_r1 _ (List.mem_of_getElem? (i := 7) rfl)) mj_nil)))) (by decide +kernel)) ggX7_reach_X7_refuse
set_option maxRecDepth 20000 in
theorem mc_X7_reach_X7_reach_r2 : mjIn wsX7_reach wsX7_reach_r2 := fun w h => (List.mem_cons_of_mem _ (List.mem_append_left _ (List.mem_append_right _ (List.mem_append_left _ h))))
set_option maxRecDepth 20000 in
theorem mc_X7_reach_X7_reach_r3 : mjIn wsX7_reach wsX7_reach_r3 := fun w h => (List.mem_cons_of_mem _ (List.mem_append_left _ (List.mem_append_right _ (List.mem_append_right _ (List.mem_append_left _ h)))))
set_option maxRecDepth 20000 in
theorem mc_X7_reach_X7_reach_r4 : mjIn wsX7_reach wsX7_reach_r4 := fun w h => (List.mem_cons_of_mem _ (List.mem_append_left _ (List.mem_append_right _ (List.mem_append_right _ (List.mem_append_right _ (List.mem_append_left _ h))))))
set_option maxRecDepth 20000 in
theorem mc_X7_reach_X7_reach_r5 : mjIn wsX7_reach wsX7_reach_r5 := fun w h => (List.mem_cons_of_mem _ (List.mem_append_left _ (List.mem_append_right _ (List.mem_append_right _ (List.mem_append_right _ (List.mem_append_right _ h))))))
set_option maxRecDepth 20000 in
theorem ggX7_reach_X7_looksAtAll : GoodIn wsX7_reach wsX7_looksAtAll := mj_good (mj_cons (mc_X7_reach_X7_reach_r1 _ (List.mem_of_getElem? (i := 12) rfl)) (mj_app (mj_app (mj_cons (mc_X7_reach_X7_reach_r1 _ (List.mem_of_getElem? (i := 13) rfl)) (mj_cons (mc_X7_reach_X7_reach_r1 _ (List.mem_of_getElem? (i := 3) rfl)) (mj_cons (mc_X7_reach_X7_reach_r1 _ (List.mem_of_getElem? (i := 14) rfl)) (mj_cons (mc_X7_reach_X7_reach_r1 _ (List.mem_of_getElem? (i := 15) rfl)) (mj_cons (mc_X7_reach_X7_reach_r1 _ (List.mem_of_getElem? (i := 16) rfl)) (mj_cons (mc_X7_reach_X7_reach_r1 _ (List.mem_of_getElem? (i := 17) rfl)) (mj_cons (mc_X7_reach_X7_reach_r1 _ (List.mem_of_getElem? (i := 18) rfl)) (mj_cons (mc_X7_reach_X7_reach_r1 _ (List.mem_of_getElem? (i := 19) rfl)) (mj_cons (mc_X7_reach_X7_reach_r1 _ (List.mem_of_getElem? (i := 20) rfl)) (mj_cons (mc_X7_reach_X7_reach_r1 _ (List.mem_of_getElem? (i := 21) rfl)) (mj_cons (mc_X7_reach_X7_reach_r1 _ (List.mem_of_getElem? (i := 7) rfl)) (mj_cons (mc_X7_reach_X7_reach_r1 _ (List.mem_of_getElem? (i := 22) rfl)) (mj_cons (mc_X7_reach_X7_reach_r1 _ (List.mem_of_getElem? (i := 23) rfl)) (mj_cons (mc_X7_reach_X7_reach_r2 _ (List.mem_of_getElem? (i := 0) rfl)) (mj_cons (mc_X7_reach_X7_reach_r2 _ (List.mem_of_getElem? (i := 1) rfl)) (mj_cons (mc_X7_reach_X7_reach_r2 _ (List.mem_of_getElem? (i := 2) rfl)) (mj_cons (mc_X7_reach_X7_reach_r2 _ (List.mem_of_getElem? (i := 3) rfl)) (mj_cons (mc_X7_reach_X7_reach_r2 _ (List.mem_of_getElem? (i := 4) rfl)) (mj_cons (mc_X7_reach_X7_reach_r2 _ (List.mem_of_getElem? (i := 5) rfl)) (mj_cons (mc_X7_reach_X7_reach_r2 _ (List.mem_of_getElem? (i := 6) rfl)) (mj_cons (mc_X7_reach_X7_reach_r2 _ (List.mem_of_getElem? (i := 7) rfl)) (mj_cons (mc_X7_reach_X7_reach_r2 _ (List.mem_of_getElem? (i := 8) rfl)) (mj_cons (mc_X7_reach_X7_reach_r2 _ (List.mem_of_getElem? (i := 9) rfl)) (mj_cons (mc_X7_reach_X7_reach_r2 _ (List.mem_of_getElem? (i := 10) rfl)) mj_nil)))))))))))))))))))))))) (mj_app (mj_cons (mc_X7_reach_X7_reach_r2 _ (List.mem_of_getElem? (i := 11) rfl)) (mj_cons (mc_X7_reach_X7_reach_r2 _ (List.mem_of_getElem? (i := 12) rfl)) (mj_cons (mc_X7_reach_X7_reach_r2 _ (List.mem_of_getElem? (i := 13) rfl)) (mj_cons (mc_X7_reach_X7_reach_r2 _ (List.mem_of_getElem? (i := 14) rfl)) (mj_cons (mc_X7_reach_X7_reach_r2 _ (List.mem_of_getElem? (i := 15) rfl)) (mj_cons (mc_X7_reach_X7_reach_r2 _ (List.mem_of_getElem? (i := 16) rfl)) (mj_cons (mc_X7_reach_X7_reach_r2 _ (List.mem_of_getElem? (i := 17) rfl)) (mj_cons (mc_X7_reach_X7_reach_r2 _ (List.mem_of_getElem? (i := 18) rfl)) (mj_cons (mc_X7_reach_X7_reach_r2 _ (List.mem_of_getElem? (i := 19) rfl)) (mj_cons (mc_X7_reach_X7_reach_r2 _ (List.mem_of_getElem? (i := 20) rfl)) (mj_cons (mc_X7_reach_X7_reach_r2 _ (List.mem_of_getElem? (i := 21) rfl)) (mj_cons (mc_X7_reach_X7_reach_r2 _ (List.mem_of_getElem? (i := 22) rfl)) (mj_cons (mc_X7_reach_X7_reach_r2 _ (List.mem_of_getElem? (i := 23) rfl)) (mj_cons (mc_X7_reach_X7_reach_r3 _ (List.mem_of_getElem? (i := 0) rfl)) (mj_cons (mc_X7_reach_X7_reach_r3 _ (List.mem_of_getElem? (i := 1) rfl)) (mj_cons (mc_X7_reach_X7_reach_r3 _ (List.mem_of_getElem? (i := 2) rfl)) (mj_cons (mc_X7_reach_X7_reach_r3 _ (List.mem_of_getElem? (i := 3) rfl)) (mj_cons (mc_X7_reach_X7_reach_r3 _ (List.mem_of_getElem? (i := 4) rfl)) (mj_cons (mc_X7_reach_X7_reach_r3 _ (List.mem_of_getElem? (i := 5) rfl)) (mj_cons (mc_X7_reach_X7_reach_r3 _ (List.mem_of_getElem? (i := 6) rfl)) (mj_cons (mc_X7_reach_X7_reach_r3 _ (List.mem_of_getElem? (i := 7) rfl)) (mj_cons (mc_X7_reach_X7_reach_r3 _ (List.mem_of_getElem? (i := 8) rfl)) (mj_cons (mc_X7_reach_X7_reach_r3 _ (List.mem_of_getElem? (i := 9) rfl)) (mj_cons (mc_X7_reach_X7_reach_r3 _ (List.mem_of_getElem? (i := 10) rfl)) mj_nil)))))))))))))))))))))))) (mj_app (mj_cons (mc_X7_reach_X7_reach_r3 _ (List.mem_of_getElem? (i := 11) rfl)) (mj_cons (mc_X7_reach_X7_reach_r3 _ (List.mem_of_getElem? (i := 12) rfl)) (mj_cons (mc_X7_reach_X7_reach_r3 _ (List.mem_of_getElem? (i := 13) rfl)) (mj_cons (mc_X7_reach_X7_reach_r3 _ (List.mem_of_getElem? (i := 14) rfl)) (mj_cons (mc_X7_reach_X7_reach_r3 _ (List.mem_of_getElem? (i := 15) rfl)) (mj_cons (mc_X7_reach_X7_reach_r3 _ (List.mem_of_getElem? (i := 16) rfl)) (mj_cons (mc_X7_reach_X7_reach_r3 _ (List.mem_of_getElem? (i := 17) rfl)) (mj_cons (mc_X7_reach_X7_reach_r3 _ (List.mem_of_getElem? (i := 18) rfl)) (mj_cons (mc_X7_reach_X7_reach_r3 _ (List.mem_of_getElem? (i := 19) rfl)) (mj_cons (mc_X7_reach_X7_reach_r3 _ (List.mem_of_getElem? (i := 20) rfl)) (mj_cons (mc_X7_reach_X7_reach_r3 _ (List.mem_of_getElem? (i := 21) rfl)) (mj_cons (mc_X7_reach_X7_reach_r3 _ (List.mem_of_getElem? (i := 22) rfl)) (mj_cons (mc_X7_reach_X7_reach_r3 _ (List.mem_of_getElem? (i := 23) rfl)) (mj_cons (mc_X7_reach_X7_reach_r4 _ (List.mem_of_getElem? (i := 0) rfl)) (mj_cons (mc_X7_reach_X7_reach_r4 _ (List.mem_of_getElem? (i := 1) rfl)) (mj_cons (mc_X7_reach_X7_reach_r4 _ (List.mem_of_getElem? (i := 2) rfl)) (mj_cons (mc_X7_reach_X7_reach_r4 _ (List.mem_of_getElem? (i := 3) rfl)) (mj_cons (mc_X7_reach_X7_reach_r4 _ (List.mem_of_getElem? (i := 4) rfl)) (mj_cons (mc_X7_reach_X7_reach_r4 _ (List.mem_of_getElem? (i := 5) rfl)) (mj_cons (mc_X7_reach_X7_reach_r4 _ (List.mem_of_getElem? (i := 6) rfl)) (mj_cons (mc_X7_reach_X7_reach_r4 _ (List.mem_of_getElem? (i := 7) rfl)) (mj_cons (mc_X7_reach_X7_reach_r4 _ (List.mem_of_getElem? (i := 8) rfl)) (mj_cons (mc_X7_reach_X7_reach_r4 _ (List.mem_of_getElem? (i := 9) rfl)) (mj_cons (mc_X7_reach_X7_reach_r4 _ (List.mem_of_getElem? (i := 10) rfl)) mj_nil)))))))))))))))))))))))) (mj_app (mj_cons (mc_X7_reach_X7_reach_r4 _ (List.mem_of_getElem? (i := 11) rfl)) (mj_cons (mc_X7_reach_X7_reach_r4 _ (List.mem_of_getElem? (i := 12) rfl)) (mj_cons (mc_X7_reach_X7_reach_r4 _ (List.mem_of_getElem? (i := 13) rfl)) (mj_cons (mc_X7_reach_X7_reach_r4 _ (List.mem_of_getElem? (i := 14) rfl)) (mj_cons (mc_X7_reach_X7_reach_r4 _ (List.mem_of_getElem? (i := 15) rfl)) (mj_cons (mc_X7_reach_X7_reach_r4 _ (List.mem_of_getElem? (i := 16) rfl)) (mj_cons (mc_X7_reach_X7_reach_r4 _ (List.mem_of_getElem? (i := 17) rfl)) (mj_cons (mc_X7_reach_X7_reach_r4 _ (List.mem_of_getElem? (i := 18) rfl)) (mj_cons (mc_X7_reach_X7_reach_r4 _ (List.mem_of_getElem? (i := 19) rfl)) (mj_cons (mc_X7_reach_X7_reach_r4 _ (List.mem_of_getElem? (i := 20) rfl)) (mj_cons (mc_X7_reach_X7_reach_r4 _ (List.mem_of_getElem? (i := 21) rfl)) (mj_cons (mc_X7_reach_X7_reach_r4 _ (List.mem_of_getElem? (i := 22) rfl)) (mj_cons (mc_X7_reach_X7_reach_r4 _ (List.mem_of_getElem? (i := 23) rfl)) (mj_cons (mc_X7_reach_X7_reach_r5 _ (List.mem_of_getElem? (i := 0) rfl)) (mj_cons (mc_X7_reach_X7_reach_r5 _ (List.mem_of_getElem? (i := 1) rfl)) (mj_cons (mc_X7_reach_X7_reach_r5 _ (List.mem_of_getElem? (i := 2) rfl)) (mj_cons (mc_X7_reach_X7_reach_r5 _ (List.mem_of_getElem? (i := 3) rfl)) (mj_cons (mc_X7_reach_X7_reach_r5 _ (List.mem_of_getElem? (i := 4) rfl)) (mj_cons (mc_X7_reach_X7_reach_r5 _ (List.mem_of_getElem? (i := 5) rfl)) (mj_cons (mc_X7_reach_X7_reach_r5 _ (List.mem_of_getElem? (i := 6) rfl)) (mj_cons (mc_X7_reach_X7_reach_r5 _ (List.mem_of_getElem? (i := 7) rfl)) (mj_cons (mc_X7_reach_X7_reach_r5 _ (List.mem_of_getElem? (i := 8) rfl)) (mj_cons (mc_X7_reach_X7_reach_r5 _ (List.mem_of_getElem? (i := 9) rfl)) (mj_cons (mc_X7_reach_X7_reach_r5 _ (List.mem_of_getElem? (i := 10) rfl)) mj_nil)))))))))))))))))))))))) (mj_cons (mc_X7_reach_X7_reach_r5 _ (List.mem_of_getElem? (i := 11) rfl)) (mj_cons (mc_X7_reach_X7_reach_r5 _ (List.mem_of_getElem? (i := 12) rfl)) (mj_cons (mc_X7_reach_X7_reach_r5 _ (List.mem_of_getElem? (i := 13) rfl)) (mj_cons (mc_X7_reach_X7_reach_r5 _ (List.mem_of_getElem? (i := 14) rfl)) (mj_cons (mc_X7_reach_X7_reach_r5 _ (List.mem_of_getElem? (i := 15) rfl)) (mj_cons (mc_X7_reach_X7_reach_r5 _ (List.mem_of_getElem? (i := 16) rfl)) mj_nil)))))))))) mc_X7_reach_X70)) (by decide +kernel)
set_option maxRecDepth 20000 in
theorem gX7_reach_X7_looksAtAll : GoodIn wsX7_reach (wsV RX7 286 RX7 yX7_looksAtAll wsX7_looksAtAll) := goodIn_app (mj_good (mj_cons (mc_X7_reach_X7_reach_r1 _ (List.mem_of_getElem? (i := 9) rfl)) (mj_cons (mc_X7_reach_X7_reach_r1 _ (List.mem_of_getElem? (i := 10) rfl)) (mj_cons (mc_X7_reach_X7_reach_r1 _ (List.mem_of_getElem? (i := 11) rfl)) (mj_cons (mc_X7_reach_X7_reach_r1 _ (List.mem_of_getElem? (i := 7) rfl)) mj_nil)))) (by decide +kernel)) ggX7_reach_X7_looksAtAll
theorem dX7_reach_0 : decode cX7_reach 0 = .ok (.aload_n 0, 1) := by decide +kernel
theorem dX7_reach_1 : decode cX7_reach 1 = .ok (.iconst 0, 1) := by decide +kernel
theorem dX7_reach_2 : decode cX7_reach 2 = .ok (.putfield 184, 3) := by decide +kernel
theorem dX7_reach_5 : decode cX7_reach 5 = .ok (.aload_n 0, 1) := by decide +kernel
theorem dX7_reach_6 : decode cX7_reach 6 = .ok (.iconst 0, 1) := by decide +kernel
theorem dX7_reach_7 : decode cX7_reach 7 = .ok (.putfield 187, 3) := by decide +kernel
theorem dX7_reach_10 : decode cX7_reach 10 = .ok (.aload_n 0, 1) := by decide +kernel
theorem dX7_reach_11 : decode cX7_reach 11 = .ok (.getfield 303, 3) := by decide +kernel
theorem dX7_reach_14 : decode cX7_reach 14 = .ok (.ifCond .ne 9, 3) := by decide +kernel
theorem dX7_reach_17 : decode cX7_reach 17 = .ok (.aload_n 0, 1) := by decide +kernel
theorem dX7_reach_18 : decode cX7_reach 18 = .ok (.iconst 1, 1) := by decide +kernel
theorem dX7_reach_19 : decode cX7_reach 19 = .ok (.invokevirtual 290, 3) := by decide +kernel
theorem dX7_reach_22 : decode cX7_reach 22 = .ok (.ireturn, 1) := by decide +kernel
theorem dX7_reach_23 : decode cX7_reach 23 = .ok (.aload_n 0, 1) := by decide +kernel
theorem dX7_reach_24 : decode cX7_reach 24 = .ok (.iconst 0, 1) := by decide +kernel
theorem dX7_reach_25 : decode cX7_reach 25 = .ok (.invokevirtual 286, 3) := by decide +kernel
theorem dX7_reach_28 : decode cX7_reach 28 = .ok (.ifCond .eq 10, 3) := by decide +kernel
theorem dX7_reach_31 : decode cX7_reach 31 = .ok (.aload_n 0, 1) := by decide +kernel
theorem dX7_reach_32 : decode cX7_reach 32 = .ok (.getfield 256, 3) := by decide +kernel
theorem dX7_reach_35 : decode cX7_reach 35 = .ok (.goto 9, 3) := by decide +kernel
theorem dX7_reach_38 : decode cX7_reach 38 = .ok (.aload_n 0, 1) := by decide +kernel
theorem dX7_reach_39 : decode cX7_reach 39 = .ok (.bipush 10, 2) := by decide +kernel
theorem dX7_reach_41 : decode cX7_reach 41 = .ok (.invokevirtual 290, 3) := by decide +kernel
theorem dX7_reach_44 : decode cX7_reach 44 = .ok (.ireturn, 1) := by decide +kernel
set_option maxRecDepth 20000 in
theorem mc_X7_low_X7_low_r1 : mjIn wsX7_low wsX7_low_r1 := fun w h => (List.mem_cons_of_mem _ (List.mem_append_left _ (List.mem_append_left _ h)))
set_option maxRecDepth 20000 in
theorem mc_X7_low_X70 : mjIn wsX7_low wsX70 := fun w h => (List.mem_cons_of_mem _ (List.mem_append_right _ h))
set_option maxRecDepth 20000 in
theorem ggX7_low_X7_refuse : GoodIn wsX7_low wsX7_refuse := mj_good (mj_cons (mc_X7_low_X7_low_r1 _ (List.mem_of_getElem? (i := 12) rfl)) (mj_app (mj_cons (mc_X7_low_X7_low_r1 _ (List.mem_of_getElem? (i := 1) rfl)) mj_nil) mc_X7_low_X70)) (by decide +kernel)
set_option maxRecDepth 20000 in
theorem gX7_low_X7_refuse : GoodIn wsX7_low (wsV RX7 290 RX7 yX7_refuse wsX7_refuse) := goodIn_app (mj_good (mj_cons (mc_X7_low_X7_low_r1 _ (List.mem_of_getElem? (i := 8) rfl)) (mj_cons (mc_X7_low_X7_low_r1 _ (List.mem_of_getElem? (i := 9) rfl)) (mj_cons (mc_X7_low_X7_low_r1 _ (List.mem_of_getElem? (i := 10) rfl)) (mj_cons (mc_X7_low_X7_low_r1 _ (List.mem_of_getElem? (i := 11) rfl)) mj_nil)))) (by decide +kernel)) ggX7_low_X7_refuse
set_option maxRecDepth 20000 in
theorem mc_X7_low_X7_low_r2 : mjIn wsX7_low wsX7_low_r2 := fun w h => (List.mem_cons_of_mem _ (List.mem_append_left _ (List.mem_append_right _ (List.mem_append_left _ h))))
set_option maxRecDepth 20000 in
theorem ggX7_low_X7_layAll : GoodIn wsX7_low wsX7_layAll := mj_good (mj_cons (mc_X7_low_X7_low_r1 _ (List.mem_of_getElem? (i := 16) rfl)) (mj_app (mj_app (mj_cons (mc_X7_low_X7_low_r1 _ (List.mem_of_getElem? (i := 3) rfl)) (mj_cons (mc_X7_low_X7_low_r1 _ (List.mem_of_getElem? (i := 17) rfl)) (mj_cons (mc_X7_low_X7_low_r1 _ (List.mem_of_getElem? (i := 6) rfl)) (mj_cons (mc_X7_low_X7_low_r1 _ (List.mem_of_getElem? (i := 18) rfl)) (mj_cons (mc_X7_low_X7_low_r1 _ (List.mem_of_getElem? (i := 19) rfl)) (mj_cons (mc_X7_low_X7_low_r1 _ (List.mem_of_getElem? (i := 20) rfl)) (mj_cons (mc_X7_low_X7_low_r1 _ (List.mem_of_getElem? (i := 11) rfl)) (mj_cons (mc_X7_low_X7_low_r1 _ (List.mem_of_getElem? (i := 21) rfl)) (mj_cons (mc_X7_low_X7_low_r1 _ (List.mem_of_getElem? (i := 22) rfl)) (mj_cons (mc_X7_low_X7_low_r1 _ (List.mem_of_getElem? (i := 23) rfl)) (mj_cons (mc_X7_low_X7_low_r2 _ (List.mem_of_getElem? (i := 0) rfl)) (mj_cons (mc_X7_low_X7_low_r2 _ (List.mem_of_getElem? (i := 1) rfl)) (mj_cons (mc_X7_low_X7_low_r2 _ (List.mem_of_getElem? (i := 2) rfl)) (mj_cons (mc_X7_low_X7_low_r2 _ (List.mem_of_getElem? (i := 3) rfl)) (mj_cons (mc_X7_low_X7_low_r2 _ (List.mem_of_getElem? (i := 4) rfl)) (mj_cons (mc_X7_low_X7_low_r2 _ (List.mem_of_getElem? (i := 5) rfl)) (mj_cons (mc_X7_low_X7_low_r2 _ (List.mem_of_getElem? (i := 6) rfl)) (mj_cons (mc_X7_low_X7_low_r1 _ (List.mem_of_getElem? (i := 5) rfl)) (mj_cons (mc_X7_low_X7_low_r2 _ (List.mem_of_getElem? (i := 7) rfl)) (mj_cons (mc_X7_low_X7_low_r2 _ (List.mem_of_getElem? (i := 8) rfl)) (mj_cons (mc_X7_low_X7_low_r2 _ (List.mem_of_getElem? (i := 9) rfl)) (mj_cons (mc_X7_low_X7_low_r2 _ (List.mem_of_getElem? (i := 10) rfl)) (mj_cons (mc_X7_low_X7_low_r2 _ (List.mem_of_getElem? (i := 11) rfl)) (mj_cons (mc_X7_low_X7_low_r2 _ (List.mem_of_getElem? (i := 12) rfl)) mj_nil)))))))))))))))))))))))) (mj_cons (mc_X7_low_X7_low_r2 _ (List.mem_of_getElem? (i := 13) rfl)) (mj_cons (mc_X7_low_X7_low_r2 _ (List.mem_of_getElem? (i := 14) rfl)) (mj_cons (mc_X7_low_X7_low_r2 _ (List.mem_of_getElem? (i := 15) rfl)) (mj_cons (mc_X7_low_X7_low_r2 _ (List.mem_of_getElem? (i := 16) rfl)) mj_nil))))) mc_X7_low_X70)) (by decide +kernel)
set_option maxRecDepth 20000 in
theorem gX7_low_X7_layAll : GoodIn wsX7_low (wsV RX7 262 RX7 yX7_layAll wsX7_layAll) := goodIn_app (mj_good (mj_cons (mc_X7_low_X7_low_r1 _ (List.mem_of_getElem? (i := 13) rfl)) (mj_cons (mc_X7_low_X7_low_r1 _ (List.mem_of_getElem? (i := 14) rfl)) (mj_cons (mc_X7_low_X7_low_r1 _ (List.mem_of_getElem? (i := 15) rfl)) (mj_cons (mc_X7_low_X7_low_r1 _ (List.mem_of_getElem? (i := 11) rfl)) mj_nil)))) (by decide +kernel)) ggX7_low_X7_layAll
set_option maxRecDepth 20000 in
theorem mc_X7_low_X7_low_r3 : mjIn wsX7_low wsX7_low_r3 := fun w h => (List.mem_cons_of_mem _ (List.mem_append_left _ (List.mem_append_right _ (List.mem_append_right _ h))))
set_option maxRecDepth 20000 in
theorem ggX7_low_X7_sweep : GoodIn wsX7_low wsX7_sweep := mj_good (mj_cons (mc_X7_low_X7_low_r2 _ (List.mem_of_getElem? (i := 20) rfl)) (mj_app (mj_cons (mc_X7_low_X7_low_r1 _ (List.mem_of_getElem? (i := 4) rfl)) (mj_cons (mc_X7_low_X7_low_r2 _ (List.mem_of_getElem? (i := 7) rfl)) (mj_cons (mc_X7_low_X7_low_r1 _ (List.mem_of_getElem? (i := 6) rfl)) (mj_cons (mc_X7_low_X7_low_r1 _ (List.mem_of_getElem? (i := 7) rfl)) (mj_cons (mc_X7_low_X7_low_r2 _ (List.mem_of_getElem? (i := 21) rfl)) (mj_cons (mc_X7_low_X7_low_r2 _ (List.mem_of_getElem? (i := 22) rfl)) (mj_cons (mc_X7_low_X7_low_r2 _ (List.mem_of_getElem? (i := 23) rfl)) (mj_cons (mc_X7_low_X7_low_r3 _ (List.mem_of_getElem? (i := 0) rfl)) (mj_cons (mc_X7_low_X7_low_r3 _ (List.mem_of_getElem? (i := 1) rfl)) (mj_cons (mc_X7_low_X7_low_r3 _ (List.mem_of_getElem? (i := 2) rfl)) (mj_cons (mc_X7_low_X7_low_r3 _ (List.mem_of_getElem? (i := 3) rfl)) (mj_cons (mc_X7_low_X7_low_r2 _ (List.mem_of_getElem? (i := 8) rfl)) (mj_cons (mc_X7_low_X7_low_r1 _ (List.mem_of_getElem? (i := 22) rfl)) mj_nil))))))))))))) mc_X7_low_X70)) (by decide +kernel)
set_option maxRecDepth 20000 in
theorem gX7_low_X7_sweep : GoodIn wsX7_low (wsV RX7 333 RX7 yX7_sweep wsX7_sweep) := goodIn_app (mj_good (mj_cons (mc_X7_low_X7_low_r2 _ (List.mem_of_getElem? (i := 17) rfl)) (mj_cons (mc_X7_low_X7_low_r2 _ (List.mem_of_getElem? (i := 18) rfl)) (mj_cons (mc_X7_low_X7_low_r2 _ (List.mem_of_getElem? (i := 19) rfl)) (mj_cons (mc_X7_low_X7_low_r1 _ (List.mem_of_getElem? (i := 11) rfl)) mj_nil)))) (by decide +kernel)) ggX7_low_X7_sweep
theorem dX7_low_0 : decode cX7_low 0 = .ok (.aload_n 0, 1) := by decide +kernel
theorem dX7_low_1 : decode cX7_low 1 = .ok (.iconst 0, 1) := by decide +kernel
theorem dX7_low_2 : decode cX7_low 2 = .ok (.putfield 184, 3) := by decide +kernel
theorem dX7_low_5 : decode cX7_low 5 = .ok (.aload_n 0, 1) := by decide +kernel
theorem dX7_low_6 : decode cX7_low 6 = .ok (.iconst 0, 1) := by decide +kernel
theorem dX7_low_7 : decode cX7_low 7 = .ok (.putfield 187, 3) := by decide +kernel
theorem dX7_low_10 : decode cX7_low 10 = .ok (.aload_n 0, 1) := by decide +kernel
theorem dX7_low_11 : decode cX7_low 11 = .ok (.getfield 303, 3) := by decide +kernel
theorem dX7_low_14 : decode cX7_low 14 = .ok (.ifCond .ne 9, 3) := by decide +kernel
theorem dX7_low_17 : decode cX7_low 17 = .ok (.aload_n 0, 1) := by decide +kernel
theorem dX7_low_18 : decode cX7_low 18 = .ok (.iconst 1, 1) := by decide +kernel
theorem dX7_low_19 : decode cX7_low 19 = .ok (.invokevirtual 290, 3) := by decide +kernel
theorem dX7_low_22 : decode cX7_low 22 = .ok (.ireturn, 1) := by decide +kernel
theorem dX7_low_23 : decode cX7_low 23 = .ok (.aload_n 0, 1) := by decide +kernel
theorem dX7_low_24 : decode cX7_low 24 = .ok (.invokevirtual 262, 3) := by decide +kernel
theorem dX7_low_27 : decode cX7_low 27 = .ok (.iconst 0, 1) := by decide +kernel
theorem dX7_low_28 : decode cX7_low 28 = .ok (.istore_n 1, 1) := by decide +kernel
theorem dX7_low_29 : decode cX7_low 29 = .ok (.iload_n 1, 1) := by decide +kernel
theorem dX7_low_30 : decode cX7_low 30 = .ok (.aload_n 0, 1) := by decide +kernel
theorem dX7_low_31 : decode cX7_low 31 = .ok (.getfield 216, 3) := by decide +kernel
theorem dX7_low_34 : decode cX7_low 34 = .ok (.if_icmp .ge 16, 3) := by decide +kernel
theorem dX7_low_37 : decode cX7_low 37 = .ok (.aload_n 0, 1) := by decide +kernel
theorem dX7_low_38 : decode cX7_low 38 = .ok (.getfield 157, 3) := by decide +kernel
theorem dX7_low_41 : decode cX7_low 41 = .ok (.iload_n 1, 1) := by decide +kernel
theorem dX7_low_42 : decode cX7_low 42 = .ok (.iconst 0, 1) := by decide +kernel
theorem dX7_low_43 : decode cX7_low 43 = .ok (.bastore, 1) := by decide +kernel
theorem dX7_low_44 : decode cX7_low 44 = .ok (.iinc 1 1, 3) := by decide +kernel
theorem dX7_low_47 : decode cX7_low 47 = .ok (.goto (-18), 3) := by decide +kernel
theorem dX7_low_50 : decode cX7_low 50 = .ok (.iconst 0, 1) := by decide +kernel
theorem dX7_low_51 : decode cX7_low 51 = .ok (.istore_n 1, 1) := by decide +kernel
theorem dX7_low_52 : decode cX7_low 52 = .ok (.iload_n 1, 1) := by decide +kernel
theorem dX7_low_53 : decode cX7_low 53 = .ok (.aload_n 0, 1) := by decide +kernel
theorem dX7_low_54 : decode cX7_low 54 = .ok (.getfield 216, 3) := by decide +kernel
theorem dX7_low_57 : decode cX7_low 57 = .ok (.if_icmp .ge 39, 3) := by decide +kernel
theorem dX7_low_60 : decode cX7_low 60 = .ok (.aload_n 0, 1) := by decide +kernel
theorem dX7_low_61 : decode cX7_low 61 = .ok (.getfield 23, 3) := by decide +kernel
theorem dX7_low_64 : decode cX7_low 64 = .ok (.iload_n 1, 1) := by decide +kernel
theorem dX7_low_65 : decode cX7_low 65 = .ok (.iaload, 1) := by decide +kernel
theorem dX7_low_66 : decode cX7_low 66 = .ok (.iconst 5, 1) := by decide +kernel
theorem dX7_low_67 : decode cX7_low 67 = .ok (.if_icmp .ne 23, 3) := by decide +kernel
theorem dX7_low_70 : decode cX7_low 70 = .ok (.aload_n 0, 1) := by decide +kernel
theorem dX7_low_71 : decode cX7_low 71 = .ok (.getfield 26, 3) := by decide +kernel
theorem dX7_low_74 : decode cX7_low 74 = .ok (.iload_n 1, 1) := by decide +kernel
theorem dX7_low_75 : decode cX7_low 75 = .ok (.iaload, 1) := by decide +kernel
theorem dX7_low_76 : decode cX7_low 76 = .ok (.aload_n 0, 1) := by decide +kernel
theorem dX7_low_77 : decode cX7_low 77 = .ok (.getfield 35, 3) := by decide +kernel
theorem dX7_low_80 : decode cX7_low 80 = .ok (.iload_n 1, 1) := by decide +kernel
theorem dX7_low_81 : decode cX7_low 81 = .ok (.iaload, 1) := by decide +kernel
theorem dX7_low_82 : decode cX7_low 82 = .ok (.if_icmp .eq 8, 3) := by decide +kernel
theorem dX7_low_85 : decode cX7_low 85 = .ok (.aload_n 0, 1) := by decide +kernel
theorem dX7_low_86 : decode cX7_low 86 = .ok (.iload_n 1, 1) := by decide +kernel
theorem dX7_low_87 : decode cX7_low 87 = .ok (.invokevirtual 333, 3) := by decide +kernel
theorem dX7_low_90 : decode cX7_low 90 = .ok (.iinc 1 1, 3) := by decide +kernel
theorem dX7_low_93 : decode cX7_low 93 = .ok (.goto (-41), 3) := by decide +kernel
theorem dX7_low_96 : decode cX7_low 96 = .ok (.iconst 0, 1) := by decide +kernel
theorem dX7_low_97 : decode cX7_low 97 = .ok (.istore_n 1, 1) := by decide +kernel
theorem dX7_low_98 : decode cX7_low 98 = .ok (.iconst 0, 1) := by decide +kernel
theorem dX7_low_99 : decode cX7_low 99 = .ok (.istore_n 2, 1) := by decide +kernel
theorem dX7_low_100 : decode cX7_low 100 = .ok (.iload_n 2, 1) := by decide +kernel
theorem dX7_low_101 : decode cX7_low 101 = .ok (.aload_n 0, 1) := by decide +kernel
theorem dX7_low_102 : decode cX7_low 102 = .ok (.getfield 216, 3) := by decide +kernel
theorem dX7_low_105 : decode cX7_low 105 = .ok (.if_icmp .ge 26, 3) := by decide +kernel
theorem dX7_low_108 : decode cX7_low 108 = .ok (.iload_n 1, 1) := by decide +kernel
theorem dX7_low_109 : decode cX7_low 109 = .ok (.aload_n 0, 1) := by decide +kernel
theorem dX7_low_110 : decode cX7_low 110 = .ok (.getfield 157, 3) := by decide +kernel
theorem dX7_low_113 : decode cX7_low 113 = .ok (.iload_n 2, 1) := by decide +kernel
theorem dX7_low_114 : decode cX7_low 114 = .ok (.baload, 1) := by decide +kernel
theorem dX7_low_115 : decode cX7_low 115 = .ok (.ifCond .eq 7, 3) := by decide +kernel
theorem dX7_low_118 : decode cX7_low 118 = .ok (.iconst 1, 1) := by decide +kernel
theorem dX7_low_119 : decode cX7_low 119 = .ok (.goto 4, 3) := by decide +kernel
theorem dX7_low_122 : decode cX7_low 122 = .ok (.iconst 0, 1) := by decide +kernel
theorem dX7_low_123 : decode cX7_low 123 = .ok (.iadd, 1) := by decide +kernel
theorem dX7_low_124 : decode cX7_low 124 = .ok (.istore_n 1, 1) := by decide +kernel
theorem dX7_low_125 : decode cX7_low 125 = .ok (.iinc 2 1, 3) := by decide +kernel
theorem dX7_low_128 : decode cX7_low 128 = .ok (.goto (-28), 3) := by decide +kernel
theorem dX7_low_131 : decode cX7_low 131 = .ok (.iload_n 1, 1) := by decide +kernel
theorem dX7_low_132 : decode cX7_low 132 = .ok (.ireturn, 1) := by decide +kernel
theorem dX7_sweep_0 : decode cX7_sweep 0 = .ok (.aload_n 0, 1) := by decide +kernel
theorem dX7_sweep_1 : decode cX7_sweep 1 = .ok (.getfield 157, 3) := by decide +kernel
theorem dX7_sweep_4 : decode cX7_sweep 4 = .ok (.iload_n 1, 1) := by decide +kernel
theorem dX7_sweep_5 : decode cX7_sweep 5 = .ok (.iconst 1, 1) := by decide +kernel
theorem dX7_sweep_6 : decode cX7_sweep 6 = .ok (.bastore, 1) := by decide +kernel
theorem dX7_sweep_7 : decode cX7_sweep 7 = .ok (.aload_n 0, 1) := by decide +kernel
theorem dX7_sweep_8 : decode cX7_sweep 8 = .ok (.getfield 32, 3) := by decide +kernel
theorem dX7_sweep_11 : decode cX7_sweep 11 = .ok (.iload_n 1, 1) := by decide +kernel
theorem dX7_sweep_12 : decode cX7_sweep 12 = .ok (.iaload, 1) := by decide +kernel
theorem dX7_sweep_13 : decode cX7_sweep 13 = .ok (.ifCond .ne 7, 3) := by decide +kernel
theorem dX7_sweep_16 : decode cX7_sweep 16 = .ok (.iconst 1, 1) := by decide +kernel
theorem dX7_sweep_17 : decode cX7_sweep 17 = .ok (.goto 5, 3) := by decide +kernel
theorem dX7_sweep_20 : decode cX7_sweep 20 = .ok (.bipush 8, 2) := by decide +kernel
theorem dX7_sweep_22 : decode cX7_sweep 22 = .ok (.istore_n 2, 1) := by decide +kernel
theorem dX7_sweep_23 : decode cX7_sweep 23 = .ok (.aload_n 0, 1) := by decide +kernel
theorem dX7_sweep_24 : decode cX7_sweep 24 = .ok (.getfield 26, 3) := by decide +kernel
theorem dX7_sweep_27 : decode cX7_sweep 27 = .ok (.iload_n 1, 1) := by decide +kernel
theorem dX7_sweep_28 : decode cX7_sweep 28 = .ok (.iaload, 1) := by decide +kernel
theorem dX7_sweep_29 : decode cX7_sweep 29 = .ok (.aload_n 0, 1) := by decide +kernel
theorem dX7_sweep_30 : decode cX7_sweep 30 = .ok (.getfield 35, 3) := by decide +kernel
theorem dX7_sweep_33 : decode cX7_sweep 33 = .ok (.iload_n 1, 1) := by decide +kernel
theorem dX7_sweep_34 : decode cX7_sweep 34 = .ok (.iaload, 1) := by decide +kernel
theorem dX7_sweep_35 : decode cX7_sweep 35 = .ok (.invokestatic 233, 3) := by decide +kernel
theorem dX7_sweep_38 : decode cX7_sweep 38 = .ok (.istore_n 3, 1) := by decide +kernel
theorem dX7_sweep_39 : decode cX7_sweep 39 = .ok (.aload_n 0, 1) := by decide +kernel
theorem dX7_sweep_40 : decode cX7_sweep 40 = .ok (.getfield 26, 3) := by decide +kernel
theorem dX7_sweep_43 : decode cX7_sweep 43 = .ok (.iload_n 1, 1) := by decide +kernel
theorem dX7_sweep_44 : decode cX7_sweep 44 = .ok (.iaload, 1) := by decide +kernel
theorem dX7_sweep_45 : decode cX7_sweep 45 = .ok (.aload_n 0, 1) := by decide +kernel
theorem dX7_sweep_46 : decode cX7_sweep 46 = .ok (.getfield 35, 3) := by decide +kernel
theorem dX7_sweep_49 : decode cX7_sweep 49 = .ok (.iload_n 1, 1) := by decide +kernel
theorem dX7_sweep_50 : decode cX7_sweep 50 = .ok (.iaload, 1) := by decide +kernel
theorem dX7_sweep_51 : decode cX7_sweep 51 = .ok (.invokestatic 336, 3) := by decide +kernel
theorem dX7_sweep_54 : decode cX7_sweep 54 = .ok (.iload_n 2, 1) := by decide +kernel
theorem dX7_sweep_55 : decode cX7_sweep 55 = .ok (.aload_n 0, 1) := by decide +kernel
theorem dX7_sweep_56 : decode cX7_sweep 56 = .ok (.getfield 29, 3) := by decide +kernel
theorem dX7_sweep_59 : decode cX7_sweep 59 = .ok (.iload_n 1, 1) := by decide +kernel
theorem dX7_sweep_60 : decode cX7_sweep 60 = .ok (.iaload, 1) := by decide +kernel
theorem dX7_sweep_61 : decode cX7_sweep 61 = .ok (.iconst 1, 1) := by decide +kernel
theorem dX7_sweep_62 : decode cX7_sweep 62 = .ok (.isub, 1) := by decide +kernel
theorem dX7_sweep_63 : decode cX7_sweep 63 = .ok (.imul, 1) := by decide +kernel
theorem dX7_sweep_64 : decode cX7_sweep 64 = .ok (.iadd, 1) := by decide +kernel
theorem dX7_sweep_65 : decode cX7_sweep 65 = .ok (.istore 4, 2) := by decide +kernel
theorem dX7_sweep_67 : decode cX7_sweep 67 = .ok (.iload_n 3, 1) := by decide +kernel
theorem dX7_sweep_68 : decode cX7_sweep 68 = .ok (.istore 5, 2) := by decide +kernel
theorem dX7_sweep_70 : decode cX7_sweep 70 = .ok (.iload 5, 2) := by decide +kernel
theorem dX7_sweep_72 : decode cX7_sweep 72 = .ok (.iload 4, 2) := by decide +kernel
theorem dX7_sweep_74 : decode cX7_sweep 74 = .ok (.if_icmp .gt 35, 3) := by decide +kernel
theorem dX7_sweep_77 : decode cX7_sweep 77 = .ok (.aload_n 0, 1) := by decide +kernel
theorem dX7_sweep_78 : decode cX7_sweep 78 = .ok (.getfield 118, 3) := by decide +kernel
theorem dX7_sweep_81 : decode cX7_sweep 81 = .ok (.iload 5, 2) := by decide +kernel
theorem dX7_sweep_83 : decode cX7_sweep 83 = .ok (.iaload, 1) := by decide +kernel
theorem dX7_sweep_84 : decode cX7_sweep 84 = .ok (.ifCond .lt 16, 3) := by decide +kernel
theorem dX7_sweep_87 : decode cX7_sweep 87 = .ok (.aload_n 0, 1) := by decide +kernel
theorem dX7_sweep_88 : decode cX7_sweep 88 = .ok (.getfield 157, 3) := by decide +kernel
theorem dX7_sweep_91 : decode cX7_sweep 91 = .ok (.aload_n 0, 1) := by decide +kernel
theorem dX7_sweep_92 : decode cX7_sweep 92 = .ok (.getfield 118, 3) := by decide +kernel
theorem dX7_sweep_95 : decode cX7_sweep 95 = .ok (.iload 5, 2) := by decide +kernel
theorem dX7_sweep_97 : decode cX7_sweep 97 = .ok (.iaload, 1) := by decide +kernel
theorem dX7_sweep_98 : decode cX7_sweep 98 = .ok (.iconst 1, 1) := by decide +kernel
theorem dX7_sweep_99 : decode cX7_sweep 99 = .ok (.bastore, 1) := by decide +kernel
theorem dX7_sweep_100 : decode cX7_sweep 100 = .ok (.iload 5, 2) := by decide +kernel
theorem dX7_sweep_102 : decode cX7_sweep 102 = .ok (.iload_n 2, 1) := by decide +kernel
theorem dX7_sweep_103 : decode cX7_sweep 103 = .ok (.iadd, 1) := by decide +kernel
theorem dX7_sweep_104 : decode cX7_sweep 104 = .ok (.istore 5, 2) := by decide +kernel
theorem dX7_sweep_106 : decode cX7_sweep 106 = .ok (.goto (-36), 3) := by decide +kernel
theorem dX7_sweep_109 : decode cX7_sweep 109 = .ok (.return_, 1) := by decide +kernel
theorem dX7_cutTo_0 : decode cX7_cutTo 0 = .ok (.iload_n 1, 1) := by decide +kernel
theorem dX7_cutTo_1 : decode cX7_cutTo 1 = .ok (.ifCond .ne 8, 3) := by decide +kernel
theorem dX7_cutTo_4 : decode cX7_cutTo 4 = .ok (.iload_n 2, 1) := by decide +kernel
theorem dX7_cutTo_5 : decode cX7_cutTo 5 = .ok (.i2b, 1) := by decide +kernel
theorem dX7_cutTo_6 : decode cX7_cutTo 6 = .ok (.goto 15, 3) := by decide +kernel
theorem dX7_cutTo_9 : decode cX7_cutTo 9 = .ok (.iload_n 1, 1) := by decide +kernel
theorem dX7_cutTo_10 : decode cX7_cutTo 10 = .ok (.iconst 1, 1) := by decide +kernel
theorem dX7_cutTo_11 : decode cX7_cutTo 11 = .ok (.if_icmp .ne 8, 3) := by decide +kernel
theorem dX7_cutTo_14 : decode cX7_cutTo 14 = .ok (.iload_n 2, 1) := by decide +kernel
theorem dX7_cutTo_15 : decode cX7_cutTo 15 = .ok (.i2c, 1) := by decide +kernel
theorem dX7_cutTo_16 : decode cX7_cutTo 16 = .ok (.goto 5, 3) := by decide +kernel
theorem dX7_cutTo_19 : decode cX7_cutTo 19 = .ok (.iload_n 2, 1) := by decide +kernel
theorem dX7_cutTo_20 : decode cX7_cutTo 20 = .ok (.i2s, 1) := by decide +kernel
theorem dX7_cutTo_21 : decode cX7_cutTo 21 = .ok (.ireturn, 1) := by decide +kernel
theorem dX7_isWallAt_0 : decode cX7_isWallAt 0 = .ok (.aload_n 0, 1) := by decide +kernel
theorem dX7_isWallAt_1 : decode cX7_isWallAt 1 = .ok (.getfield 13, 3) := by decide +kernel
theorem dX7_isWallAt_4 : decode cX7_isWallAt 4 = .ok (.iload_n 2, 1) := by decide +kernel
theorem dX7_isWallAt_5 : decode cX7_isWallAt 5 = .ok (.iaload, 1) := by decide +kernel
theorem dX7_isWallAt_6 : decode cX7_isWallAt 6 = .ok (.ifCond .lt 31, 3) := by decide +kernel
theorem dX7_isWallAt_9 : decode cX7_isWallAt 9 = .ok (.iload_n 1, 1) := by decide +kernel
theorem dX7_isWallAt_10 : decode cX7_isWallAt 10 = .ok (.aload_n 0, 1) := by decide +kernel
theorem dX7_isWallAt_11 : decode cX7_isWallAt 11 = .ok (.getfield 13, 3) := by decide +kernel
theorem dX7_isWallAt_14 : decode cX7_isWallAt 14 = .ok (.iload_n 2, 1) := by decide +kernel
theorem dX7_isWallAt_15 : decode cX7_isWallAt 15 = .ok (.iaload, 1) := by decide +kernel
theorem dX7_isWallAt_16 : decode cX7_isWallAt 16 = .ok (.if_icmp .ge 17, 3) := by decide +kernel
theorem dX7_isWallAt_19 : decode cX7_isWallAt 19 = .ok (.aload_n 0, 1) := by decide +kernel
theorem dX7_isWallAt_20 : decode cX7_isWallAt 20 = .ok (.getfield 16, 3) := by decide +kernel
theorem dX7_isWallAt_23 : decode cX7_isWallAt 23 = .ok (.bipush 8, 2) := by decide +kernel
theorem dX7_isWallAt_25 : decode cX7_isWallAt 25 = .ok (.iload_n 2, 1) := by decide +kernel
theorem dX7_isWallAt_26 : decode cX7_isWallAt 26 = .ok (.imul, 1) := by decide +kernel
theorem dX7_isWallAt_27 : decode cX7_isWallAt 27 = .ok (.iload_n 1, 1) := by decide +kernel
theorem dX7_isWallAt_28 : decode cX7_isWallAt 28 = .ok (.iadd, 1) := by decide +kernel
theorem dX7_isWallAt_29 : decode cX7_isWallAt 29 = .ok (.iaload, 1) := by decide +kernel
theorem dX7_isWallAt_30 : decode cX7_isWallAt 30 = .ok (.ifCond .eq 7, 3) := by decide +kernel
theorem dX7_isWallAt_33 : decode cX7_isWallAt 33 = .ok (.iconst 1, 1) := by decide +kernel
theorem dX7_isWallAt_34 : decode cX7_isWallAt 34 = .ok (.goto 4, 3) := by decide +kernel
theorem dX7_isWallAt_37 : decode cX7_isWallAt 37 = .ok (.iconst 0, 1) := by decide +kernel
theorem dX7_isWallAt_38 : decode cX7_isWallAt 38 = .ok (.ireturn, 1) := by decide +kernel
set_option maxRecDepth 20000 in
theorem mc_X7_walls_X70 : mjIn wsX7_walls wsX70 := fun w h => (List.mem_cons_of_mem _ (List.mem_append_right _ h))
set_option maxRecDepth 20000 in
theorem ggX7_walls_X7_isWallAt : GoodIn wsX7_walls wsX7_isWallAt := mj_good (mj_cons (List.mem_of_getElem? (i := 7) rfl) (mj_app (mj_cons (List.mem_of_getElem? (i := 8) rfl) (mj_cons (List.mem_of_getElem? (i := 9) rfl) mj_nil)) mc_X7_walls_X70)) (by decide +kernel)
set_option maxRecDepth 20000 in
theorem gX7_walls_X7_isWallAt : GoodIn wsX7_walls (wsV RX7 339 RX7 yX7_isWallAt wsX7_isWallAt) := goodIn_app (mj_good (mj_cons (List.mem_of_getElem? (i := 3) rfl) (mj_cons (List.mem_of_getElem? (i := 4) rfl) (mj_cons (List.mem_of_getElem? (i := 5) rfl) (mj_cons (List.mem_of_getElem? (i := 6) rfl) mj_nil)))) (by decide +kernel)) ggX7_walls_X7_isWallAt
theorem dX7_walls_0 : decode cX7_walls 0 = .ok (.iconst 0, 1) := by decide +kernel
theorem dX7_walls_1 : decode cX7_walls 1 = .ok (.istore_n 2, 1) := by decide +kernel
theorem dX7_walls_2 : decode cX7_walls 2 = .ok (.iload_n 2, 1) := by decide +kernel
theorem dX7_walls_3 : decode cX7_walls 3 = .ok (.aload_n 0, 1) := by decide +kernel
theorem dX7_walls_4 : decode cX7_walls 4 = .ok (.getfield 190, 3) := by decide +kernel
theorem dX7_walls_7 : decode cX7_walls 7 = .ok (.if_icmp .ge 26, 3) := by decide +kernel
theorem dX7_walls_10 : decode cX7_walls 10 = .ok (.aload_n 0, 1) := by decide +kernel
theorem dX7_walls_11 : decode cX7_walls 11 = .ok (.getfield 19, 3) := by decide +kernel
theorem dX7_walls_14 : decode cX7_walls 14 = .ok (.iload_n 2, 1) := by decide +kernel
theorem dX7_walls_15 : decode cX7_walls 15 = .ok (.bipush 8, 2) := by decide +kernel
theorem dX7_walls_17 : decode cX7_walls 17 = .ok (.iload_n 1, 1) := by decide +kernel
theorem dX7_walls_18 : decode cX7_walls 18 = .ok (.imul, 1) := by decide +kernel
theorem dX7_walls_19 : decode cX7_walls 19 = .ok (.iadd, 1) := by decide +kernel
theorem dX7_walls_20 : decode cX7_walls 20 = .ok (.aload_n 0, 1) := by decide +kernel
theorem dX7_walls_21 : decode cX7_walls 21 = .ok (.iload_n 2, 1) := by decide +kernel
theorem dX7_walls_22 : decode cX7_walls 22 = .ok (.iload_n 1, 1) := by decide +kernel
theorem dX7_walls_23 : decode cX7_walls 23 = .ok (.invokevirtual 339, 3) := by decide +kernel
theorem dX7_walls_26 : decode cX7_walls 26 = .ok (.bastore, 1) := by decide +kernel
theorem dX7_walls_27 : decode cX7_walls 27 = .ok (.iinc 2 1, 3) := by decide +kernel
theorem dX7_walls_30 : decode cX7_walls 30 = .ok (.goto (-28), 3) := by decide +kernel
theorem dX7_walls_33 : decode cX7_walls 33 = .ok (.return_, 1) := by decide +kernel
set_option maxRecDepth 20000 in
theorem mc_X7_isUnder_X7_isUnder_r1 : mjIn wsX7_isUnder wsX7_isUnder_r1 := fun w h => (List.mem_cons_of_mem _ (List.mem_append_left _ (List.mem_append_left _ h)))
set_option maxRecDepth 20000 in
theorem mc_X7_isUnder_X7_isUnder_r2 : mjIn wsX7_isUnder wsX7_isUnder_r2 := fun w h => (List.mem_cons_of_mem _ (List.mem_append_left _ (List.mem_append_right _ h)))
set_option maxRecDepth 20000 in
theorem mc_X7_isUnder_X70 : mjIn wsX7_isUnder wsX70 := fun w h => (List.mem_cons_of_mem _ (List.mem_append_right _ h))
set_option maxRecDepth 20000 in
theorem ggX7_isUnder_X7_layAll : GoodIn wsX7_isUnder wsX7_layAll := mj_good (mj_cons (mc_X7_isUnder_X7_isUnder_r1 _ (List.mem_of_getElem? (i := 6) rfl)) (mj_app (mj_app (mj_cons (mc_X7_isUnder_X7_isUnder_r1 _ (List.mem_of_getElem? (i := 7) rfl)) (mj_cons (mc_X7_isUnder_X7_isUnder_r1 _ (List.mem_of_getElem? (i := 8) rfl)) (mj_cons (mc_X7_isUnder_X7_isUnder_r1 _ (List.mem_of_getElem? (i := 9) rfl)) (mj_cons (mc_X7_isUnder_X7_isUnder_r1 _ (List.mem_of_getElem? (i := 10) rfl)) (mj_cons (mc_X7_isUnder_X7_isUnder_r1 _ (List.mem_of_getElem? (i := 11) rfl)) (mj_cons (mc_X7_isUnder_X7_isUnder_r1 _ (List.mem_of_getElem? (i := 12) rfl)) (mj_cons (mc_X7_isUnder_X7_isUnder_r1 _ (List.mem_of_getElem? (i := 5) rfl)) (mj_cons (mc_X7_isUnder_X7_isUnder_r1 _ (List.mem_of_getElem? (i := 13) rfl)) (mj_cons (mc_X7_isUnder_X7_isUnder_r1 _ (List.mem_of_getElem? (i := 1) rfl)) (mj_cons (mc_X7_isUnder_X7_isUnder_r1 _ (List.mem_of_getElem? (i := 14) rfl)) (mj_cons (mc_X7_isUnder_X7_isUnder_r1 _ (List.mem_of_getElem? (i := 15) rfl)) (mj_cons (mc_X7_isUnder_X7_isUnder_r1 _ (List.mem_of_getElem? (i := 16) rfl)) (mj_cons (mc_X7_isUnder_X7_isUnder_r1 _ (List.mem_of_getElem? (i := 17) rfl)) (mj_cons (mc_X7_isUnder_X7_isUnder_r1 _ (List.mem_of_getElem? (i := 18) rfl)) (mj_cons (mc_X7_isUnder_X7_isUnder_r1 _ (List.mem_of_getElem? (i := 19) rfl)) (mj_cons (mc_X7_isUnder_X7_isUnder_r1 _ (List.mem_of_getElem? (i := 20) rfl)) (mj_cons (mc_X7_isUnder_X7_isUnder_r1 _ (List.mem_of_getElem? (i := 21) rfl)) (mj_cons (mc_X7_isUnder_X7_isUnder_r1 _ (List.mem_of_getElem? (i := 22) rfl)) (mj_cons (mc_X7_isUnder_X7_isUnder_r1 _ (List.mem_of_getElem? (i := 23) rfl)) (mj_cons (mc_X7_isUnder_X7_isUnder_r2 _ (List.mem_of_getElem? (i := 0) rfl)) (mj_cons (mc_X7_isUnder_X7_isUnder_r2 _ (List.mem_of_getElem? (i := 1) rfl)) (mj_cons (mc_X7_isUnder_X7_isUnder_r2 _ (List.mem_of_getElem? (i := 2) rfl)) (mj_cons (mc_X7_isUnder_X7_isUnder_r2 _ (List.mem_of_getElem? (i := 3) rfl)) (mj_cons (mc_X7_isUnder_X7_isUnder_r2 _ (List.mem_of_getElem? (i := 4) rfl)) mj_nil)))))))))))))))))))))))) (mj_cons (mc_X7_isUnder_X7_isUnder_r2 _ (List.mem_of_getElem? (i := 5) rfl)) (mj_cons (mc_X7_isUnder_X7_isUnder_r2 _ (List.mem_of_getElem? (i := 6) rfl)) (mj_cons (mc_X7_isUnder_X7_isUnder_r2 _ (List.mem_of_getElem? (i := 7) rfl)) (mj_cons (mc_X7_isUnder_X7_isUnder_r2 _ (List.mem_of_getElem? (i := 8) rfl)) mj_nil))))) mc_X7_isUnder_X70)) (by decide +kernel)
set_option maxRecDepth 20000 in
theorem gX7_isUnder_X7_layAll : GoodIn wsX7_isUnder (wsV RX7 262 RX7 yX7_layAll wsX7_layAll) := goodIn_app (mj_good (mj_cons (mc_X7_isUnder_X7_isUnder_r1 _ (List.mem_of_getElem? (i := 2) rfl)) (mj_cons (mc_X7_isUnder_X7_isUnder_r1 _ (List.mem_of_getElem? (i := 3) rfl)) (mj_cons (mc_X7_isUnder_X7_isUnder_r1 _ (List.mem_of_getElem? (i := 4) rfl)) (mj_cons (mc_X7_isUnder_X7_isUnder_r1 _ (List.mem_of_getElem? (i := 5) rfl)) mj_nil)))) (by decide +kernel)) ggX7_isUnder_X7_layAll
set_option maxRecDepth 20000 in
theorem ggX7_isUnder_X7_isWallAt : GoodIn wsX7_isUnder wsX7_isWallAt := mj_good (mj_cons (mc_X7_isUnder_X7_isUnder_r2 _ (List.mem_of_getElem? (i := 12) rfl)) (mj_app (mj_cons (mc_X7_isUnder_X7_isUnder_r2 _ (List.mem_of_getElem? (i := 13) rfl)) (mj_cons (mc_X7_isUnder_X7_isUnder_r2 _ (List.mem_of_getElem? (i := 14) rfl)) mj_nil)) mc_X7_isUnder_X70)) (by decide +kernel)
set_option maxRecDepth 20000 in
theorem gX7_isUnder_X7_isWallAt : GoodIn wsX7_isUnder (wsV RX7 339 RX7 yX7_isWallAt wsX7_isWallAt) := goodIn_app (mj_good (mj_cons (mc_X7_isUnder_X7_isUnder_r2 _ (List.mem_of_getElem? (i := 9) rfl)) (mj_cons (mc_X7_isUnder_X7_isUnder_r2 _ (List.mem_of_getElem? (i := 10) rfl)) (mj_cons (mc_X7_isUnder_X7_isUnder_r2 _ (List.mem_of_getElem? (i := 11) rfl)) (mj_cons (mc_X7_isUnder_X7_isUnder_r1 _ (List.mem_of_getElem? (i := 5) rfl)) mj_nil)))) (by decide +kernel)) ggX7_isUnder_X7_isWallAt
theorem dX7_isUnder_0 : decode cX7_isUnder 0 = .ok (.aload_n 0, 1) := by decide +kernel
theorem dX7_isUnder_1 : decode cX7_isUnder 1 = .ok (.invokevirtual 262, 3) := by decide +kernel
theorem dX7_isUnder_4 : decode cX7_isUnder 4 = .ok (.iconst 0, 1) := by decide +kernel
theorem dX7_isUnder_5 : decode cX7_isUnder 5 = .ok (.istore_n 2, 1) := by decide +kernel
theorem dX7_isUnder_6 : decode cX7_isUnder 6 = .ok (.iload_n 2, 1) := by decide +kernel
theorem dX7_isUnder_7 : decode cX7_isUnder 7 = .ok (.aload_n 0, 1) := by decide +kernel
theorem dX7_isUnder_8 : decode cX7_isUnder 8 = .ok (.getfield 190, 3) := by decide +kernel
theorem dX7_isUnder_11 : decode cX7_isUnder 11 = .ok (.if_icmp .ge 34, 3) := by decide +kernel
theorem dX7_isUnder_14 : decode cX7_isUnder 14 = .ok (.aload_n 0, 1) := by decide +kernel
theorem dX7_isUnder_15 : decode cX7_isUnder 15 = .ok (.iload_n 2, 1) := by decide +kernel
theorem dX7_isUnder_16 : decode cX7_isUnder 16 = .ok (.iload_n 1, 1) := by decide +kernel
theorem dX7_isUnder_17 : decode cX7_isUnder 17 = .ok (.invokevirtual 339, 3) := by decide +kernel
theorem dX7_isUnder_20 : decode cX7_isUnder 20 = .ok (.ifCond .eq 19, 3) := by decide +kernel
theorem dX7_isUnder_23 : decode cX7_isUnder 23 = .ok (.aload_n 0, 1) := by decide +kernel
theorem dX7_isUnder_24 : decode cX7_isUnder 24 = .ok (.getfield 118, 3) := by decide +kernel
theorem dX7_isUnder_27 : decode cX7_isUnder 27 = .ok (.iload_n 2, 1) := by decide +kernel
theorem dX7_isUnder_28 : decode cX7_isUnder 28 = .ok (.bipush 8, 2) := by decide +kernel
theorem dX7_isUnder_30 : decode cX7_isUnder 30 = .ok (.iload_n 1, 1) := by decide +kernel
theorem dX7_isUnder_31 : decode cX7_isUnder 31 = .ok (.imul, 1) := by decide +kernel
theorem dX7_isUnder_32 : decode cX7_isUnder 32 = .ok (.iadd, 1) := by decide +kernel
theorem dX7_isUnder_33 : decode cX7_isUnder 33 = .ok (.iaload, 1) := by decide +kernel
theorem dX7_isUnder_34 : decode cX7_isUnder 34 = .ok (.ifCond .lt 5, 3) := by decide +kernel
theorem dX7_isUnder_37 : decode cX7_isUnder 37 = .ok (.iconst 1, 1) := by decide +kernel
theorem dX7_isUnder_38 : decode cX7_isUnder 38 = .ok (.ireturn, 1) := by decide +kernel
theorem dX7_isUnder_39 : decode cX7_isUnder 39 = .ok (.iinc 2 1, 3) := by decide +kernel
theorem dX7_isUnder_42 : decode cX7_isUnder 42 = .ok (.goto (-36), 3) := by decide +kernel
theorem dX7_isUnder_45 : decode cX7_isUnder 45 = .ok (.iconst 0, 1) := by decide +kernel
theorem dX7_isUnder_46 : decode cX7_isUnder 46 = .ok (.ireturn, 1) := by decide +kernel
set_option maxRecDepth 20000 in
theorem mc_X7_ends_X70 : mjIn wsX7_ends wsX70 := fun w h => (List.mem_cons_of_mem _ (List.mem_append_right _ h))
set_option maxRecDepth 20000 in
theorem ggX7_ends_X7_clearUndo : GoodIn wsX7_ends wsX7_clearUndo := mj_good (mj_cons (List.mem_of_getElem? (i := 5) rfl) (mj_app (mj_cons (List.mem_of_getElem? (i := 6) rfl) (mj_cons (List.mem_of_getElem? (i := 7) rfl) mj_nil)) mc_X7_ends_X70)) (by decide +kernel)
set_option maxRecDepth 20000 in
theorem gX7_ends_X7_clearUndo : GoodIn wsX7_ends (wsV RX7 330 RX7 yX7_clearUndo wsX7_clearUndo) := goodIn_app (mj_good (mj_cons (List.mem_of_getElem? (i := 1) rfl) (mj_cons (List.mem_of_getElem? (i := 2) rfl) (mj_cons (List.mem_of_getElem? (i := 3) rfl) (mj_cons (List.mem_of_getElem? (i := 4) rfl) mj_nil)))) (by decide +kernel)) ggX7_ends_X7_clearUndo
theorem dX7_ends_0 : decode cX7_ends 0 = .ok (.aload_n 0, 1) := by decide +kernel
theorem dX7_ends_1 : decode cX7_ends 1 = .ok (.invokevirtual 330, 3) := by decide +kernel
theorem dX7_ends_4 : decode cX7_ends 4 = .ok (.return_, 1) := by decide +kernel
set_option maxRecDepth 20000 in
theorem mc_X7_basin_X70 : mjIn wsX7_basin wsX70 := fun w h => (List.mem_cons_of_mem _ (List.mem_append_right _ h))
set_option maxRecDepth 20000 in
theorem ggX7_basin_X7_no : GoodIn wsX7_basin wsX7_no := mj_good (mj_cons (List.mem_of_getElem? (i := 13) rfl) (mj_app (mj_cons (List.mem_of_getElem? (i := 2) rfl) mj_nil) mc_X7_basin_X70)) (by decide +kernel)
set_option maxRecDepth 20000 in
theorem gX7_basin_X7_no : GoodIn wsX7_basin (wsV RX7 327 RX7 yX7_no wsX7_no) := goodIn_app (mj_good (mj_cons (List.mem_of_getElem? (i := 9) rfl) (mj_cons (List.mem_of_getElem? (i := 10) rfl) (mj_cons (List.mem_of_getElem? (i := 11) rfl) (mj_cons (List.mem_of_getElem? (i := 12) rfl) mj_nil)))) (by decide +kernel)) ggX7_basin_X7_no
set_option maxRecDepth 20000 in
theorem ggX7_basin_X7_ends : GoodIn wsX7_basin wsX7_ends := mj_good (mj_cons (List.mem_of_getElem? (i := 17) rfl) (mj_app (mj_cons (List.mem_of_getElem? (i := 18) rfl) (mj_cons (List.mem_of_getElem? (i := 19) rfl) (mj_cons (List.mem_of_getElem? (i := 20) rfl) (mj_cons (List.mem_of_getElem? (i := 12) rfl) (mj_cons (List.mem_of_getElem? (i := 21) rfl) (mj_cons (List.mem_of_getElem? (i := 22) rfl) (mj_cons (List.mem_of_getElem? (i := 23) rfl) mj_nil))))))) mc_X7_basin_X70)) (by decide +kernel)
set_option maxRecDepth 20000 in
theorem gX7_basin_X7_ends : GoodIn wsX7_basin (wsV RX7 342 RX7 yX7_ends wsX7_ends) := goodIn_app (mj_good (mj_cons (List.mem_of_getElem? (i := 14) rfl) (mj_cons (List.mem_of_getElem? (i := 15) rfl) (mj_cons (List.mem_of_getElem? (i := 16) rfl) (mj_cons (List.mem_of_getElem? (i := 12) rfl) mj_nil)))) (by decide +kernel)) ggX7_basin_X7_ends
theorem dX7_basin_0 : decode cX7_basin 0 = .ok (.aload_n 0, 1) := by decide +kernel
theorem dX7_basin_1 : decode cX7_basin 1 = .ok (.iconst 0, 1) := by decide +kernel
theorem dX7_basin_2 : decode cX7_basin 2 = .ok (.putfield 184, 3) := by decide +kernel
theorem dX7_basin_5 : decode cX7_basin 5 = .ok (.aload_n 0, 1) := by decide +kernel
theorem dX7_basin_6 : decode cX7_basin 6 = .ok (.iconst 0, 1) := by decide +kernel
theorem dX7_basin_7 : decode cX7_basin 7 = .ok (.putfield 187, 3) := by decide +kernel
theorem dX7_basin_10 : decode cX7_basin 10 = .ok (.iload_n 1, 1) := by decide +kernel
theorem dX7_basin_11 : decode cX7_basin 11 = .ok (.iconst 3, 1) := by decide +kernel
theorem dX7_basin_12 : decode cX7_basin 12 = .ok (.if_icmp .lt 20, 3) := by decide +kernel
theorem dX7_basin_15 : decode cX7_basin 15 = .ok (.iload_n 1, 1) := by decide +kernel
theorem dX7_basin_16 : decode cX7_basin 16 = .ok (.bipush 8, 2) := by decide +kernel
theorem dX7_basin_18 : decode cX7_basin 18 = .ok (.if_icmp .gt 14, 3) := by decide +kernel
theorem dX7_basin_21 : decode cX7_basin 21 = .ok (.iload_n 2, 1) := by decide +kernel
theorem dX7_basin_22 : decode cX7_basin 22 = .ok (.iconst 3, 1) := by decide +kernel
theorem dX7_basin_23 : decode cX7_basin 23 = .ok (.if_icmp .lt 9, 3) := by decide +kernel
theorem dX7_basin_26 : decode cX7_basin 26 = .ok (.iload_n 2, 1) := by decide +kernel
theorem dX7_basin_27 : decode cX7_basin 27 = .ok (.bipush 8, 2) := by decide +kernel
theorem dX7_basin_29 : decode cX7_basin 29 = .ok (.if_icmp .le 9, 3) := by decide +kernel
theorem dX7_basin_32 : decode cX7_basin 32 = .ok (.aload_n 0, 1) := by decide +kernel
theorem dX7_basin_33 : decode cX7_basin 33 = .ok (.iconst 2, 1) := by decide +kernel
theorem dX7_basin_34 : decode cX7_basin 34 = .ok (.invokevirtual 327, 3) := by decide +kernel
theorem dX7_basin_37 : decode cX7_basin 37 = .ok (.ireturn, 1) := by decide +kernel
theorem dX7_basin_38 : decode cX7_basin 38 = .ok (.aload_n 0, 1) := by decide +kernel
theorem dX7_basin_39 : decode cX7_basin 39 = .ok (.iconst 1, 1) := by decide +kernel
theorem dX7_basin_40 : decode cX7_basin 40 = .ok (.putfield 303, 3) := by decide +kernel
theorem dX7_basin_43 : decode cX7_basin 43 = .ok (.aload_n 0, 1) := by decide +kernel
theorem dX7_basin_44 : decode cX7_basin 44 = .ok (.iload_n 1, 1) := by decide +kernel
theorem dX7_basin_45 : decode cX7_basin 45 = .ok (.putfield 190, 3) := by decide +kernel
theorem dX7_basin_48 : decode cX7_basin 48 = .ok (.aload_n 0, 1) := by decide +kernel
theorem dX7_basin_49 : decode cX7_basin 49 = .ok (.iload_n 2, 1) := by decide +kernel
theorem dX7_basin_50 : decode cX7_basin 50 = .ok (.putfield 193, 3) := by decide +kernel
theorem dX7_basin_53 : decode cX7_basin 53 = .ok (.aload_n 0, 1) := by decide +kernel
theorem dX7_basin_54 : decode cX7_basin 54 = .ok (.iconst 0, 1) := by decide +kernel
theorem dX7_basin_55 : decode cX7_basin 55 = .ok (.putfield 216, 3) := by decide +kernel
theorem dX7_basin_58 : decode cX7_basin 58 = .ok (.iconst 0, 1) := by decide +kernel
theorem dX7_basin_59 : decode cX7_basin 59 = .ok (.istore_n 3, 1) := by decide +kernel
theorem dX7_basin_60 : decode cX7_basin 60 = .ok (.iload_n 3, 1) := by decide +kernel
theorem dX7_basin_61 : decode cX7_basin 61 = .ok (.bipush 8, 2) := by decide +kernel
theorem dX7_basin_63 : decode cX7_basin 63 = .ok (.if_icmp .ge 16, 3) := by decide +kernel
theorem dX7_basin_66 : decode cX7_basin 66 = .ok (.aload_n 0, 1) := by decide +kernel
theorem dX7_basin_67 : decode cX7_basin 67 = .ok (.getfield 13, 3) := by decide +kernel
theorem dX7_basin_70 : decode cX7_basin 70 = .ok (.iload_n 3, 1) := by decide +kernel
theorem dX7_basin_71 : decode cX7_basin 71 = .ok (.iconst (-1), 1) := by decide +kernel
theorem dX7_basin_72 : decode cX7_basin 72 = .ok (.iastore, 1) := by decide +kernel
theorem dX7_basin_73 : decode cX7_basin 73 = .ok (.iinc 3 1, 3) := by decide +kernel
theorem dX7_basin_76 : decode cX7_basin 76 = .ok (.goto (-16), 3) := by decide +kernel
theorem dX7_basin_79 : decode cX7_basin 79 = .ok (.iconst 0, 1) := by decide +kernel
theorem dX7_basin_80 : decode cX7_basin 80 = .ok (.istore_n 3, 1) := by decide +kernel
theorem dX7_basin_81 : decode cX7_basin 81 = .ok (.iload_n 3, 1) := by decide +kernel
theorem dX7_basin_82 : decode cX7_basin 82 = .ok (.bipush 64, 2) := by decide +kernel
theorem dX7_basin_84 : decode cX7_basin 84 = .ok (.if_icmp .ge 16, 3) := by decide +kernel
theorem dX7_basin_87 : decode cX7_basin 87 = .ok (.aload_n 0, 1) := by decide +kernel
theorem dX7_basin_88 : decode cX7_basin 88 = .ok (.getfield 19, 3) := by decide +kernel
theorem dX7_basin_91 : decode cX7_basin 91 = .ok (.iload_n 3, 1) := by decide +kernel
theorem dX7_basin_92 : decode cX7_basin 92 = .ok (.iconst 0, 1) := by decide +kernel
theorem dX7_basin_93 : decode cX7_basin 93 = .ok (.bastore, 1) := by decide +kernel
theorem dX7_basin_94 : decode cX7_basin 94 = .ok (.iinc 3 1, 3) := by decide +kernel
theorem dX7_basin_97 : decode cX7_basin 97 = .ok (.goto (-16), 3) := by decide +kernel
theorem dX7_basin_100 : decode cX7_basin 100 = .ok (.aload_n 0, 1) := by decide +kernel
theorem dX7_basin_101 : decode cX7_basin 101 = .ok (.invokevirtual 342, 3) := by decide +kernel
theorem dX7_basin_104 : decode cX7_basin 104 = .ok (.iconst 1, 1) := by decide +kernel
theorem dX7_basin_105 : decode cX7_basin 105 = .ok (.ireturn, 1) := by decide +kernel
theorem dX7_isLine_0 : decode cX7_isLine 0 = .ok (.iload_n 1, 1) := by decide +kernel
theorem dX7_isLine_1 : decode cX7_isLine 1 = .ok (.ifCond .lt 15, 3) := by decide +kernel
theorem dX7_isLine_4 : decode cX7_isLine 4 = .ok (.iload_n 1, 1) := by decide +kernel
theorem dX7_isLine_5 : decode cX7_isLine 5 = .ok (.aload_n 0, 1) := by decide +kernel
theorem dX7_isLine_6 : decode cX7_isLine 6 = .ok (.getfield 193, 3) := by decide +kernel
theorem dX7_isLine_9 : decode cX7_isLine 9 = .ok (.if_icmp .ge 7, 3) := by decide +kernel
theorem dX7_isLine_12 : decode cX7_isLine 12 = .ok (.iconst 1, 1) := by decide +kernel
theorem dX7_isLine_13 : decode cX7_isLine 13 = .ok (.goto 4, 3) := by decide +kernel
theorem dX7_isLine_16 : decode cX7_isLine 16 = .ok (.iconst 0, 1) := by decide +kernel
theorem dX7_isLine_17 : decode cX7_isLine 17 = .ok (.ireturn, 1) := by decide +kernel
theorem dX7_keepLine_0 : decode cX7_keepLine 0 = .ok (.iconst 0, 1) := by decide +kernel
theorem dX7_keepLine_1 : decode cX7_keepLine 1 = .ok (.istore_n 2, 1) := by decide +kernel
theorem dX7_keepLine_2 : decode cX7_keepLine 2 = .ok (.iload_n 2, 1) := by decide +kernel
theorem dX7_keepLine_3 : decode cX7_keepLine 3 = .ok (.bipush 8, 2) := by decide +kernel
theorem dX7_keepLine_5 : decode cX7_keepLine 5 = .ok (.if_icmp .ge 26, 3) := by decide +kernel
theorem dX7_keepLine_8 : decode cX7_keepLine 8 = .ok (.aload_n 0, 1) := by decide +kernel
theorem dX7_keepLine_9 : decode cX7_keepLine 9 = .ok (.getfield 160, 3) := by decide +kernel
theorem dX7_keepLine_12 : decode cX7_keepLine 12 = .ok (.iload_n 2, 1) := by decide +kernel
theorem dX7_keepLine_13 : decode cX7_keepLine 13 = .ok (.aload_n 0, 1) := by decide +kernel
theorem dX7_keepLine_14 : decode cX7_keepLine 14 = .ok (.getfield 16, 3) := by decide +kernel
theorem dX7_keepLine_17 : decode cX7_keepLine 17 = .ok (.bipush 8, 2) := by decide +kernel
theorem dX7_keepLine_19 : decode cX7_keepLine 19 = .ok (.iload_n 1, 1) := by decide +kernel
theorem dX7_keepLine_20 : decode cX7_keepLine 20 = .ok (.imul, 1) := by decide +kernel
theorem dX7_keepLine_21 : decode cX7_keepLine 21 = .ok (.iload_n 2, 1) := by decide +kernel
theorem dX7_keepLine_22 : decode cX7_keepLine 22 = .ok (.iadd, 1) := by decide +kernel
theorem dX7_keepLine_23 : decode cX7_keepLine 23 = .ok (.iaload, 1) := by decide +kernel
theorem dX7_keepLine_24 : decode cX7_keepLine 24 = .ok (.iastore, 1) := by decide +kernel
theorem dX7_keepLine_25 : decode cX7_keepLine 25 = .ok (.iinc 2 1, 3) := by decide +kernel
theorem dX7_keepLine_28 : decode cX7_keepLine 28 = .ok (.goto (-26), 3) := by decide +kernel
theorem dX7_keepLine_31 : decode cX7_keepLine 31 = .ok (.return_, 1) := by decide +kernel
theorem dX7_backLine_0 : decode cX7_backLine 0 = .ok (.iconst 0, 1) := by decide +kernel
theorem dX7_backLine_1 : decode cX7_backLine 1 = .ok (.istore_n 2, 1) := by decide +kernel
theorem dX7_backLine_2 : decode cX7_backLine 2 = .ok (.iload_n 2, 1) := by decide +kernel
theorem dX7_backLine_3 : decode cX7_backLine 3 = .ok (.bipush 8, 2) := by decide +kernel
theorem dX7_backLine_5 : decode cX7_backLine 5 = .ok (.if_icmp .ge 26, 3) := by decide +kernel
theorem dX7_backLine_8 : decode cX7_backLine 8 = .ok (.aload_n 0, 1) := by decide +kernel
theorem dX7_backLine_9 : decode cX7_backLine 9 = .ok (.getfield 16, 3) := by decide +kernel
theorem dX7_backLine_12 : decode cX7_backLine 12 = .ok (.bipush 8, 2) := by decide +kernel
theorem dX7_backLine_14 : decode cX7_backLine 14 = .ok (.iload_n 1, 1) := by decide +kernel
theorem dX7_backLine_15 : decode cX7_backLine 15 = .ok (.imul, 1) := by decide +kernel
theorem dX7_backLine_16 : decode cX7_backLine 16 = .ok (.iload_n 2, 1) := by decide +kernel
theorem dX7_backLine_17 : decode cX7_backLine 17 = .ok (.iadd, 1) := by decide +kernel
theorem dX7_backLine_18 : decode cX7_backLine 18 = .ok (.aload_n 0, 1) := by decide +kernel
theorem dX7_backLine_19 : decode cX7_backLine 19 = .ok (.getfield 160, 3) := by decide +kernel
theorem dX7_backLine_22 : decode cX7_backLine 22 = .ok (.iload_n 2, 1) := by decide +kernel
theorem dX7_backLine_23 : decode cX7_backLine 23 = .ok (.iaload, 1) := by decide +kernel
theorem dX7_backLine_24 : decode cX7_backLine 24 = .ok (.iastore, 1) := by decide +kernel
theorem dX7_backLine_25 : decode cX7_backLine 25 = .ok (.iinc 2 1, 3) := by decide +kernel
theorem dX7_backLine_28 : decode cX7_backLine 28 = .ok (.goto (-26), 3) := by decide +kernel
theorem dX7_backLine_31 : decode cX7_backLine 31 = .ok (.return_, 1) := by decide +kernel
set_option maxRecDepth 20000 in
theorem mc_X7_line_X7_line_r1 : mjIn wsX7_line wsX7_line_r1 := fun w h => (List.mem_cons_of_mem _ (List.mem_append_left _ (List.mem_append_left _ h)))
set_option maxRecDepth 20000 in
theorem mc_X7_line_X70 : mjIn wsX7_line wsX70 := fun w h => (List.mem_cons_of_mem _ (List.mem_append_right _ h))
set_option maxRecDepth 20000 in
theorem ggX7_line_X7_no : GoodIn wsX7_line wsX7_no := mj_good (mj_cons (mc_X7_line_X7_line_r1 _ (List.mem_of_getElem? (i := 10) rfl)) (mj_app (mj_cons (mc_X7_line_X7_line_r1 _ (List.mem_of_getElem? (i := 1) rfl)) mj_nil) mc_X7_line_X70)) (by decide +kernel)
set_option maxRecDepth 20000 in
theorem gX7_line_X7_no : GoodIn wsX7_line (wsV RX7 327 RX7 yX7_no wsX7_no) := goodIn_app (mj_good (mj_cons (mc_X7_line_X7_line_r1 _ (List.mem_of_getElem? (i := 6) rfl)) (mj_cons (mc_X7_line_X7_line_r1 _ (List.mem_of_getElem? (i := 7) rfl)) (mj_cons (mc_X7_line_X7_line_r1 _ (List.mem_of_getElem? (i := 8) rfl)) (mj_cons (mc_X7_line_X7_line_r1 _ (List.mem_of_getElem? (i := 9) rfl)) mj_nil)))) (by decide +kernel)) ggX7_line_X7_no
set_option maxRecDepth 20000 in
theorem ggX7_line_X7_isLine : GoodIn wsX7_line wsX7_isLine := mj_good (mj_cons (mc_X7_line_X7_line_r1 _ (List.mem_of_getElem? (i := 14) rfl)) (mj_app (mj_cons (mc_X7_line_X7_line_r1 _ (List.mem_of_getElem? (i := 15) rfl)) mj_nil) mc_X7_line_X70)) (by decide +kernel)
set_option maxRecDepth 20000 in
theorem gX7_line_X7_isLine : GoodIn wsX7_line (wsV RX7 345 RX7 yX7_isLine wsX7_isLine) := goodIn_app (mj_good (mj_cons (mc_X7_line_X7_line_r1 _ (List.mem_of_getElem? (i := 11) rfl)) (mj_cons (mc_X7_line_X7_line_r1 _ (List.mem_of_getElem? (i := 12) rfl)) (mj_cons (mc_X7_line_X7_line_r1 _ (List.mem_of_getElem? (i := 13) rfl)) (mj_cons (mc_X7_line_X7_line_r1 _ (List.mem_of_getElem? (i := 9) rfl)) mj_nil)))) (by decide +kernel)) ggX7_line_X7_isLine
set_option maxRecDepth 20000 in
theorem ggX7_line_X7_keepLine : GoodIn wsX7_line wsX7_keepLine := mj_good (mj_cons (mc_X7_line_X7_line_r1 _ (List.mem_of_getElem? (i := 19) rfl)) (mj_app (mj_cons (mc_X7_line_X7_line_r1 _ (List.mem_of_getElem? (i := 20) rfl)) (mj_cons (mc_X7_line_X7_line_r1 _ (List.mem_of_getElem? (i := 4) rfl)) mj_nil)) mc_X7_line_X70)) (by decide +kernel)
set_option maxRecDepth 20000 in
theorem gX7_line_X7_keepLine : GoodIn wsX7_line (wsV RX7 348 RX7 yX7_keepLine wsX7_keepLine) := goodIn_app (mj_good (mj_cons (mc_X7_line_X7_line_r1 _ (List.mem_of_getElem? (i := 16) rfl)) (mj_cons (mc_X7_line_X7_line_r1 _ (List.mem_of_getElem? (i := 17) rfl)) (mj_cons (mc_X7_line_X7_line_r1 _ (List.mem_of_getElem? (i := 18) rfl)) (mj_cons (mc_X7_line_X7_line_r1 _ (List.mem_of_getElem? (i := 9) rfl)) mj_nil)))) (by decide +kernel)) ggX7_line_X7_keepLine
set_option maxRecDepth 20000 in
theorem mc_X7_line_X7_line_r2 : mjIn wsX7_line wsX7_line_r2 := fun w h => (List.mem_cons_of_mem _ (List.mem_append_left _ (List.mem_append_right _ (List.mem_append_left _ h))))
set_option maxRecDepth 20000 in
theorem mc_X7_line_X7_line_r3 : mjIn wsX7_line wsX7_line_r3 := fun w h => (List.mem_cons_of_mem _ (List.mem_append_left _ (List.mem_append_right _ (List.mem_append_right _ (List.mem_append_left _ h)))))
set_option maxRecDepth 20000 in
theorem ggX7_line_X7_isUnder : GoodIn wsX7_line wsX7_isUnder := mj_good (mj_cons (mc_X7_line_X7_line_r2 _ (List.mem_of_getElem? (i := 0) rfl)) (mj_app (mj_app (mj_cons (mc_X7_line_X7_line_r2 _ (List.mem_of_getElem? (i := 1) rfl)) (mj_cons (mc_X7_line_X7_line_r2 _ (List.mem_of_getElem? (i := 2) rfl)) (mj_cons (mc_X7_line_X7_line_r2 _ (List.mem_of_getElem? (i := 3) rfl)) (mj_cons (mc_X7_line_X7_line_r2 _ (List.mem_of_getElem? (i := 4) rfl)) (mj_cons (mc_X7_line_X7_line_r2 _ (List.mem_of_getElem? (i := 5) rfl)) (mj_cons (mc_X7_line_X7_line_r1 _ (List.mem_of_getElem? (i := 9) rfl)) (mj_cons (mc_X7_line_X7_line_r2 _ (List.mem_of_getElem? (i := 6) rfl)) (mj_cons (mc_X7_line_X7_line_r2 _ (List.mem_of_getElem? (i := 7) rfl)) (mj_cons (mc_X7_line_X7_line_r2 _ (List.mem_of_getElem? (i := 8) rfl)) (mj_cons (mc_X7_line_X7_line_r2 _ (List.mem_of_getElem? (i := 9) rfl)) (mj_cons (mc_X7_line_X7_line_r2 _ (List.mem_of_getElem? (i := 10) rfl)) (mj_cons (mc_X7_line_X7_line_r2 _ (List.mem_of_getElem? (i := 11) rfl)) (mj_cons (mc_X7_line_X7_line_r2 _ (List.mem_of_getElem? (i := 12) rfl)) (mj_cons (mc_X7_line_X7_line_r2 _ (List.mem_of_getElem? (i := 13) rfl)) (mj_cons (mc_X7_line_X7_line_r2 _ (List.mem_of_getElem? (i := 14) rfl)) (mj_cons (mc_X7_line_X7_line_r2 _ (List.mem_of_getElem? (i := 15) rfl)) (mj_cons (mc_X7_line_X7_line_r2 _ (List.mem_of_getElem? (i := 16) rfl)) (mj_cons (mc_X7_line_X7_line_r2 _ (List.mem_of_getElem? (i := 17) rfl)) (mj_cons (mc_X7_line_X7_line_r2 _ (List.mem_of_getElem? (i := 18) rfl)) (mj_cons (mc_X7_line_X7_line_r2 _ (List.mem_of_getElem? (i := 19) rfl)) (mj_cons (mc_X7_line_X7_line_r2 _ (List.mem_of_getElem? (i := 20) rfl)) (mj_cons (mc_X7_line_X7_line_r2 _ (List.mem_of_getElem? (i := 21) rfl)) (mj_cons (mc_X7_line_X7_line_r2 _ (List.mem_of_getElem? (i := 22) rfl)) (mj_cons (mc_X7_line_X7_line_r2 _ (List.mem_of_getElem? (i := 23) rfl)) mj_nil)))))))))))))))))))))))) (mj_cons (mc_X7_line_X7_line_r3 _ (List.mem_of_getElem? (i := 0) rfl)) (mj_cons (mc_X7_line_X7_line_r3 _ (List.mem_of_getElem? (i := 1) rfl)) (mj_cons (mc_X7_line_X7_line_r3 _ (List.mem_of_getElem? (i := 2) rfl)) (mj_cons (mc_X7_line_X7_line_r3 _ (List.mem_of_getElem? (i := 3) rfl)) (mj_cons (mc_X7_line_X7_line_r3 _ (List.mem_of_getElem? (i := 4) rfl)) (mj_cons (mc_X7_line_X7_line_r3 _ (List.mem_of_getElem? (i := 5) rfl)) (mj_cons (mc_X7_line_X7_line_r3 _ (List.mem_of_getElem? (i := 6) rfl)) (mj_cons (mc_X7_line_X7_line_r3 _ (List.mem_of_getElem? (i := 7) rfl)) (mj_cons (mc_X7_line_X7_line_r3 _ (List.mem_of_getElem? (i := 8) rfl)) (mj_cons (mc_X7_line_X7_line_r3 _ (List.mem_of_getElem? (i := 9) rfl)) (mj_cons (mc_X7_line_X7_line_r3 _ (List.mem_of_getElem? (i := 10) rfl)) (mj_cons (mc_X7_line_X7_line_r3 _ (List.mem_of_getElem? (i := 11) rfl)) (mj_cons (mc_X7_line_X7_line_r3 _ (List.mem_of_getElem? (i := 12) rfl)) (mj_cons (mc_X7_line_X7_line_r1 _ (List.mem_of_getElem? (i := 3) rfl)) (mj_cons (mc_X7_line_X7_line_r1 _ (List.mem_of_getElem? (i := 4) rfl)) mj_nil)))))))))))))))) mc_X7_line_X70)) (by decide +kernel)
set_option maxRecDepth 20000 in
theorem gX7_line_X7_isUnder : GoodIn wsX7_line (wsV RX7 351 RX7 yX7_isUnder wsX7_isUnder) := goodIn_app (mj_good (mj_cons (mc_X7_line_X7_line_r1 _ (List.mem_of_getElem? (i := 21) rfl)) (mj_cons (mc_X7_line_X7_line_r1 _ (List.mem_of_getElem? (i := 22) rfl)) (mj_cons (mc_X7_line_X7_line_r1 _ (List.mem_of_getElem? (i := 23) rfl)) (mj_cons (mc_X7_line_X7_line_r1 _ (List.mem_of_getElem? (i := 9) rfl)) mj_nil)))) (by decide +kernel)) ggX7_line_X7_isUnder
set_option maxRecDepth 20000 in
theorem ggX7_line_X7_backLine : GoodIn wsX7_line wsX7_backLine := mj_good (mj_cons (mc_X7_line_X7_line_r3 _ (List.mem_of_getElem? (i := 16) rfl)) (mj_app (mj_cons (mc_X7_line_X7_line_r1 _ (List.mem_of_getElem? (i := 4) rfl)) (mj_cons (mc_X7_line_X7_line_r1 _ (List.mem_of_getElem? (i := 20) rfl)) mj_nil)) mc_X7_line_X70)) (by decide +kernel)
set_option maxRecDepth 20000 in
theorem gX7_line_X7_backLine : GoodIn wsX7_line (wsV RX7 354 RX7 yX7_backLine wsX7_backLine) := goodIn_app (mj_good (mj_cons (mc_X7_line_X7_line_r3 _ (List.mem_of_getElem? (i := 13) rfl)) (mj_cons (mc_X7_line_X7_line_r3 _ (List.mem_of_getElem? (i := 14) rfl)) (mj_cons (mc_X7_line_X7_line_r3 _ (List.mem_of_getElem? (i := 15) rfl)) (mj_cons (mc_X7_line_X7_line_r1 _ (List.mem_of_getElem? (i := 9) rfl)) mj_nil)))) (by decide +kernel)) ggX7_line_X7_backLine
set_option maxRecDepth 20000 in
theorem ggX7_line_X7_walls : GoodIn wsX7_line wsX7_walls := mj_good (mj_cons (mc_X7_line_X7_line_r3 _ (List.mem_of_getElem? (i := 20) rfl)) (mj_app (mj_cons (mc_X7_line_X7_line_r2 _ (List.mem_of_getElem? (i := 1) rfl)) (mj_cons (mc_X7_line_X7_line_r3 _ (List.mem_of_getElem? (i := 21) rfl)) (mj_cons (mc_X7_line_X7_line_r3 _ (List.mem_of_getElem? (i := 9) rfl)) (mj_cons (mc_X7_line_X7_line_r3 _ (List.mem_of_getElem? (i := 10) rfl)) (mj_cons (mc_X7_line_X7_line_r3 _ (List.mem_of_getElem? (i := 11) rfl)) (mj_cons (mc_X7_line_X7_line_r1 _ (List.mem_of_getElem? (i := 9) rfl)) (mj_cons (mc_X7_line_X7_line_r3 _ (List.mem_of_getElem? (i := 12) rfl)) (mj_cons (mc_X7_line_X7_line_r1 _ (List.mem_of_getElem? (i := 3) rfl)) (mj_cons (mc_X7_line_X7_line_r1 _ (List.mem_of_getElem? (i := 4) rfl)) mj_nil))))))))) mc_X7_line_X70)) (by decide +kernel)
set_option maxRecDepth 20000 in
theorem gX7_line_X7_walls : GoodIn wsX7_line (wsV RX7 357 RX7 yX7_walls wsX7_walls) := goodIn_app (mj_good (mj_cons (mc_X7_line_X7_line_r3 _ (List.mem_of_getElem? (i := 17) rfl)) (mj_cons (mc_X7_line_X7_line_r3 _ (List.mem_of_getElem? (i := 18) rfl)) (mj_cons (mc_X7_line_X7_line_r3 _ (List.mem_of_getElem? (i := 19) rfl)) (mj_cons (mc_X7_line_X7_line_r1 _ (List.mem_of_getElem? (i := 9) rfl)) mj_nil)))) (by decide +kernel)) ggX7_line_X7_walls
set_option maxRecDepth 20000 in
theorem mc_X7_line_X7_line_r4 : mjIn wsX7_line wsX7_line_r4 := fun w h => (List.mem_cons_of_mem _ (List.mem_append_left _ (List.mem_append_right _ (List.mem_append_right _ (List.mem_append_right _ h)))))
set_option maxRecDepth 20000 in
theorem ggX7_line_X7_ends : GoodIn wsX7_line wsX7_ends := mj_good (mj_cons (mc_X7_line_X7_line_r4 _ (List.mem_of_getElem? (i := 1) rfl)) (mj_app (mj_cons (mc_X7_line_X7_line_r4 _ (List.mem_of_getElem? (i := 2) rfl)) (mj_cons (mc_X7_line_X7_line_r4 _ (List.mem_of_getElem? (i := 3) rfl)) (mj_cons (mc_X7_line_X7_line_r4 _ (List.mem_of_getElem? (i := 4) rfl)) (mj_cons (mc_X7_line_X7_line_r1 _ (List.mem_of_getElem? (i := 9) rfl)) (mj_cons (mc_X7_line_X7_line_r4 _ (List.mem_of_getElem? (i := 5) rfl)) (mj_cons (mc_X7_line_X7_line_r4 _ (List.mem_of_getElem? (i := 6) rfl)) (mj_cons (mc_X7_line_X7_line_r4 _ (List.mem_of_getElem? (i := 7) rfl)) mj_nil))))))) mc_X7_line_X70)) (by decide +kernel)
set_option maxRecDepth 20000 in
theorem gX7_line_X7_ends : GoodIn wsX7_line (wsV RX7 342 RX7 yX7_ends wsX7_ends) := goodIn_app (mj_good (mj_cons (mc_X7_line_X7_line_r3 _ (List.mem_of_getElem? (i := 22) rfl)) (mj_cons (mc_X7_line_X7_line_r3 _ (List.mem_of_getElem? (i := 23) rfl)) (mj_cons (mc_X7_line_X7_line_r4 _ (List.mem_of_getElem? (i := 0) rfl)) (mj_cons (mc_X7_line_X7_line_r1 _ (List.mem_of_getElem? (i := 9) rfl)) mj_nil)))) (by decide +kernel)) ggX7_line_X7_ends
theorem dX7_line_0 : decode cX7_line 0 = .ok (.aload_n 0, 1) := by decide +kernel
theorem dX7_line_1 : decode cX7_line 1 = .ok (.iconst 0, 1) := by decide +kernel
theorem dX7_line_2 : decode cX7_line 2 = .ok (.putfield 184, 3) := by decide +kernel
theorem dX7_line_5 : decode cX7_line 5 = .ok (.aload_n 0, 1) := by decide +kernel
theorem dX7_line_6 : decode cX7_line 6 = .ok (.iconst 0, 1) := by decide +kernel
theorem dX7_line_7 : decode cX7_line 7 = .ok (.putfield 187, 3) := by decide +kernel
theorem dX7_line_10 : decode cX7_line 10 = .ok (.aload_n 0, 1) := by decide +kernel
theorem dX7_line_11 : decode cX7_line 11 = .ok (.getfield 303, 3) := by decide +kernel
theorem dX7_line_14 : decode cX7_line 14 = .ok (.ifCond .ne 9, 3) := by decide +kernel
theorem dX7_line_17 : decode cX7_line 17 = .ok (.aload_n 0, 1) := by decide +kernel
theorem dX7_line_18 : decode cX7_line 18 = .ok (.iconst 1, 1) := by decide +kernel
theorem dX7_line_19 : decode cX7_line 19 = .ok (.invokevirtual 327, 3) := by decide +kernel
theorem dX7_line_22 : decode cX7_line 22 = .ok (.ireturn, 1) := by decide +kernel
theorem dX7_line_23 : decode cX7_line 23 = .ok (.aload_n 0, 1) := by decide +kernel
theorem dX7_line_24 : decode cX7_line 24 = .ok (.iload_n 1, 1) := by decide +kernel
theorem dX7_line_25 : decode cX7_line 25 = .ok (.invokevirtual 345, 3) := by decide +kernel
theorem dX7_line_28 : decode cX7_line 28 = .ok (.ifCond .eq 18, 3) := by decide +kernel
theorem dX7_line_31 : decode cX7_line 31 = .ok (.iload_n 2, 1) := by decide +kernel
theorem dX7_line_32 : decode cX7_line 32 = .ok (.ifCond .lt 14, 3) := by decide +kernel
theorem dX7_line_35 : decode cX7_line 35 = .ok (.iload_n 2, 1) := by decide +kernel
theorem dX7_line_36 : decode cX7_line 36 = .ok (.iconst 2, 1) := by decide +kernel
theorem dX7_line_37 : decode cX7_line 37 = .ok (.if_icmp .gt 9, 3) := by decide +kernel
theorem dX7_line_40 : decode cX7_line 40 = .ok (.iload_n 3, 1) := by decide +kernel
theorem dX7_line_41 : decode cX7_line 41 = .ok (.bipush 8, 2) := by decide +kernel
theorem dX7_line_43 : decode cX7_line 43 = .ok (.if_icmp .le 9, 3) := by decide +kernel
theorem dX7_line_46 : decode cX7_line 46 = .ok (.aload_n 0, 1) := by decide +kernel
theorem dX7_line_47 : decode cX7_line 47 = .ok (.iconst 2, 1) := by decide +kernel
theorem dX7_line_48 : decode cX7_line 48 = .ok (.invokevirtual 327, 3) := by decide +kernel
theorem dX7_line_51 : decode cX7_line 51 = .ok (.ireturn, 1) := by decide +kernel
theorem dX7_line_52 : decode cX7_line 52 = .ok (.iload_n 3, 1) := by decide +kernel
theorem dX7_line_53 : decode cX7_line 53 = .ok (.ifCond .ge 10, 3) := by decide +kernel
theorem dX7_line_56 : decode cX7_line 56 = .ok (.aload_n 0, 1) := by decide +kernel
theorem dX7_line_57 : decode cX7_line 57 = .ok (.bipush 6, 2) := by decide +kernel
theorem dX7_line_59 : decode cX7_line 59 = .ok (.invokevirtual 327, 3) := by decide +kernel
theorem dX7_line_62 : decode cX7_line 62 = .ok (.ireturn, 1) := by decide +kernel
theorem dX7_line_63 : decode cX7_line 63 = .ok (.aload_n 0, 1) := by decide +kernel
theorem dX7_line_64 : decode cX7_line 64 = .ok (.getfield 13, 3) := by decide +kernel
theorem dX7_line_67 : decode cX7_line 67 = .ok (.iload_n 1, 1) := by decide +kernel
theorem dX7_line_68 : decode cX7_line 68 = .ok (.iaload, 1) := by decide +kernel
theorem dX7_line_69 : decode cX7_line 69 = .ok (.istore 4, 2) := by decide +kernel
theorem dX7_line_71 : decode cX7_line 71 = .ok (.aload_n 0, 1) := by decide +kernel
theorem dX7_line_72 : decode cX7_line 72 = .ok (.iload_n 1, 1) := by decide +kernel
theorem dX7_line_73 : decode cX7_line 73 = .ok (.invokevirtual 348, 3) := by decide +kernel
theorem dX7_line_76 : decode cX7_line 76 = .ok (.aload_n 0, 1) := by decide +kernel
theorem dX7_line_77 : decode cX7_line 77 = .ok (.getfield 13, 3) := by decide +kernel
theorem dX7_line_80 : decode cX7_line 80 = .ok (.iload_n 1, 1) := by decide +kernel
theorem dX7_line_81 : decode cX7_line 81 = .ok (.iload_n 3, 1) := by decide +kernel
theorem dX7_line_82 : decode cX7_line 82 = .ok (.iastore, 1) := by decide +kernel
theorem dX7_line_83 : decode cX7_line 83 = .ok (.iconst 0, 1) := by decide +kernel
theorem dX7_line_84 : decode cX7_line 84 = .ok (.istore 5, 2) := by decide +kernel
theorem dX7_line_86 : decode cX7_line 86 = .ok (.iload 5, 2) := by decide +kernel
theorem dX7_line_88 : decode cX7_line 88 = .ok (.bipush 8, 2) := by decide +kernel
theorem dX7_line_90 : decode cX7_line 90 = .ok (.if_icmp .ge 22, 3) := by decide +kernel
theorem dX7_line_93 : decode cX7_line 93 = .ok (.aload_n 0, 1) := by decide +kernel
theorem dX7_line_94 : decode cX7_line 94 = .ok (.getfield 16, 3) := by decide +kernel
theorem dX7_line_97 : decode cX7_line 97 = .ok (.bipush 8, 2) := by decide +kernel
theorem dX7_line_99 : decode cX7_line 99 = .ok (.iload_n 1, 1) := by decide +kernel
theorem dX7_line_100 : decode cX7_line 100 = .ok (.imul, 1) := by decide +kernel
theorem dX7_line_101 : decode cX7_line 101 = .ok (.iload 5, 2) := by decide +kernel
theorem dX7_line_103 : decode cX7_line 103 = .ok (.iadd, 1) := by decide +kernel
theorem dX7_line_104 : decode cX7_line 104 = .ok (.iconst 0, 1) := by decide +kernel
theorem dX7_line_105 : decode cX7_line 105 = .ok (.iastore, 1) := by decide +kernel
theorem dX7_line_106 : decode cX7_line 106 = .ok (.iinc 5 1, 3) := by decide +kernel
theorem dX7_line_109 : decode cX7_line 109 = .ok (.goto (-23), 3) := by decide +kernel
theorem dX7_line_112 : decode cX7_line 112 = .ok (.aload_n 0, 1) := by decide +kernel
theorem dX7_line_113 : decode cX7_line 113 = .ok (.iload_n 1, 1) := by decide +kernel
theorem dX7_line_114 : decode cX7_line 114 = .ok (.invokevirtual 351, 3) := by decide +kernel
theorem dX7_line_117 : decode cX7_line 117 = .ok (.ifCond .eq 23, 3) := by decide +kernel
theorem dX7_line_120 : decode cX7_line 120 = .ok (.aload_n 0, 1) := by decide +kernel
theorem dX7_line_121 : decode cX7_line 121 = .ok (.getfield 13, 3) := by decide +kernel
theorem dX7_line_124 : decode cX7_line 124 = .ok (.iload_n 1, 1) := by decide +kernel
theorem dX7_line_125 : decode cX7_line 125 = .ok (.iload 4, 2) := by decide +kernel
theorem dX7_line_127 : decode cX7_line 127 = .ok (.iastore, 1) := by decide +kernel
theorem dX7_line_128 : decode cX7_line 128 = .ok (.aload_n 0, 1) := by decide +kernel
theorem dX7_line_129 : decode cX7_line 129 = .ok (.iload_n 1, 1) := by decide +kernel
theorem dX7_line_130 : decode cX7_line 130 = .ok (.invokevirtual 354, 3) := by decide +kernel
theorem dX7_line_133 : decode cX7_line 133 = .ok (.aload_n 0, 1) := by decide +kernel
theorem dX7_line_134 : decode cX7_line 134 = .ok (.bipush 7, 2) := by decide +kernel
theorem dX7_line_136 : decode cX7_line 136 = .ok (.invokevirtual 327, 3) := by decide +kernel
theorem dX7_line_139 : decode cX7_line 139 = .ok (.ireturn, 1) := by decide +kernel
theorem dX7_line_140 : decode cX7_line 140 = .ok (.aload_n 0, 1) := by decide +kernel
theorem dX7_line_141 : decode cX7_line 141 = .ok (.getfield 7, 3) := by decide +kernel
theorem dX7_line_144 : decode cX7_line 144 = .ok (.iload_n 1, 1) := by decide +kernel
theorem dX7_line_145 : decode cX7_line 145 = .ok (.iload_n 2, 1) := by decide +kernel
theorem dX7_line_146 : decode cX7_line 146 = .ok (.iastore, 1) := by decide +kernel
theorem dX7_line_147 : decode cX7_line 147 = .ok (.aload_n 0, 1) := by decide +kernel
theorem dX7_line_148 : decode cX7_line 148 = .ok (.iload_n 1, 1) := by decide +kernel
theorem dX7_line_149 : decode cX7_line 149 = .ok (.invokevirtual 357, 3) := by decide +kernel
theorem dX7_line_152 : decode cX7_line 152 = .ok (.aload_n 0, 1) := by decide +kernel
theorem dX7_line_153 : decode cX7_line 153 = .ok (.invokevirtual 342, 3) := by decide +kernel
theorem dX7_line_156 : decode cX7_line 156 = .ok (.iconst 1, 1) := by decide +kernel
theorem dX7_line_157 : decode cX7_line 157 = .ok (.ireturn, 1) := by decide +kernel
set_option maxRecDepth 20000 in
theorem mc_X7_numbered_X70 : mjIn wsX7_numbered wsX70 := fun w h => (List.mem_cons_of_mem _ (List.mem_append_right _ h))
set_option maxRecDepth 20000 in
theorem ggX7_numbered_X7_isLine : GoodIn wsX7_numbered wsX7_isLine := mj_good (mj_cons (List.mem_of_getElem? (i := 7) rfl) (mj_app (mj_cons (List.mem_of_getElem? (i := 8) rfl) mj_nil) mc_X7_numbered_X70)) (by decide +kernel)
set_option maxRecDepth 20000 in
theorem gX7_numbered_X7_isLine : GoodIn wsX7_numbered (wsV RX7 345 RX7 yX7_isLine wsX7_isLine) := goodIn_app (mj_good (mj_cons (List.mem_of_getElem? (i := 3) rfl) (mj_cons (List.mem_of_getElem? (i := 4) rfl) (mj_cons (List.mem_of_getElem? (i := 5) rfl) (mj_cons (List.mem_of_getElem? (i := 6) rfl) mj_nil)))) (by decide +kernel)) ggX7_numbered_X7_isLine
theorem dX7_numbered_0 : decode cX7_numbered 0 = .ok (.aload_n 0, 1) := by decide +kernel
theorem dX7_numbered_1 : decode cX7_numbered 1 = .ok (.getfield 303, 3) := by decide +kernel
theorem dX7_numbered_4 : decode cX7_numbered 4 = .ok (.ifCond .ne 5, 3) := by decide +kernel
theorem dX7_numbered_7 : decode cX7_numbered 7 = .ok (.iconst 1, 1) := by decide +kernel
theorem dX7_numbered_8 : decode cX7_numbered 8 = .ok (.ireturn, 1) := by decide +kernel
theorem dX7_numbered_9 : decode cX7_numbered 9 = .ok (.aload_n 0, 1) := by decide +kernel
theorem dX7_numbered_10 : decode cX7_numbered 10 = .ok (.iload_n 1, 1) := by decide +kernel
theorem dX7_numbered_11 : decode cX7_numbered 11 = .ok (.invokevirtual 345, 3) := by decide +kernel
theorem dX7_numbered_14 : decode cX7_numbered 14 = .ok (.ifCond .ne 5, 3) := by decide +kernel
theorem dX7_numbered_17 : decode cX7_numbered 17 = .ok (.iconst 2, 1) := by decide +kernel
theorem dX7_numbered_18 : decode cX7_numbered 18 = .ok (.ireturn, 1) := by decide +kernel
theorem dX7_numbered_19 : decode cX7_numbered 19 = .ok (.aload_n 0, 1) := by decide +kernel
theorem dX7_numbered_20 : decode cX7_numbered 20 = .ok (.getfield 13, 3) := by decide +kernel
theorem dX7_numbered_23 : decode cX7_numbered 23 = .ok (.iload_n 1, 1) := by decide +kernel
theorem dX7_numbered_24 : decode cX7_numbered 24 = .ok (.iaload, 1) := by decide +kernel
theorem dX7_numbered_25 : decode cX7_numbered 25 = .ok (.ifCond .ge 7, 3) := by decide +kernel
theorem dX7_numbered_28 : decode cX7_numbered 28 = .ok (.iconst 3, 1) := by decide +kernel
theorem dX7_numbered_29 : decode cX7_numbered 29 = .ok (.goto 22, 3) := by decide +kernel
theorem dX7_numbered_32 : decode cX7_numbered 32 = .ok (.iload_n 2, 1) := by decide +kernel
theorem dX7_numbered_33 : decode cX7_numbered 33 = .ok (.ifCond .lt 13, 3) := by decide +kernel
theorem dX7_numbered_36 : decode cX7_numbered 36 = .ok (.iload_n 2, 1) := by decide +kernel
theorem dX7_numbered_37 : decode cX7_numbered 37 = .ok (.aload_n 0, 1) := by decide +kernel
theorem dX7_numbered_38 : decode cX7_numbered 38 = .ok (.getfield 13, 3) := by decide +kernel
theorem dX7_numbered_41 : decode cX7_numbered 41 = .ok (.iload_n 1, 1) := by decide +kernel
theorem dX7_numbered_42 : decode cX7_numbered 42 = .ok (.iaload, 1) := by decide +kernel
theorem dX7_numbered_43 : decode cX7_numbered 43 = .ok (.if_icmp .lt 7, 3) := by decide +kernel
theorem dX7_numbered_46 : decode cX7_numbered 46 = .ok (.iconst 4, 1) := by decide +kernel
theorem dX7_numbered_47 : decode cX7_numbered 47 = .ok (.goto 4, 3) := by decide +kernel
theorem dX7_numbered_50 : decode cX7_numbered 50 = .ok (.iconst 0, 1) := by decide +kernel
theorem dX7_numbered_51 : decode cX7_numbered 51 = .ok (.ireturn, 1) := by decide +kernel
set_option maxRecDepth 20000 in
theorem mc_X7_set_X7_set_r1 : mjIn wsX7_set wsX7_set_r1 := fun w h => (List.mem_cons_of_mem _ (List.mem_append_left _ (List.mem_append_left _ h)))
set_option maxRecDepth 20000 in
theorem mc_X7_set_X70 : mjIn wsX7_set wsX70 := fun w h => (List.mem_cons_of_mem _ (List.mem_append_right _ h))
set_option maxRecDepth 20000 in
theorem ggX7_set_X7_numbered : GoodIn wsX7_set wsX7_numbered := mj_good (mj_cons (mc_X7_set_X7_set_r1 _ (List.mem_of_getElem? (i := 8) rfl)) (mj_app (mj_cons (mc_X7_set_X7_set_r1 _ (List.mem_of_getElem? (i := 9) rfl)) (mj_cons (mc_X7_set_X7_set_r1 _ (List.mem_of_getElem? (i := 10) rfl)) (mj_cons (mc_X7_set_X7_set_r1 _ (List.mem_of_getElem? (i := 11) rfl)) (mj_cons (mc_X7_set_X7_set_r1 _ (List.mem_of_getElem? (i := 12) rfl)) (mj_cons (mc_X7_set_X7_set_r1 _ (List.mem_of_getElem? (i := 13) rfl)) (mj_cons (mc_X7_set_X7_set_r1 _ (List.mem_of_getElem? (i := 7) rfl)) (mj_cons (mc_X7_set_X7_set_r1 _ (List.mem_of_getElem? (i := 14) rfl)) (mj_cons (mc_X7_set_X7_set_r1 _ (List.mem_of_getElem? (i := 15) rfl)) mj_nil)))))))) mc_X7_set_X70)) (by decide +kernel)
set_option maxRecDepth 20000 in
theorem gX7_set_X7_numbered : GoodIn wsX7_set (wsV RX7 360 RX7 yX7_numbered wsX7_numbered) := goodIn_app (mj_good (mj_cons (mc_X7_set_X7_set_r1 _ (List.mem_of_getElem? (i := 4) rfl)) (mj_cons (mc_X7_set_X7_set_r1 _ (List.mem_of_getElem? (i := 5) rfl)) (mj_cons (mc_X7_set_X7_set_r1 _ (List.mem_of_getElem? (i := 6) rfl)) (mj_cons (mc_X7_set_X7_set_r1 _ (List.mem_of_getElem? (i := 7) rfl)) mj_nil)))) (by decide +kernel)) ggX7_set_X7_numbered
set_option maxRecDepth 20000 in
theorem ggX7_set_X7_keepLine : GoodIn wsX7_set wsX7_keepLine := mj_good (mj_cons (mc_X7_set_X7_set_r1 _ (List.mem_of_getElem? (i := 19) rfl)) (mj_app (mj_cons (mc_X7_set_X7_set_r1 _ (List.mem_of_getElem? (i := 20) rfl)) (mj_cons (mc_X7_set_X7_set_r1 _ (List.mem_of_getElem? (i := 2) rfl)) mj_nil)) mc_X7_set_X70)) (by decide +kernel)
set_option maxRecDepth 20000 in
theorem gX7_set_X7_keepLine : GoodIn wsX7_set (wsV RX7 348 RX7 yX7_keepLine wsX7_keepLine) := goodIn_app (mj_good (mj_cons (mc_X7_set_X7_set_r1 _ (List.mem_of_getElem? (i := 16) rfl)) (mj_cons (mc_X7_set_X7_set_r1 _ (List.mem_of_getElem? (i := 17) rfl)) (mj_cons (mc_X7_set_X7_set_r1 _ (List.mem_of_getElem? (i := 18) rfl)) (mj_cons (mc_X7_set_X7_set_r1 _ (List.mem_of_getElem? (i := 7) rfl)) mj_nil)))) (by decide +kernel)) ggX7_set_X7_keepLine
set_option maxRecDepth 20000 in
theorem mc_X7_set_X7_set_r2 : mjIn wsX7_set wsX7_set_r2 := fun w h => (List.mem_cons_of_mem _ (List.mem_append_left _ (List.mem_append_right _ (List.mem_append_left _ h))))
set_option maxRecDepth 20000 in
theorem ggX7_set_X7_cutTo : GoodIn wsX7_set wsX7_cutTo := mj_good (mj_cons (mc_X7_set_X7_set_r2 _ (List.mem_of_getElem? (i := 0) rfl)) mj_nil) (by decide +kernel)
set_option maxRecDepth 20000 in
theorem gX7_set_X7_cutTo : GoodIn wsX7_set (wsV RX7 363 RX7 yX7_cutTo wsX7_cutTo) := goodIn_app (mj_good (mj_cons (mc_X7_set_X7_set_r1 _ (List.mem_of_getElem? (i := 21) rfl)) (mj_cons (mc_X7_set_X7_set_r1 _ (List.mem_of_getElem? (i := 22) rfl)) (mj_cons (mc_X7_set_X7_set_r1 _ (List.mem_of_getElem? (i := 23) rfl)) (mj_cons (mc_X7_set_X7_set_r1 _ (List.mem_of_getElem? (i := 7) rfl)) mj_nil)))) (by decide +kernel)) ggX7_set_X7_cutTo
set_option maxRecDepth 20000 in
theorem mc_X7_set_X7_set_r3 : mjIn wsX7_set wsX7_set_r3 := fun w h => (List.mem_cons_of_mem _ (List.mem_append_left _ (List.mem_append_right _ (List.mem_append_right _ (List.mem_append_left _ h)))))
set_option maxRecDepth 20000 in
theorem ggX7_set_X7_isUnder : GoodIn wsX7_set wsX7_isUnder := mj_good (mj_cons (mc_X7_set_X7_set_r2 _ (List.mem_of_getElem? (i := 4) rfl)) (mj_app (mj_app (mj_cons (mc_X7_set_X7_set_r2 _ (List.mem_of_getElem? (i := 5) rfl)) (mj_cons (mc_X7_set_X7_set_r2 _ (List.mem_of_getElem? (i := 6) rfl)) (mj_cons (mc_X7_set_X7_set_r2 _ (List.mem_of_getElem? (i := 7) rfl)) (mj_cons (mc_X7_set_X7_set_r2 _ (List.mem_of_getElem? (i := 8) rfl)) (mj_cons (mc_X7_set_X7_set_r2 _ (List.mem_of_getElem? (i := 9) rfl)) (mj_cons (mc_X7_set_X7_set_r1 _ (List.mem_of_getElem? (i := 7) rfl)) (mj_cons (mc_X7_set_X7_set_r2 _ (List.mem_of_getElem? (i := 10) rfl)) (mj_cons (mc_X7_set_X7_set_r2 _ (List.mem_of_getElem? (i := 11) rfl)) (mj_cons (mc_X7_set_X7_set_r2 _ (List.mem_of_getElem? (i := 12) rfl)) (mj_cons (mc_X7_set_X7_set_r2 _ (List.mem_of_getElem? (i := 13) rfl)) (mj_cons (mc_X7_set_X7_set_r2 _ (List.mem_of_getElem? (i := 14) rfl)) (mj_cons (mc_X7_set_X7_set_r2 _ (List.mem_of_getElem? (i := 15) rfl)) (mj_cons (mc_X7_set_X7_set_r2 _ (List.mem_of_getElem? (i := 16) rfl)) (mj_cons (mc_X7_set_X7_set_r2 _ (List.mem_of_getElem? (i := 17) rfl)) (mj_cons (mc_X7_set_X7_set_r2 _ (List.mem_of_getElem? (i := 18) rfl)) (mj_cons (mc_X7_set_X7_set_r2 _ (List.mem_of_getElem? (i := 19) rfl)) (mj_cons (mc_X7_set_X7_set_r2 _ (List.mem_of_getElem? (i := 20) rfl)) (mj_cons (mc_X7_set_X7_set_r2 _ (List.mem_of_getElem? (i := 21) rfl)) (mj_cons (mc_X7_set_X7_set_r2 _ (List.mem_of_getElem? (i := 22) rfl)) (mj_cons (mc_X7_set_X7_set_r2 _ (List.mem_of_getElem? (i := 23) rfl)) (mj_cons (mc_X7_set_X7_set_r3 _ (List.mem_of_getElem? (i := 0) rfl)) (mj_cons (mc_X7_set_X7_set_r3 _ (List.mem_of_getElem? (i := 1) rfl)) (mj_cons (mc_X7_set_X7_set_r3 _ (List.mem_of_getElem? (i := 2) rfl)) (mj_cons (mc_X7_set_X7_set_r3 _ (List.mem_of_getElem? (i := 3) rfl)) mj_nil)))))))))))))))))))))))) (mj_cons (mc_X7_set_X7_set_r3 _ (List.mem_of_getElem? (i := 4) rfl)) (mj_cons (mc_X7_set_X7_set_r3 _ (List.mem_of_getElem? (i := 5) rfl)) (mj_cons (mc_X7_set_X7_set_r3 _ (List.mem_of_getElem? (i := 6) rfl)) (mj_cons (mc_X7_set_X7_set_r3 _ (List.mem_of_getElem? (i := 7) rfl)) (mj_cons (mc_X7_set_X7_set_r3 _ (List.mem_of_getElem? (i := 8) rfl)) (mj_cons (mc_X7_set_X7_set_r3 _ (List.mem_of_getElem? (i := 9) rfl)) (mj_cons (mc_X7_set_X7_set_r3 _ (List.mem_of_getElem? (i := 10) rfl)) (mj_cons (mc_X7_set_X7_set_r3 _ (List.mem_of_getElem? (i := 11) rfl)) (mj_cons (mc_X7_set_X7_set_r3 _ (List.mem_of_getElem? (i := 12) rfl)) (mj_cons (mc_X7_set_X7_set_r3 _ (List.mem_of_getElem? (i := 13) rfl)) (mj_cons (mc_X7_set_X7_set_r3 _ (List.mem_of_getElem? (i := 14) rfl)) (mj_cons (mc_X7_set_X7_set_r3 _ (List.mem_of_getElem? (i := 15) rfl)) (mj_cons (mc_X7_set_X7_set_r3 _ (List.mem_of_getElem? (i := 16) rfl)) (mj_cons (mc_X7_set_X7_set_r1 _ (List.mem_of_getElem? (i := 10) rfl)) (mj_cons (mc_X7_set_X7_set_r1 _ (List.mem_of_getElem? (i := 2) rfl)) mj_nil)))))))))))))))) mc_X7_set_X70)) (by decide +kernel)
set_option maxRecDepth 20000 in
theorem gX7_set_X7_isUnder : GoodIn wsX7_set (wsV RX7 351 RX7 yX7_isUnder wsX7_isUnder) := goodIn_app (mj_good (mj_cons (mc_X7_set_X7_set_r2 _ (List.mem_of_getElem? (i := 1) rfl)) (mj_cons (mc_X7_set_X7_set_r2 _ (List.mem_of_getElem? (i := 2) rfl)) (mj_cons (mc_X7_set_X7_set_r2 _ (List.mem_of_getElem? (i := 3) rfl)) (mj_cons (mc_X7_set_X7_set_r1 _ (List.mem_of_getElem? (i := 7) rfl)) mj_nil)))) (by decide +kernel)) ggX7_set_X7_isUnder
set_option maxRecDepth 20000 in
theorem ggX7_set_X7_backLine : GoodIn wsX7_set wsX7_backLine := mj_good (mj_cons (mc_X7_set_X7_set_r3 _ (List.mem_of_getElem? (i := 20) rfl)) (mj_app (mj_cons (mc_X7_set_X7_set_r1 _ (List.mem_of_getElem? (i := 2) rfl)) (mj_cons (mc_X7_set_X7_set_r1 _ (List.mem_of_getElem? (i := 20) rfl)) mj_nil)) mc_X7_set_X70)) (by decide +kernel)
set_option maxRecDepth 20000 in
theorem gX7_set_X7_backLine : GoodIn wsX7_set (wsV RX7 354 RX7 yX7_backLine wsX7_backLine) := goodIn_app (mj_good (mj_cons (mc_X7_set_X7_set_r3 _ (List.mem_of_getElem? (i := 17) rfl)) (mj_cons (mc_X7_set_X7_set_r3 _ (List.mem_of_getElem? (i := 18) rfl)) (mj_cons (mc_X7_set_X7_set_r3 _ (List.mem_of_getElem? (i := 19) rfl)) (mj_cons (mc_X7_set_X7_set_r1 _ (List.mem_of_getElem? (i := 7) rfl)) mj_nil)))) (by decide +kernel)) ggX7_set_X7_backLine
set_option maxRecDepth 20000 in
theorem mc_X7_set_X7_set_r4 : mjIn wsX7_set wsX7_set_r4 := fun w h => (List.mem_cons_of_mem _ (List.mem_append_left _ (List.mem_append_right _ (List.mem_append_right _ (List.mem_append_right _ h)))))
set_option maxRecDepth 20000 in
theorem ggX7_set_X7_no : GoodIn wsX7_set wsX7_no := mj_good (mj_cons (mc_X7_set_X7_set_r4 _ (List.mem_of_getElem? (i := 0) rfl)) (mj_app (mj_cons (mc_X7_set_X7_set_r1 _ (List.mem_of_getElem? (i := 1) rfl)) mj_nil) mc_X7_set_X70)) (by decide +kernel)
set_option maxRecDepth 20000 in
theorem gX7_set_X7_no : GoodIn wsX7_set (wsV RX7 327 RX7 yX7_no wsX7_no) := goodIn_app (mj_good (mj_cons (mc_X7_set_X7_set_r3 _ (List.mem_of_getElem? (i := 21) rfl)) (mj_cons (mc_X7_set_X7_set_r3 _ (List.mem_of_getElem? (i := 22) rfl)) (mj_cons (mc_X7_set_X7_set_r3 _ (List.mem_of_getElem? (i := 23) rfl)) (mj_cons (mc_X7_set_X7_set_r1 _ (List.mem_of_getElem? (i := 7) rfl)) mj_nil)))) (by decide +kernel)) ggX7_set_X7_no
set_option maxRecDepth 20000 in
theorem ggX7_set_X7_walls : GoodIn wsX7_set wsX7_walls := mj_good (mj_cons (mc_X7_set_X7_set_r4 _ (List.mem_of_getElem? (i := 4) rfl)) (mj_app (mj_cons (mc_X7_set_X7_set_r2 _ (List.mem_of_getElem? (i := 5) rfl)) (mj_cons (mc_X7_set_X7_set_r4 _ (List.mem_of_getElem? (i := 5) rfl)) (mj_cons (mc_X7_set_X7_set_r3 _ (List.mem_of_getElem? (i := 13) rfl)) (mj_cons (mc_X7_set_X7_set_r3 _ (List.mem_of_getElem? (i := 14) rfl)) (mj_cons (mc_X7_set_X7_set_r3 _ (List.mem_of_getElem? (i := 15) rfl)) (mj_cons (mc_X7_set_X7_set_r1 _ (List.mem_of_getElem? (i := 7) rfl)) (mj_cons (mc_X7_set_X7_set_r3 _ (List.mem_of_getElem? (i := 16) rfl)) (mj_cons (mc_X7_set_X7_set_r1 _ (List.mem_of_getElem? (i := 10) rfl)) (mj_cons (mc_X7_set_X7_set_r1 _ (List.mem_of_getElem? (i := 2) rfl)) mj_nil))))))))) mc_X7_set_X70)) (by decide +kernel)
set_option maxRecDepth 20000 in
theorem gX7_set_X7_walls : GoodIn wsX7_set (wsV RX7 357 RX7 yX7_walls wsX7_walls) := goodIn_app (mj_good (mj_cons (mc_X7_set_X7_set_r4 _ (List.mem_of_getElem? (i := 1) rfl)) (mj_cons (mc_X7_set_X7_set_r4 _ (List.mem_of_getElem? (i := 2) rfl)) (mj_cons (mc_X7_set_X7_set_r4 _ (List.mem_of_getElem? (i := 3) rfl)) (mj_cons (mc_X7_set_X7_set_r1 _ (List.mem_of_getElem? (i := 7) rfl)) mj_nil)))) (by decide +kernel)) ggX7_set_X7_walls
set_option maxRecDepth 20000 in
theorem ggX7_set_X7_ends : GoodIn wsX7_set wsX7_ends := mj_good (mj_cons (mc_X7_set_X7_set_r4 _ (List.mem_of_getElem? (i := 9) rfl)) (mj_app (mj_cons (mc_X7_set_X7_set_r4 _ (List.mem_of_getElem? (i := 10) rfl)) (mj_cons (mc_X7_set_X7_set_r4 _ (List.mem_of_getElem? (i := 11) rfl)) (mj_cons (mc_X7_set_X7_set_r4 _ (List.mem_of_getElem? (i := 12) rfl)) (mj_cons (mc_X7_set_X7_set_r1 _ (List.mem_of_getElem? (i := 7) rfl)) (mj_cons (mc_X7_set_X7_set_r4 _ (List.mem_of_getElem? (i := 13) rfl)) (mj_cons (mc_X7_set_X7_set_r4 _ (List.mem_of_getElem? (i := 14) rfl)) (mj_cons (mc_X7_set_X7_set_r4 _ (List.mem_of_getElem? (i := 15) rfl)) mj_nil))))))) mc_X7_set_X70)) (by decide +kernel)
set_option maxRecDepth 20000 in
theorem gX7_set_X7_ends : GoodIn wsX7_set (wsV RX7 342 RX7 yX7_ends wsX7_ends) := goodIn_app (mj_good (mj_cons (mc_X7_set_X7_set_r4 _ (List.mem_of_getElem? (i := 6) rfl)) (mj_cons (mc_X7_set_X7_set_r4 _ (List.mem_of_getElem? (i := 7) rfl)) (mj_cons (mc_X7_set_X7_set_r4 _ (List.mem_of_getElem? (i := 8) rfl)) (mj_cons (mc_X7_set_X7_set_r1 _ (List.mem_of_getElem? (i := 7) rfl)) mj_nil)))) (by decide +kernel)) ggX7_set_X7_ends
theorem dX7_set_0 : decode cX7_set 0 = .ok (.aload_n 0, 1) := by decide +kernel
theorem dX7_set_1 : decode cX7_set 1 = .ok (.iconst 0, 1) := by decide +kernel
theorem dX7_set_2 : decode cX7_set 2 = .ok (.putfield 184, 3) := by decide +kernel
theorem dX7_set_5 : decode cX7_set 5 = .ok (.aload_n 0, 1) := by decide +kernel
theorem dX7_set_6 : decode cX7_set 6 = .ok (.aload_n 0, 1) := by decide +kernel
theorem dX7_set_7 : decode cX7_set 7 = .ok (.iload_n 1, 1) := by decide +kernel
theorem dX7_set_8 : decode cX7_set 8 = .ok (.iload_n 2, 1) := by decide +kernel
theorem dX7_set_9 : decode cX7_set 9 = .ok (.invokevirtual 360, 3) := by decide +kernel
theorem dX7_set_12 : decode cX7_set 12 = .ok (.putfield 187, 3) := by decide +kernel
theorem dX7_set_15 : decode cX7_set 15 = .ok (.aload_n 0, 1) := by decide +kernel
theorem dX7_set_16 : decode cX7_set 16 = .ok (.getfield 187, 3) := by decide +kernel
theorem dX7_set_19 : decode cX7_set 19 = .ok (.ifCond .le 5, 3) := by decide +kernel
theorem dX7_set_22 : decode cX7_set 22 = .ok (.iconst 0, 1) := by decide +kernel
theorem dX7_set_23 : decode cX7_set 23 = .ok (.ireturn, 1) := by decide +kernel
theorem dX7_set_24 : decode cX7_set 24 = .ok (.aload_n 0, 1) := by decide +kernel
theorem dX7_set_25 : decode cX7_set 25 = .ok (.iload_n 1, 1) := by decide +kernel
theorem dX7_set_26 : decode cX7_set 26 = .ok (.invokevirtual 348, 3) := by decide +kernel
theorem dX7_set_29 : decode cX7_set 29 = .ok (.aload_n 0, 1) := by decide +kernel
theorem dX7_set_30 : decode cX7_set 30 = .ok (.getfield 16, 3) := by decide +kernel
theorem dX7_set_33 : decode cX7_set 33 = .ok (.bipush 8, 2) := by decide +kernel
theorem dX7_set_35 : decode cX7_set 35 = .ok (.iload_n 1, 1) := by decide +kernel
theorem dX7_set_36 : decode cX7_set 36 = .ok (.imul, 1) := by decide +kernel
theorem dX7_set_37 : decode cX7_set 37 = .ok (.iload_n 2, 1) := by decide +kernel
theorem dX7_set_38 : decode cX7_set 38 = .ok (.iadd, 1) := by decide +kernel
theorem dX7_set_39 : decode cX7_set 39 = .ok (.aload_n 0, 1) := by decide +kernel
theorem dX7_set_40 : decode cX7_set 40 = .ok (.aload_n 0, 1) := by decide +kernel
theorem dX7_set_41 : decode cX7_set 41 = .ok (.getfield 7, 3) := by decide +kernel
theorem dX7_set_44 : decode cX7_set 44 = .ok (.iload_n 1, 1) := by decide +kernel
theorem dX7_set_45 : decode cX7_set 45 = .ok (.iaload, 1) := by decide +kernel
theorem dX7_set_46 : decode cX7_set 46 = .ok (.iload_n 3, 1) := by decide +kernel
theorem dX7_set_47 : decode cX7_set 47 = .ok (.invokevirtual 363, 3) := by decide +kernel
theorem dX7_set_50 : decode cX7_set 50 = .ok (.iastore, 1) := by decide +kernel
theorem dX7_set_51 : decode cX7_set 51 = .ok (.aload_n 0, 1) := by decide +kernel
theorem dX7_set_52 : decode cX7_set 52 = .ok (.iload_n 1, 1) := by decide +kernel
theorem dX7_set_53 : decode cX7_set 53 = .ok (.invokevirtual 351, 3) := by decide +kernel
theorem dX7_set_56 : decode cX7_set 56 = .ok (.ifCond .eq 15, 3) := by decide +kernel
theorem dX7_set_59 : decode cX7_set 59 = .ok (.aload_n 0, 1) := by decide +kernel
theorem dX7_set_60 : decode cX7_set 60 = .ok (.iload_n 1, 1) := by decide +kernel
theorem dX7_set_61 : decode cX7_set 61 = .ok (.invokevirtual 354, 3) := by decide +kernel
theorem dX7_set_64 : decode cX7_set 64 = .ok (.aload_n 0, 1) := by decide +kernel
theorem dX7_set_65 : decode cX7_set 65 = .ok (.bipush 7, 2) := by decide +kernel
theorem dX7_set_67 : decode cX7_set 67 = .ok (.invokevirtual 327, 3) := by decide +kernel
theorem dX7_set_70 : decode cX7_set 70 = .ok (.ireturn, 1) := by decide +kernel
theorem dX7_set_71 : decode cX7_set 71 = .ok (.aload_n 0, 1) := by decide +kernel
theorem dX7_set_72 : decode cX7_set 72 = .ok (.iload_n 1, 1) := by decide +kernel
theorem dX7_set_73 : decode cX7_set 73 = .ok (.invokevirtual 357, 3) := by decide +kernel
theorem dX7_set_76 : decode cX7_set 76 = .ok (.aload_n 0, 1) := by decide +kernel
theorem dX7_set_77 : decode cX7_set 77 = .ok (.invokevirtual 342, 3) := by decide +kernel
theorem dX7_set_80 : decode cX7_set 80 = .ok (.iconst 1, 1) := by decide +kernel
theorem dX7_set_81 : decode cX7_set 81 = .ok (.ireturn, 1) := by decide +kernel
set_option maxRecDepth 20000 in
theorem mc_X7_get_X70 : mjIn wsX7_get wsX70 := fun w h => (List.mem_cons_of_mem _ (List.mem_append_right _ h))
set_option maxRecDepth 20000 in
theorem ggX7_get_X7_numbered : GoodIn wsX7_get wsX7_numbered := mj_good (mj_cons (List.mem_of_getElem? (i := 8) rfl) (mj_app (mj_cons (List.mem_of_getElem? (i := 9) rfl) (mj_cons (List.mem_of_getElem? (i := 10) rfl) (mj_cons (List.mem_of_getElem? (i := 11) rfl) (mj_cons (List.mem_of_getElem? (i := 12) rfl) (mj_cons (List.mem_of_getElem? (i := 13) rfl) (mj_cons (List.mem_of_getElem? (i := 7) rfl) (mj_cons (List.mem_of_getElem? (i := 14) rfl) (mj_cons (List.mem_of_getElem? (i := 15) rfl) mj_nil)))))))) mc_X7_get_X70)) (by decide +kernel)
set_option maxRecDepth 20000 in
theorem gX7_get_X7_numbered : GoodIn wsX7_get (wsV RX7 360 RX7 yX7_numbered wsX7_numbered) := goodIn_app (mj_good (mj_cons (List.mem_of_getElem? (i := 4) rfl) (mj_cons (List.mem_of_getElem? (i := 5) rfl) (mj_cons (List.mem_of_getElem? (i := 6) rfl) (mj_cons (List.mem_of_getElem? (i := 7) rfl) mj_nil)))) (by decide +kernel)) ggX7_get_X7_numbered
theorem dX7_get_0 : decode cX7_get 0 = .ok (.aload_n 0, 1) := by decide +kernel
theorem dX7_get_1 : decode cX7_get 1 = .ok (.iconst 0, 1) := by decide +kernel
theorem dX7_get_2 : decode cX7_get 2 = .ok (.putfield 184, 3) := by decide +kernel
theorem dX7_get_5 : decode cX7_get 5 = .ok (.aload_n 0, 1) := by decide +kernel
theorem dX7_get_6 : decode cX7_get 6 = .ok (.aload_n 0, 1) := by decide +kernel
theorem dX7_get_7 : decode cX7_get 7 = .ok (.iload_n 1, 1) := by decide +kernel
theorem dX7_get_8 : decode cX7_get 8 = .ok (.iload_n 2, 1) := by decide +kernel
theorem dX7_get_9 : decode cX7_get 9 = .ok (.invokevirtual 360, 3) := by decide +kernel
theorem dX7_get_12 : decode cX7_get 12 = .ok (.putfield 187, 3) := by decide +kernel
theorem dX7_get_15 : decode cX7_get 15 = .ok (.aload_n 0, 1) := by decide +kernel
theorem dX7_get_16 : decode cX7_get 16 = .ok (.getfield 187, 3) := by decide +kernel
theorem dX7_get_19 : decode cX7_get 19 = .ok (.ifCond .le 7, 3) := by decide +kernel
theorem dX7_get_22 : decode cX7_get 22 = .ok (.iconst (-1), 1) := by decide +kernel
theorem dX7_get_23 : decode cX7_get 23 = .ok (.goto 14, 3) := by decide +kernel
theorem dX7_get_26 : decode cX7_get 26 = .ok (.aload_n 0, 1) := by decide +kernel
theorem dX7_get_27 : decode cX7_get 27 = .ok (.getfield 16, 3) := by decide +kernel
theorem dX7_get_30 : decode cX7_get 30 = .ok (.bipush 8, 2) := by decide +kernel
theorem dX7_get_32 : decode cX7_get 32 = .ok (.iload_n 1, 1) := by decide +kernel
theorem dX7_get_33 : decode cX7_get 33 = .ok (.imul, 1) := by decide +kernel
theorem dX7_get_34 : decode cX7_get 34 = .ok (.iload_n 2, 1) := by decide +kernel
theorem dX7_get_35 : decode cX7_get 35 = .ok (.iadd, 1) := by decide +kernel
theorem dX7_get_36 : decode cX7_get 36 = .ok (.iaload, 1) := by decide +kernel
theorem dX7_get_37 : decode cX7_get 37 = .ok (.ireturn, 1) := by decide +kernel
set_option maxRecDepth 20000 in
theorem mc_X7_carry_X7_carry_r1 : mjIn wsX7_carry wsX7_carry_r1 := fun w h => (List.mem_cons_of_mem _ (List.mem_append_left _ (List.mem_append_left _ h)))
set_option maxRecDepth 20000 in
theorem mc_X7_carry_X70 : mjIn wsX7_carry wsX70 := fun w h => (List.mem_cons_of_mem _ (List.mem_append_right _ h))
set_option maxRecDepth 20000 in
theorem ggX7_carry_X7_no : GoodIn wsX7_carry wsX7_no := mj_good (mj_cons (mc_X7_carry_X7_carry_r1 _ (List.mem_of_getElem? (i := 11) rfl)) (mj_app (mj_cons (mc_X7_carry_X7_carry_r1 _ (List.mem_of_getElem? (i := 1) rfl)) mj_nil) mc_X7_carry_X70)) (by decide +kernel)
set_option maxRecDepth 20000 in
theorem gX7_carry_X7_no : GoodIn wsX7_carry (wsV RX7 327 RX7 yX7_no wsX7_no) := goodIn_app (mj_good (mj_cons (mc_X7_carry_X7_carry_r1 _ (List.mem_of_getElem? (i := 7) rfl)) (mj_cons (mc_X7_carry_X7_carry_r1 _ (List.mem_of_getElem? (i := 8) rfl)) (mj_cons (mc_X7_carry_X7_carry_r1 _ (List.mem_of_getElem? (i := 9) rfl)) (mj_cons (mc_X7_carry_X7_carry_r1 _ (List.mem_of_getElem? (i := 10) rfl)) mj_nil)))) (by decide +kernel)) ggX7_carry_X7_no
set_option maxRecDepth 20000 in
theorem ggX7_carry_X7_isLine : GoodIn wsX7_carry wsX7_isLine := mj_good (mj_cons (mc_X7_carry_X7_carry_r1 _ (List.mem_of_getElem? (i := 15) rfl)) (mj_app (mj_cons (mc_X7_carry_X7_carry_r1 _ (List.mem_of_getElem? (i := 16) rfl)) mj_nil) mc_X7_carry_X70)) (by decide +kernel)
set_option maxRecDepth 20000 in
theorem gX7_carry_X7_isLine : GoodIn wsX7_carry (wsV RX7 345 RX7 yX7_isLine wsX7_isLine) := goodIn_app (mj_good (mj_cons (mc_X7_carry_X7_carry_r1 _ (List.mem_of_getElem? (i := 12) rfl)) (mj_cons (mc_X7_carry_X7_carry_r1 _ (List.mem_of_getElem? (i := 13) rfl)) (mj_cons (mc_X7_carry_X7_carry_r1 _ (List.mem_of_getElem? (i := 14) rfl)) (mj_cons (mc_X7_carry_X7_carry_r1 _ (List.mem_of_getElem? (i := 10) rfl)) mj_nil)))) (by decide +kernel)) ggX7_carry_X7_isLine
set_option maxRecDepth 20000 in
theorem ggX7_carry_X7_keepLine : GoodIn wsX7_carry wsX7_keepLine := mj_good (mj_cons (mc_X7_carry_X7_carry_r1 _ (List.mem_of_getElem? (i := 20) rfl)) (mj_app (mj_cons (mc_X7_carry_X7_carry_r1 _ (List.mem_of_getElem? (i := 6) rfl)) (mj_cons (mc_X7_carry_X7_carry_r1 _ (List.mem_of_getElem? (i := 5) rfl)) mj_nil)) mc_X7_carry_X70)) (by decide +kernel)
set_option maxRecDepth 20000 in
theorem gX7_carry_X7_keepLine : GoodIn wsX7_carry (wsV RX7 348 RX7 yX7_keepLine wsX7_keepLine) := goodIn_app (mj_good (mj_cons (mc_X7_carry_X7_carry_r1 _ (List.mem_of_getElem? (i := 17) rfl)) (mj_cons (mc_X7_carry_X7_carry_r1 _ (List.mem_of_getElem? (i := 18) rfl)) (mj_cons (mc_X7_carry_X7_carry_r1 _ (List.mem_of_getElem? (i := 19) rfl)) (mj_cons (mc_X7_carry_X7_carry_r1 _ (List.mem_of_getElem? (i := 10) rfl)) mj_nil)))) (by decide +kernel)) ggX7_carry_X7_keepLine
set_option maxRecDepth 20000 in
theorem mc_X7_carry_X7_carry_r2 : mjIn wsX7_carry wsX7_carry_r2 := fun w h => (List.mem_cons_of_mem _ (List.mem_append_left _ (List.mem_append_right _ (List.mem_append_left _ h))))
set_option maxRecDepth 20000 in
theorem mc_X7_carry_X7_carry_r3 : mjIn wsX7_carry wsX7_carry_r3 := fun w h => (List.mem_cons_of_mem _ (List.mem_append_left _ (List.mem_append_right _ (List.mem_append_right _ (List.mem_append_left _ h)))))
set_option maxRecDepth 20000 in
theorem ggX7_carry_X7_isUnder : GoodIn wsX7_carry wsX7_isUnder := mj_good (mj_cons (mc_X7_carry_X7_carry_r2 _ (List.mem_of_getElem? (i := 0) rfl)) (mj_app (mj_app (mj_cons (mc_X7_carry_X7_carry_r2 _ (List.mem_of_getElem? (i := 1) rfl)) (mj_cons (mc_X7_carry_X7_carry_r2 _ (List.mem_of_getElem? (i := 2) rfl)) (mj_cons (mc_X7_carry_X7_carry_r2 _ (List.mem_of_getElem? (i := 3) rfl)) (mj_cons (mc_X7_carry_X7_carry_r2 _ (List.mem_of_getElem? (i := 4) rfl)) (mj_cons (mc_X7_carry_X7_carry_r2 _ (List.mem_of_getElem? (i := 5) rfl)) (mj_cons (mc_X7_carry_X7_carry_r1 _ (List.mem_of_getElem? (i := 10) rfl)) (mj_cons (mc_X7_carry_X7_carry_r2 _ (List.mem_of_getElem? (i := 6) rfl)) (mj_cons (mc_X7_carry_X7_carry_r2 _ (List.mem_of_getElem? (i := 7) rfl)) (mj_cons (mc_X7_carry_X7_carry_r2 _ (List.mem_of_getElem? (i := 8) rfl)) (mj_cons (mc_X7_carry_X7_carry_r2 _ (List.mem_of_getElem? (i := 9) rfl)) (mj_cons (mc_X7_carry_X7_carry_r2 _ (List.mem_of_getElem? (i := 10) rfl)) (mj_cons (mc_X7_carry_X7_carry_r2 _ (List.mem_of_getElem? (i := 11) rfl)) (mj_cons (mc_X7_carry_X7_carry_r2 _ (List.mem_of_getElem? (i := 12) rfl)) (mj_cons (mc_X7_carry_X7_carry_r2 _ (List.mem_of_getElem? (i := 13) rfl)) (mj_cons (mc_X7_carry_X7_carry_r2 _ (List.mem_of_getElem? (i := 14) rfl)) (mj_cons (mc_X7_carry_X7_carry_r2 _ (List.mem_of_getElem? (i := 15) rfl)) (mj_cons (mc_X7_carry_X7_carry_r2 _ (List.mem_of_getElem? (i := 16) rfl)) (mj_cons (mc_X7_carry_X7_carry_r2 _ (List.mem_of_getElem? (i := 17) rfl)) (mj_cons (mc_X7_carry_X7_carry_r2 _ (List.mem_of_getElem? (i := 18) rfl)) (mj_cons (mc_X7_carry_X7_carry_r2 _ (List.mem_of_getElem? (i := 19) rfl)) (mj_cons (mc_X7_carry_X7_carry_r2 _ (List.mem_of_getElem? (i := 20) rfl)) (mj_cons (mc_X7_carry_X7_carry_r2 _ (List.mem_of_getElem? (i := 21) rfl)) (mj_cons (mc_X7_carry_X7_carry_r2 _ (List.mem_of_getElem? (i := 22) rfl)) (mj_cons (mc_X7_carry_X7_carry_r2 _ (List.mem_of_getElem? (i := 23) rfl)) mj_nil)))))))))))))))))))))))) (mj_cons (mc_X7_carry_X7_carry_r3 _ (List.mem_of_getElem? (i := 0) rfl)) (mj_cons (mc_X7_carry_X7_carry_r3 _ (List.mem_of_getElem? (i := 1) rfl)) (mj_cons (mc_X7_carry_X7_carry_r3 _ (List.mem_of_getElem? (i := 2) rfl)) (mj_cons (mc_X7_carry_X7_carry_r3 _ (List.mem_of_getElem? (i := 3) rfl)) (mj_cons (mc_X7_carry_X7_carry_r3 _ (List.mem_of_getElem? (i := 4) rfl)) (mj_cons (mc_X7_carry_X7_carry_r3 _ (List.mem_of_getElem? (i := 5) rfl)) (mj_cons (mc_X7_carry_X7_carry_r3 _ (List.mem_of_getElem? (i := 6) rfl)) (mj_cons (mc_X7_carry_X7_carry_r3 _ (List.mem_of_getElem? (i := 7) rfl)) (mj_cons (mc_X7_carry_X7_carry_r3 _ (List.mem_of_getElem? (i := 8) rfl)) (mj_cons (mc_X7_carry_X7_carry_r3 _ (List.mem_of_getElem? (i := 9) rfl)) (mj_cons (mc_X7_carry_X7_carry_r3 _ (List.mem_of_getElem? (i := 10) rfl)) (mj_cons (mc_X7_carry_X7_carry_r3 _ (List.mem_of_getElem? (i := 11) rfl)) (mj_cons (mc_X7_carry_X7_carry_r3 _ (List.mem_of_getElem? (i := 12) rfl)) (mj_cons (mc_X7_carry_X7_carry_r1 _ (List.mem_of_getElem? (i := 3) rfl)) (mj_cons (mc_X7_carry_X7_carry_r1 _ (List.mem_of_getElem? (i := 5) rfl)) mj_nil)))))))))))))))) mc_X7_carry_X70)) (by decide +kernel)
set_option maxRecDepth 20000 in
theorem gX7_carry_X7_isUnder : GoodIn wsX7_carry (wsV RX7 351 RX7 yX7_isUnder wsX7_isUnder) := goodIn_app (mj_good (mj_cons (mc_X7_carry_X7_carry_r1 _ (List.mem_of_getElem? (i := 21) rfl)) (mj_cons (mc_X7_carry_X7_carry_r1 _ (List.mem_of_getElem? (i := 22) rfl)) (mj_cons (mc_X7_carry_X7_carry_r1 _ (List.mem_of_getElem? (i := 23) rfl)) (mj_cons (mc_X7_carry_X7_carry_r1 _ (List.mem_of_getElem? (i := 10) rfl)) mj_nil)))) (by decide +kernel)) ggX7_carry_X7_isUnder
set_option maxRecDepth 20000 in
theorem ggX7_carry_X7_backLine : GoodIn wsX7_carry wsX7_backLine := mj_good (mj_cons (mc_X7_carry_X7_carry_r3 _ (List.mem_of_getElem? (i := 16) rfl)) (mj_app (mj_cons (mc_X7_carry_X7_carry_r1 _ (List.mem_of_getElem? (i := 5) rfl)) (mj_cons (mc_X7_carry_X7_carry_r1 _ (List.mem_of_getElem? (i := 6) rfl)) mj_nil)) mc_X7_carry_X70)) (by decide +kernel)
set_option maxRecDepth 20000 in
theorem gX7_carry_X7_backLine : GoodIn wsX7_carry (wsV RX7 354 RX7 yX7_backLine wsX7_backLine) := goodIn_app (mj_good (mj_cons (mc_X7_carry_X7_carry_r3 _ (List.mem_of_getElem? (i := 13) rfl)) (mj_cons (mc_X7_carry_X7_carry_r3 _ (List.mem_of_getElem? (i := 14) rfl)) (mj_cons (mc_X7_carry_X7_carry_r3 _ (List.mem_of_getElem? (i := 15) rfl)) (mj_cons (mc_X7_carry_X7_carry_r1 _ (List.mem_of_getElem? (i := 10) rfl)) mj_nil)))) (by decide +kernel)) ggX7_carry_X7_backLine
set_option maxRecDepth 20000 in
theorem ggX7_carry_X7_walls : GoodIn wsX7_carry wsX7_walls := mj_good (mj_cons (mc_X7_carry_X7_carry_r3 _ (List.mem_of_getElem? (i := 20) rfl)) (mj_app (mj_cons (mc_X7_carry_X7_carry_r2 _ (List.mem_of_getElem? (i := 1) rfl)) (mj_cons (mc_X7_carry_X7_carry_r3 _ (List.mem_of_getElem? (i := 21) rfl)) (mj_cons (mc_X7_carry_X7_carry_r3 _ (List.mem_of_getElem? (i := 9) rfl)) (mj_cons (mc_X7_carry_X7_carry_r3 _ (List.mem_of_getElem? (i := 10) rfl)) (mj_cons (mc_X7_carry_X7_carry_r3 _ (List.mem_of_getElem? (i := 11) rfl)) (mj_cons (mc_X7_carry_X7_carry_r1 _ (List.mem_of_getElem? (i := 10) rfl)) (mj_cons (mc_X7_carry_X7_carry_r3 _ (List.mem_of_getElem? (i := 12) rfl)) (mj_cons (mc_X7_carry_X7_carry_r1 _ (List.mem_of_getElem? (i := 3) rfl)) (mj_cons (mc_X7_carry_X7_carry_r1 _ (List.mem_of_getElem? (i := 5) rfl)) mj_nil))))))))) mc_X7_carry_X70)) (by decide +kernel)
set_option maxRecDepth 20000 in
theorem gX7_carry_X7_walls : GoodIn wsX7_carry (wsV RX7 357 RX7 yX7_walls wsX7_walls) := goodIn_app (mj_good (mj_cons (mc_X7_carry_X7_carry_r3 _ (List.mem_of_getElem? (i := 17) rfl)) (mj_cons (mc_X7_carry_X7_carry_r3 _ (List.mem_of_getElem? (i := 18) rfl)) (mj_cons (mc_X7_carry_X7_carry_r3 _ (List.mem_of_getElem? (i := 19) rfl)) (mj_cons (mc_X7_carry_X7_carry_r1 _ (List.mem_of_getElem? (i := 10) rfl)) mj_nil)))) (by decide +kernel)) ggX7_carry_X7_walls
set_option maxRecDepth 20000 in
theorem mc_X7_carry_X7_carry_r4 : mjIn wsX7_carry wsX7_carry_r4 := fun w h => (List.mem_cons_of_mem _ (List.mem_append_left _ (List.mem_append_right _ (List.mem_append_right _ (List.mem_append_right _ h)))))
set_option maxRecDepth 20000 in
theorem ggX7_carry_X7_ends : GoodIn wsX7_carry wsX7_ends := mj_good (mj_cons (mc_X7_carry_X7_carry_r4 _ (List.mem_of_getElem? (i := 1) rfl)) (mj_app (mj_cons (mc_X7_carry_X7_carry_r4 _ (List.mem_of_getElem? (i := 2) rfl)) (mj_cons (mc_X7_carry_X7_carry_r4 _ (List.mem_of_getElem? (i := 3) rfl)) (mj_cons (mc_X7_carry_X7_carry_r4 _ (List.mem_of_getElem? (i := 4) rfl)) (mj_cons (mc_X7_carry_X7_carry_r1 _ (List.mem_of_getElem? (i := 10) rfl)) (mj_cons (mc_X7_carry_X7_carry_r4 _ (List.mem_of_getElem? (i := 5) rfl)) (mj_cons (mc_X7_carry_X7_carry_r4 _ (List.mem_of_getElem? (i := 6) rfl)) (mj_cons (mc_X7_carry_X7_carry_r4 _ (List.mem_of_getElem? (i := 7) rfl)) mj_nil))))))) mc_X7_carry_X70)) (by decide +kernel)
set_option maxRecDepth 20000 in
theorem gX7_carry_X7_ends : GoodIn wsX7_carry (wsV RX7 342 RX7 yX7_ends wsX7_ends) := goodIn_app (mj_good (mj_cons (mc_X7_carry_X7_carry_r3 _ (List.mem_of_getElem? (i := 22) rfl)) (mj_cons (mc_X7_carry_X7_carry_r3 _ (List.mem_of_getElem? (i := 23) rfl)) (mj_cons (mc_X7_carry_X7_carry_r4 _ (List.mem_of_getElem? (i := 0) rfl)) (mj_cons (mc_X7_carry_X7_carry_r1 _ (List.mem_of_getElem? (i := 10) rfl)) mj_nil)))) (by decide +kernel)) ggX7_carry_X7_ends
theorem dX7_carry_0 : decode cX7_carry 0 = .ok (.aload_n 0, 1) := by decide +kernel
theorem dX7_carry_1 : decode cX7_carry 1 = .ok (.iconst 0, 1) := by decide +kernel
theorem dX7_carry_2 : decode cX7_carry 2 = .ok (.putfield 184, 3) := by decide +kernel
theorem dX7_carry_5 : decode cX7_carry 5 = .ok (.aload_n 0, 1) := by decide +kernel
theorem dX7_carry_6 : decode cX7_carry 6 = .ok (.iconst 0, 1) := by decide +kernel
theorem dX7_carry_7 : decode cX7_carry 7 = .ok (.putfield 187, 3) := by decide +kernel
theorem dX7_carry_10 : decode cX7_carry 10 = .ok (.aload_n 0, 1) := by decide +kernel
theorem dX7_carry_11 : decode cX7_carry 11 = .ok (.getfield 303, 3) := by decide +kernel
theorem dX7_carry_14 : decode cX7_carry 14 = .ok (.ifCond .ne 9, 3) := by decide +kernel
theorem dX7_carry_17 : decode cX7_carry 17 = .ok (.aload_n 0, 1) := by decide +kernel
theorem dX7_carry_18 : decode cX7_carry 18 = .ok (.iconst 1, 1) := by decide +kernel
theorem dX7_carry_19 : decode cX7_carry 19 = .ok (.invokevirtual 327, 3) := by decide +kernel
theorem dX7_carry_22 : decode cX7_carry 22 = .ok (.ireturn, 1) := by decide +kernel
theorem dX7_carry_23 : decode cX7_carry 23 = .ok (.aload_n 0, 1) := by decide +kernel
theorem dX7_carry_24 : decode cX7_carry 24 = .ok (.iload_n 1, 1) := by decide +kernel
theorem dX7_carry_25 : decode cX7_carry 25 = .ok (.invokevirtual 345, 3) := by decide +kernel
theorem dX7_carry_28 : decode cX7_carry 28 = .ok (.ifCond .eq 11, 3) := by decide +kernel
theorem dX7_carry_31 : decode cX7_carry 31 = .ok (.aload_n 0, 1) := by decide +kernel
theorem dX7_carry_32 : decode cX7_carry 32 = .ok (.iload_n 3, 1) := by decide +kernel
theorem dX7_carry_33 : decode cX7_carry 33 = .ok (.invokevirtual 345, 3) := by decide +kernel
theorem dX7_carry_36 : decode cX7_carry 36 = .ok (.ifCond .ne 9, 3) := by decide +kernel
theorem dX7_carry_39 : decode cX7_carry 39 = .ok (.aload_n 0, 1) := by decide +kernel
theorem dX7_carry_40 : decode cX7_carry 40 = .ok (.iconst 2, 1) := by decide +kernel
theorem dX7_carry_41 : decode cX7_carry 41 = .ok (.invokevirtual 327, 3) := by decide +kernel
theorem dX7_carry_44 : decode cX7_carry 44 = .ok (.ireturn, 1) := by decide +kernel
theorem dX7_carry_45 : decode cX7_carry 45 = .ok (.aload_n 0, 1) := by decide +kernel
theorem dX7_carry_46 : decode cX7_carry 46 = .ok (.getfield 13, 3) := by decide +kernel
theorem dX7_carry_49 : decode cX7_carry 49 = .ok (.iload_n 1, 1) := by decide +kernel
theorem dX7_carry_50 : decode cX7_carry 50 = .ok (.iaload, 1) := by decide +kernel
theorem dX7_carry_51 : decode cX7_carry 51 = .ok (.ifCond .lt 12, 3) := by decide +kernel
theorem dX7_carry_54 : decode cX7_carry 54 = .ok (.aload_n 0, 1) := by decide +kernel
theorem dX7_carry_55 : decode cX7_carry 55 = .ok (.getfield 13, 3) := by decide +kernel
theorem dX7_carry_58 : decode cX7_carry 58 = .ok (.iload_n 3, 1) := by decide +kernel
theorem dX7_carry_59 : decode cX7_carry 59 = .ok (.iaload, 1) := by decide +kernel
theorem dX7_carry_60 : decode cX7_carry 60 = .ok (.ifCond .ge 9, 3) := by decide +kernel
theorem dX7_carry_63 : decode cX7_carry 63 = .ok (.aload_n 0, 1) := by decide +kernel
theorem dX7_carry_64 : decode cX7_carry 64 = .ok (.iconst 3, 1) := by decide +kernel
theorem dX7_carry_65 : decode cX7_carry 65 = .ok (.invokevirtual 327, 3) := by decide +kernel
theorem dX7_carry_68 : decode cX7_carry 68 = .ok (.ireturn, 1) := by decide +kernel
theorem dX7_carry_69 : decode cX7_carry 69 = .ok (.aload_n 0, 1) := by decide +kernel
theorem dX7_carry_70 : decode cX7_carry 70 = .ok (.getfield 7, 3) := by decide +kernel
theorem dX7_carry_73 : decode cX7_carry 73 = .ok (.iload_n 1, 1) := by decide +kernel
theorem dX7_carry_74 : decode cX7_carry 74 = .ok (.iaload, 1) := by decide +kernel
theorem dX7_carry_75 : decode cX7_carry 75 = .ok (.aload_n 0, 1) := by decide +kernel
theorem dX7_carry_76 : decode cX7_carry 76 = .ok (.getfield 7, 3) := by decide +kernel
theorem dX7_carry_79 : decode cX7_carry 79 = .ok (.iload_n 3, 1) := by decide +kernel
theorem dX7_carry_80 : decode cX7_carry 80 = .ok (.iaload, 1) := by decide +kernel
theorem dX7_carry_81 : decode cX7_carry 81 = .ok (.if_icmp .eq 9, 3) := by decide +kernel
theorem dX7_carry_84 : decode cX7_carry 84 = .ok (.aload_n 0, 1) := by decide +kernel
theorem dX7_carry_85 : decode cX7_carry 85 = .ok (.iconst 5, 1) := by decide +kernel
theorem dX7_carry_86 : decode cX7_carry 86 = .ok (.invokevirtual 327, 3) := by decide +kernel
theorem dX7_carry_89 : decode cX7_carry 89 = .ok (.ireturn, 1) := by decide +kernel
theorem dX7_carry_90 : decode cX7_carry 90 = .ok (.iload 5, 2) := by decide +kernel
theorem dX7_carry_92 : decode cX7_carry 92 = .ok (.ifCond .ge 10, 3) := by decide +kernel
theorem dX7_carry_95 : decode cX7_carry 95 = .ok (.aload_n 0, 1) := by decide +kernel
theorem dX7_carry_96 : decode cX7_carry 96 = .ok (.bipush 6, 2) := by decide +kernel
theorem dX7_carry_98 : decode cX7_carry 98 = .ok (.invokevirtual 327, 3) := by decide +kernel
theorem dX7_carry_101 : decode cX7_carry 101 = .ok (.ireturn, 1) := by decide +kernel
theorem dX7_carry_102 : decode cX7_carry 102 = .ok (.iload_n 2, 1) := by decide +kernel
theorem dX7_carry_103 : decode cX7_carry 103 = .ok (.ifCond .lt 43, 3) := by decide +kernel
theorem dX7_carry_106 : decode cX7_carry 106 = .ok (.iload 4, 2) := by decide +kernel
theorem dX7_carry_108 : decode cX7_carry 108 = .ok (.ifCond .lt 38, 3) := by decide +kernel
theorem dX7_carry_111 : decode cX7_carry 111 = .ok (.iload_n 2, 1) := by decide +kernel
theorem dX7_carry_112 : decode cX7_carry 112 = .ok (.i2l, 1) := by decide +kernel
theorem dX7_carry_113 : decode cX7_carry 113 = .ok (.iload 5, 2) := by decide +kernel
theorem dX7_carry_115 : decode cX7_carry 115 = .ok (.i2l, 1) := by decide +kernel
theorem dX7_carry_116 : decode cX7_carry 116 = .ok (.ladd, 1) := by decide +kernel
theorem dX7_carry_117 : decode cX7_carry 117 = .ok (.aload_n 0, 1) := by decide +kernel
theorem dX7_carry_118 : decode cX7_carry 118 = .ok (.getfield 13, 3) := by decide +kernel
theorem dX7_carry_121 : decode cX7_carry 121 = .ok (.iload_n 1, 1) := by decide +kernel
theorem dX7_carry_122 : decode cX7_carry 122 = .ok (.iaload, 1) := by decide +kernel
theorem dX7_carry_123 : decode cX7_carry 123 = .ok (.i2l, 1) := by decide +kernel
theorem dX7_carry_124 : decode cX7_carry 124 = .ok (.lcmp, 1) := by decide +kernel
theorem dX7_carry_125 : decode cX7_carry 125 = .ok (.ifCond .gt 21, 3) := by decide +kernel
theorem dX7_carry_128 : decode cX7_carry 128 = .ok (.iload 4, 2) := by decide +kernel
theorem dX7_carry_130 : decode cX7_carry 130 = .ok (.i2l, 1) := by decide +kernel
theorem dX7_carry_131 : decode cX7_carry 131 = .ok (.iload 5, 2) := by decide +kernel
theorem dX7_carry_133 : decode cX7_carry 133 = .ok (.i2l, 1) := by decide +kernel
theorem dX7_carry_134 : decode cX7_carry 134 = .ok (.ladd, 1) := by decide +kernel
theorem dX7_carry_135 : decode cX7_carry 135 = .ok (.aload_n 0, 1) := by decide +kernel
theorem dX7_carry_136 : decode cX7_carry 136 = .ok (.getfield 13, 3) := by decide +kernel
theorem dX7_carry_139 : decode cX7_carry 139 = .ok (.iload_n 3, 1) := by decide +kernel
theorem dX7_carry_140 : decode cX7_carry 140 = .ok (.iaload, 1) := by decide +kernel
theorem dX7_carry_141 : decode cX7_carry 141 = .ok (.i2l, 1) := by decide +kernel
theorem dX7_carry_142 : decode cX7_carry 142 = .ok (.lcmp, 1) := by decide +kernel
theorem dX7_carry_143 : decode cX7_carry 143 = .ok (.ifCond .le 9, 3) := by decide +kernel
theorem dX7_carry_146 : decode cX7_carry 146 = .ok (.aload_n 0, 1) := by decide +kernel
theorem dX7_carry_147 : decode cX7_carry 147 = .ok (.iconst 4, 1) := by decide +kernel
theorem dX7_carry_148 : decode cX7_carry 148 = .ok (.invokevirtual 327, 3) := by decide +kernel
theorem dX7_carry_151 : decode cX7_carry 151 = .ok (.ireturn, 1) := by decide +kernel
theorem dX7_carry_152 : decode cX7_carry 152 = .ok (.aload_n 0, 1) := by decide +kernel
theorem dX7_carry_153 : decode cX7_carry 153 = .ok (.iload_n 3, 1) := by decide +kernel
theorem dX7_carry_154 : decode cX7_carry 154 = .ok (.invokevirtual 348, 3) := by decide +kernel
theorem dX7_carry_157 : decode cX7_carry 157 = .ok (.iconst 0, 1) := by decide +kernel
theorem dX7_carry_158 : decode cX7_carry 158 = .ok (.istore 6, 2) := by decide +kernel
theorem dX7_carry_160 : decode cX7_carry 160 = .ok (.iload 6, 2) := by decide +kernel
theorem dX7_carry_162 : decode cX7_carry 162 = .ok (.iload 5, 2) := by decide +kernel
theorem dX7_carry_164 : decode cX7_carry 164 = .ok (.if_icmp .ge 55, 3) := by decide +kernel
theorem dX7_carry_167 : decode cX7_carry 167 = .ok (.aload_n 0, 1) := by decide +kernel
theorem dX7_carry_168 : decode cX7_carry 168 = .ok (.getfield 16, 3) := by decide +kernel
theorem dX7_carry_171 : decode cX7_carry 171 = .ok (.bipush 8, 2) := by decide +kernel
theorem dX7_carry_173 : decode cX7_carry 173 = .ok (.iload_n 3, 1) := by decide +kernel
theorem dX7_carry_174 : decode cX7_carry 174 = .ok (.imul, 1) := by decide +kernel
theorem dX7_carry_175 : decode cX7_carry 175 = .ok (.iload 4, 2) := by decide +kernel
theorem dX7_carry_177 : decode cX7_carry 177 = .ok (.iadd, 1) := by decide +kernel
theorem dX7_carry_178 : decode cX7_carry 178 = .ok (.iload 6, 2) := by decide +kernel
theorem dX7_carry_180 : decode cX7_carry 180 = .ok (.iadd, 1) := by decide +kernel
theorem dX7_carry_181 : decode cX7_carry 181 = .ok (.iload_n 1, 1) := by decide +kernel
theorem dX7_carry_182 : decode cX7_carry 182 = .ok (.iload_n 3, 1) := by decide +kernel
theorem dX7_carry_183 : decode cX7_carry 183 = .ok (.if_icmp .ne 15, 3) := by decide +kernel
theorem dX7_carry_186 : decode cX7_carry 186 = .ok (.aload_n 0, 1) := by decide +kernel
theorem dX7_carry_187 : decode cX7_carry 187 = .ok (.getfield 160, 3) := by decide +kernel
theorem dX7_carry_190 : decode cX7_carry 190 = .ok (.iload_n 2, 1) := by decide +kernel
theorem dX7_carry_191 : decode cX7_carry 191 = .ok (.iload 6, 2) := by decide +kernel
theorem dX7_carry_193 : decode cX7_carry 193 = .ok (.iadd, 1) := by decide +kernel
theorem dX7_carry_194 : decode cX7_carry 194 = .ok (.iaload, 1) := by decide +kernel
theorem dX7_carry_195 : decode cX7_carry 195 = .ok (.goto 17, 3) := by decide +kernel
theorem dX7_carry_198 : decode cX7_carry 198 = .ok (.aload_n 0, 1) := by decide +kernel
theorem dX7_carry_199 : decode cX7_carry 199 = .ok (.getfield 16, 3) := by decide +kernel
theorem dX7_carry_202 : decode cX7_carry 202 = .ok (.bipush 8, 2) := by decide +kernel
theorem dX7_carry_204 : decode cX7_carry 204 = .ok (.iload_n 1, 1) := by decide +kernel
theorem dX7_carry_205 : decode cX7_carry 205 = .ok (.imul, 1) := by decide +kernel
theorem dX7_carry_206 : decode cX7_carry 206 = .ok (.iload_n 2, 1) := by decide +kernel
theorem dX7_carry_207 : decode cX7_carry 207 = .ok (.iadd, 1) := by decide +kernel
theorem dX7_carry_208 : decode cX7_carry 208 = .ok (.iload 6, 2) := by decide +kernel
theorem dX7_carry_210 : decode cX7_carry 210 = .ok (.iadd, 1) := by decide +kernel
theorem dX7_carry_211 : decode cX7_carry 211 = .ok (.iaload, 1) := by decide +kernel
theorem dX7_carry_212 : decode cX7_carry 212 = .ok (.iastore, 1) := by decide +kernel
theorem dX7_carry_213 : decode cX7_carry 213 = .ok (.iinc 6 1, 3) := by decide +kernel
theorem dX7_carry_216 : decode cX7_carry 216 = .ok (.goto (-56), 3) := by decide +kernel
theorem dX7_carry_219 : decode cX7_carry 219 = .ok (.aload_n 0, 1) := by decide +kernel
theorem dX7_carry_220 : decode cX7_carry 220 = .ok (.iload_n 3, 1) := by decide +kernel
theorem dX7_carry_221 : decode cX7_carry 221 = .ok (.invokevirtual 351, 3) := by decide +kernel
theorem dX7_carry_224 : decode cX7_carry 224 = .ok (.ifCond .eq 15, 3) := by decide +kernel
theorem dX7_carry_227 : decode cX7_carry 227 = .ok (.aload_n 0, 1) := by decide +kernel
theorem dX7_carry_228 : decode cX7_carry 228 = .ok (.iload_n 3, 1) := by decide +kernel
theorem dX7_carry_229 : decode cX7_carry 229 = .ok (.invokevirtual 354, 3) := by decide +kernel
theorem dX7_carry_232 : decode cX7_carry 232 = .ok (.aload_n 0, 1) := by decide +kernel
theorem dX7_carry_233 : decode cX7_carry 233 = .ok (.bipush 7, 2) := by decide +kernel
theorem dX7_carry_235 : decode cX7_carry 235 = .ok (.invokevirtual 327, 3) := by decide +kernel
theorem dX7_carry_238 : decode cX7_carry 238 = .ok (.ireturn, 1) := by decide +kernel
theorem dX7_carry_239 : decode cX7_carry 239 = .ok (.aload_n 0, 1) := by decide +kernel
theorem dX7_carry_240 : decode cX7_carry 240 = .ok (.iload_n 3, 1) := by decide +kernel
theorem dX7_carry_241 : decode cX7_carry 241 = .ok (.invokevirtual 357, 3) := by decide +kernel
theorem dX7_carry_244 : decode cX7_carry 244 = .ok (.aload_n 0, 1) := by decide +kernel
theorem dX7_carry_245 : decode cX7_carry 245 = .ok (.invokevirtual 342, 3) := by decide +kernel
theorem dX7_carry_248 : decode cX7_carry 248 = .ok (.iconst 1, 1) := by decide +kernel
theorem dX7_carry_249 : decode cX7_carry 249 = .ok (.ireturn, 1) := by decide +kernel
set_option maxRecDepth 20000 in
theorem mc_X7_tear_X7_tear_r1 : mjIn wsX7_tear wsX7_tear_r1 := fun w h => (List.mem_cons_of_mem _ (List.mem_append_left _ (List.mem_append_left _ h)))
set_option maxRecDepth 20000 in
theorem mc_X7_tear_X70 : mjIn wsX7_tear wsX70 := fun w h => (List.mem_cons_of_mem _ (List.mem_append_right _ h))
set_option maxRecDepth 20000 in
theorem ggX7_tear_X7_no : GoodIn wsX7_tear wsX7_no := mj_good (mj_cons (mc_X7_tear_X7_tear_r1 _ (List.mem_of_getElem? (i := 8) rfl)) (mj_app (mj_cons (mc_X7_tear_X7_tear_r1 _ (List.mem_of_getElem? (i := 1) rfl)) mj_nil) mc_X7_tear_X70)) (by decide +kernel)
set_option maxRecDepth 20000 in
theorem gX7_tear_X7_no : GoodIn wsX7_tear (wsV RX7 327 RX7 yX7_no wsX7_no) := goodIn_app (mj_good (mj_cons (mc_X7_tear_X7_tear_r1 _ (List.mem_of_getElem? (i := 4) rfl)) (mj_cons (mc_X7_tear_X7_tear_r1 _ (List.mem_of_getElem? (i := 5) rfl)) (mj_cons (mc_X7_tear_X7_tear_r1 _ (List.mem_of_getElem? (i := 6) rfl)) (mj_cons (mc_X7_tear_X7_tear_r1 _ (List.mem_of_getElem? (i := 7) rfl)) mj_nil)))) (by decide +kernel)) ggX7_tear_X7_no
set_option maxRecDepth 20000 in
theorem ggX7_tear_X7_isLine : GoodIn wsX7_tear wsX7_isLine := mj_good (mj_cons (mc_X7_tear_X7_tear_r1 _ (List.mem_of_getElem? (i := 12) rfl)) (mj_app (mj_cons (mc_X7_tear_X7_tear_r1 _ (List.mem_of_getElem? (i := 13) rfl)) mj_nil) mc_X7_tear_X70)) (by decide +kernel)
set_option maxRecDepth 20000 in
theorem gX7_tear_X7_isLine : GoodIn wsX7_tear (wsV RX7 345 RX7 yX7_isLine wsX7_isLine) := goodIn_app (mj_good (mj_cons (mc_X7_tear_X7_tear_r1 _ (List.mem_of_getElem? (i := 9) rfl)) (mj_cons (mc_X7_tear_X7_tear_r1 _ (List.mem_of_getElem? (i := 10) rfl)) (mj_cons (mc_X7_tear_X7_tear_r1 _ (List.mem_of_getElem? (i := 11) rfl)) (mj_cons (mc_X7_tear_X7_tear_r1 _ (List.mem_of_getElem? (i := 7) rfl)) mj_nil)))) (by decide +kernel)) ggX7_tear_X7_isLine
set_option maxRecDepth 20000 in
theorem mc_X7_tear_X7_tear_r2 : mjIn wsX7_tear wsX7_tear_r2 := fun w h => (List.mem_cons_of_mem _ (List.mem_append_left _ (List.mem_append_right _ h)))
set_option maxRecDepth 20000 in
theorem ggX7_tear_X7_walls : GoodIn wsX7_tear wsX7_walls := mj_good (mj_cons (mc_X7_tear_X7_tear_r1 _ (List.mem_of_getElem? (i := 17) rfl)) (mj_app (mj_cons (mc_X7_tear_X7_tear_r1 _ (List.mem_of_getElem? (i := 18) rfl)) (mj_cons (mc_X7_tear_X7_tear_r1 _ (List.mem_of_getElem? (i := 19) rfl)) (mj_cons (mc_X7_tear_X7_tear_r1 _ (List.mem_of_getElem? (i := 20) rfl)) (mj_cons (mc_X7_tear_X7_tear_r1 _ (List.mem_of_getElem? (i := 21) rfl)) (mj_cons (mc_X7_tear_X7_tear_r1 _ (List.mem_of_getElem? (i := 22) rfl)) (mj_cons (mc_X7_tear_X7_tear_r1 _ (List.mem_of_getElem? (i := 7) rfl)) (mj_cons (mc_X7_tear_X7_tear_r1 _ (List.mem_of_getElem? (i := 23) rfl)) (mj_cons (mc_X7_tear_X7_tear_r1 _ (List.mem_of_getElem? (i := 3) rfl)) (mj_cons (mc_X7_tear_X7_tear_r2 _ (List.mem_of_getElem? (i := 0) rfl)) mj_nil))))))))) mc_X7_tear_X70)) (by decide +kernel)
set_option maxRecDepth 20000 in
theorem gX7_tear_X7_walls : GoodIn wsX7_tear (wsV RX7 357 RX7 yX7_walls wsX7_walls) := goodIn_app (mj_good (mj_cons (mc_X7_tear_X7_tear_r1 _ (List.mem_of_getElem? (i := 14) rfl)) (mj_cons (mc_X7_tear_X7_tear_r1 _ (List.mem_of_getElem? (i := 15) rfl)) (mj_cons (mc_X7_tear_X7_tear_r1 _ (List.mem_of_getElem? (i := 16) rfl)) (mj_cons (mc_X7_tear_X7_tear_r1 _ (List.mem_of_getElem? (i := 7) rfl)) mj_nil)))) (by decide +kernel)) ggX7_tear_X7_walls
set_option maxRecDepth 20000 in
theorem ggX7_tear_X7_ends : GoodIn wsX7_tear wsX7_ends := mj_good (mj_cons (mc_X7_tear_X7_tear_r2 _ (List.mem_of_getElem? (i := 4) rfl)) (mj_app (mj_cons (mc_X7_tear_X7_tear_r2 _ (List.mem_of_getElem? (i := 5) rfl)) (mj_cons (mc_X7_tear_X7_tear_r2 _ (List.mem_of_getElem? (i := 6) rfl)) (mj_cons (mc_X7_tear_X7_tear_r2 _ (List.mem_of_getElem? (i := 7) rfl)) (mj_cons (mc_X7_tear_X7_tear_r1 _ (List.mem_of_getElem? (i := 7) rfl)) (mj_cons (mc_X7_tear_X7_tear_r2 _ (List.mem_of_getElem? (i := 8) rfl)) (mj_cons (mc_X7_tear_X7_tear_r2 _ (List.mem_of_getElem? (i := 9) rfl)) (mj_cons (mc_X7_tear_X7_tear_r2 _ (List.mem_of_getElem? (i := 10) rfl)) mj_nil))))))) mc_X7_tear_X70)) (by decide +kernel)
set_option maxRecDepth 20000 in
theorem gX7_tear_X7_ends : GoodIn wsX7_tear (wsV RX7 342 RX7 yX7_ends wsX7_ends) := goodIn_app (mj_good (mj_cons (mc_X7_tear_X7_tear_r2 _ (List.mem_of_getElem? (i := 1) rfl)) (mj_cons (mc_X7_tear_X7_tear_r2 _ (List.mem_of_getElem? (i := 2) rfl)) (mj_cons (mc_X7_tear_X7_tear_r2 _ (List.mem_of_getElem? (i := 3) rfl)) (mj_cons (mc_X7_tear_X7_tear_r1 _ (List.mem_of_getElem? (i := 7) rfl)) mj_nil)))) (by decide +kernel)) ggX7_tear_X7_ends
theorem dX7_tear_0 : decode cX7_tear 0 = .ok (.aload_n 0, 1) := by decide +kernel
theorem dX7_tear_1 : decode cX7_tear 1 = .ok (.iconst 0, 1) := by decide +kernel
theorem dX7_tear_2 : decode cX7_tear 2 = .ok (.putfield 184, 3) := by decide +kernel
theorem dX7_tear_5 : decode cX7_tear 5 = .ok (.aload_n 0, 1) := by decide +kernel
theorem dX7_tear_6 : decode cX7_tear 6 = .ok (.iconst 0, 1) := by decide +kernel
theorem dX7_tear_7 : decode cX7_tear 7 = .ok (.putfield 187, 3) := by decide +kernel
theorem dX7_tear_10 : decode cX7_tear 10 = .ok (.aload_n 0, 1) := by decide +kernel
theorem dX7_tear_11 : decode cX7_tear 11 = .ok (.getfield 303, 3) := by decide +kernel
theorem dX7_tear_14 : decode cX7_tear 14 = .ok (.ifCond .ne 9, 3) := by decide +kernel
theorem dX7_tear_17 : decode cX7_tear 17 = .ok (.aload_n 0, 1) := by decide +kernel
theorem dX7_tear_18 : decode cX7_tear 18 = .ok (.iconst 1, 1) := by decide +kernel
theorem dX7_tear_19 : decode cX7_tear 19 = .ok (.invokevirtual 327, 3) := by decide +kernel
theorem dX7_tear_22 : decode cX7_tear 22 = .ok (.ireturn, 1) := by decide +kernel
theorem dX7_tear_23 : decode cX7_tear 23 = .ok (.aload_n 0, 1) := by decide +kernel
theorem dX7_tear_24 : decode cX7_tear 24 = .ok (.iload_n 1, 1) := by decide +kernel
theorem dX7_tear_25 : decode cX7_tear 25 = .ok (.invokevirtual 345, 3) := by decide +kernel
theorem dX7_tear_28 : decode cX7_tear 28 = .ok (.ifCond .ne 9, 3) := by decide +kernel
theorem dX7_tear_31 : decode cX7_tear 31 = .ok (.aload_n 0, 1) := by decide +kernel
theorem dX7_tear_32 : decode cX7_tear 32 = .ok (.iconst 2, 1) := by decide +kernel
theorem dX7_tear_33 : decode cX7_tear 33 = .ok (.invokevirtual 327, 3) := by decide +kernel
theorem dX7_tear_36 : decode cX7_tear 36 = .ok (.ireturn, 1) := by decide +kernel
theorem dX7_tear_37 : decode cX7_tear 37 = .ok (.aload_n 0, 1) := by decide +kernel
theorem dX7_tear_38 : decode cX7_tear 38 = .ok (.getfield 13, 3) := by decide +kernel
theorem dX7_tear_41 : decode cX7_tear 41 = .ok (.iload_n 1, 1) := by decide +kernel
theorem dX7_tear_42 : decode cX7_tear 42 = .ok (.iaload, 1) := by decide +kernel
theorem dX7_tear_43 : decode cX7_tear 43 = .ok (.ifCond .ge 9, 3) := by decide +kernel
theorem dX7_tear_46 : decode cX7_tear 46 = .ok (.aload_n 0, 1) := by decide +kernel
theorem dX7_tear_47 : decode cX7_tear 47 = .ok (.iconst 3, 1) := by decide +kernel
theorem dX7_tear_48 : decode cX7_tear 48 = .ok (.invokevirtual 327, 3) := by decide +kernel
theorem dX7_tear_51 : decode cX7_tear 51 = .ok (.ireturn, 1) := by decide +kernel
theorem dX7_tear_52 : decode cX7_tear 52 = .ok (.aload_n 0, 1) := by decide +kernel
theorem dX7_tear_53 : decode cX7_tear 53 = .ok (.getfield 13, 3) := by decide +kernel
theorem dX7_tear_56 : decode cX7_tear 56 = .ok (.iload_n 1, 1) := by decide +kernel
theorem dX7_tear_57 : decode cX7_tear 57 = .ok (.iconst (-1), 1) := by decide +kernel
theorem dX7_tear_58 : decode cX7_tear 58 = .ok (.iastore, 1) := by decide +kernel
theorem dX7_tear_59 : decode cX7_tear 59 = .ok (.aload_n 0, 1) := by decide +kernel
theorem dX7_tear_60 : decode cX7_tear 60 = .ok (.iload_n 1, 1) := by decide +kernel
theorem dX7_tear_61 : decode cX7_tear 61 = .ok (.invokevirtual 357, 3) := by decide +kernel
theorem dX7_tear_64 : decode cX7_tear 64 = .ok (.aload_n 0, 1) := by decide +kernel
theorem dX7_tear_65 : decode cX7_tear 65 = .ok (.invokevirtual 342, 3) := by decide +kernel
theorem dX7_tear_68 : decode cX7_tear 68 = .ok (.iconst 1, 1) := by decide +kernel
theorem dX7_tear_69 : decode cX7_tear 69 = .ok (.ireturn, 1) := by decide +kernel
theorem dX7_linesByWalls_0 : decode cX7_linesByWalls 0 = .ok (.iconst 0, 1) := by decide +kernel
theorem dX7_linesByWalls_1 : decode cX7_linesByWalls 1 = .ok (.istore_n 1, 1) := by decide +kernel
theorem dX7_linesByWalls_2 : decode cX7_linesByWalls 2 = .ok (.iload_n 1, 1) := by decide +kernel
theorem dX7_linesByWalls_3 : decode cX7_linesByWalls 3 = .ok (.aload_n 0, 1) := by decide +kernel
theorem dX7_linesByWalls_4 : decode cX7_linesByWalls 4 = .ok (.getfield 193, 3) := by decide +kernel
theorem dX7_linesByWalls_7 : decode cX7_linesByWalls 7 = .ok (.if_icmp .ge 78, 3) := by decide +kernel
theorem dX7_linesByWalls_10 : decode cX7_linesByWalls 10 = .ok (.aload_n 0, 1) := by decide +kernel
theorem dX7_linesByWalls_11 : decode cX7_linesByWalls 11 = .ok (.getfield 7, 3) := by decide +kernel
theorem dX7_linesByWalls_14 : decode cX7_linesByWalls 14 = .ok (.iload_n 1, 1) := by decide +kernel
theorem dX7_linesByWalls_15 : decode cX7_linesByWalls 15 = .ok (.iconst 0, 1) := by decide +kernel
theorem dX7_linesByWalls_16 : decode cX7_linesByWalls 16 = .ok (.iastore, 1) := by decide +kernel
theorem dX7_linesByWalls_17 : decode cX7_linesByWalls 17 = .ok (.aload_n 0, 1) := by decide +kernel
theorem dX7_linesByWalls_18 : decode cX7_linesByWalls 18 = .ok (.getfield 13, 3) := by decide +kernel
theorem dX7_linesByWalls_21 : decode cX7_linesByWalls 21 = .ok (.iload_n 1, 1) := by decide +kernel
theorem dX7_linesByWalls_22 : decode cX7_linesByWalls 22 = .ok (.aload_n 0, 1) := by decide +kernel
theorem dX7_linesByWalls_23 : decode cX7_linesByWalls 23 = .ok (.getfield 190, 3) := by decide +kernel
theorem dX7_linesByWalls_26 : decode cX7_linesByWalls 26 = .ok (.iastore, 1) := by decide +kernel
theorem dX7_linesByWalls_27 : decode cX7_linesByWalls 27 = .ok (.iconst 0, 1) := by decide +kernel
theorem dX7_linesByWalls_28 : decode cX7_linesByWalls 28 = .ok (.istore_n 2, 1) := by decide +kernel
theorem dX7_linesByWalls_29 : decode cX7_linesByWalls 29 = .ok (.iload_n 2, 1) := by decide +kernel
theorem dX7_linesByWalls_30 : decode cX7_linesByWalls 30 = .ok (.bipush 8, 2) := by decide +kernel
theorem dX7_linesByWalls_32 : decode cX7_linesByWalls 32 = .ok (.if_icmp .ge 47, 3) := by decide +kernel
theorem dX7_linesByWalls_35 : decode cX7_linesByWalls 35 = .ok (.aload_n 0, 1) := by decide +kernel
theorem dX7_linesByWalls_36 : decode cX7_linesByWalls 36 = .ok (.getfield 16, 3) := by decide +kernel
theorem dX7_linesByWalls_39 : decode cX7_linesByWalls 39 = .ok (.bipush 8, 2) := by decide +kernel
theorem dX7_linesByWalls_41 : decode cX7_linesByWalls 41 = .ok (.iload_n 1, 1) := by decide +kernel
theorem dX7_linesByWalls_42 : decode cX7_linesByWalls 42 = .ok (.imul, 1) := by decide +kernel
theorem dX7_linesByWalls_43 : decode cX7_linesByWalls 43 = .ok (.iload_n 2, 1) := by decide +kernel
theorem dX7_linesByWalls_44 : decode cX7_linesByWalls 44 = .ok (.iadd, 1) := by decide +kernel
theorem dX7_linesByWalls_45 : decode cX7_linesByWalls 45 = .ok (.iload_n 2, 1) := by decide +kernel
theorem dX7_linesByWalls_46 : decode cX7_linesByWalls 46 = .ok (.aload_n 0, 1) := by decide +kernel
theorem dX7_linesByWalls_47 : decode cX7_linesByWalls 47 = .ok (.getfield 190, 3) := by decide +kernel
theorem dX7_linesByWalls_50 : decode cX7_linesByWalls 50 = .ok (.if_icmp .ge 21, 3) := by decide +kernel
theorem dX7_linesByWalls_53 : decode cX7_linesByWalls 53 = .ok (.aload_n 0, 1) := by decide +kernel
theorem dX7_linesByWalls_54 : decode cX7_linesByWalls 54 = .ok (.getfield 19, 3) := by decide +kernel
theorem dX7_linesByWalls_57 : decode cX7_linesByWalls 57 = .ok (.iload_n 2, 1) := by decide +kernel
theorem dX7_linesByWalls_58 : decode cX7_linesByWalls 58 = .ok (.bipush 8, 2) := by decide +kernel
theorem dX7_linesByWalls_60 : decode cX7_linesByWalls 60 = .ok (.iload_n 1, 1) := by decide +kernel
theorem dX7_linesByWalls_61 : decode cX7_linesByWalls 61 = .ok (.imul, 1) := by decide +kernel
theorem dX7_linesByWalls_62 : decode cX7_linesByWalls 62 = .ok (.iadd, 1) := by decide +kernel
theorem dX7_linesByWalls_63 : decode cX7_linesByWalls 63 = .ok (.baload, 1) := by decide +kernel
theorem dX7_linesByWalls_64 : decode cX7_linesByWalls 64 = .ok (.ifCond .eq 7, 3) := by decide +kernel
theorem dX7_linesByWalls_67 : decode cX7_linesByWalls 67 = .ok (.iconst 1, 1) := by decide +kernel
theorem dX7_linesByWalls_68 : decode cX7_linesByWalls 68 = .ok (.goto 4, 3) := by decide +kernel
theorem dX7_linesByWalls_71 : decode cX7_linesByWalls 71 = .ok (.iconst 0, 1) := by decide +kernel
theorem dX7_linesByWalls_72 : decode cX7_linesByWalls 72 = .ok (.iastore, 1) := by decide +kernel
theorem dX7_linesByWalls_73 : decode cX7_linesByWalls 73 = .ok (.iinc 2 1, 3) := by decide +kernel
theorem dX7_linesByWalls_76 : decode cX7_linesByWalls 76 = .ok (.goto (-47), 3) := by decide +kernel
theorem dX7_linesByWalls_79 : decode cX7_linesByWalls 79 = .ok (.iinc 1 1, 3) := by decide +kernel
theorem dX7_linesByWalls_82 : decode cX7_linesByWalls 82 = .ok (.goto (-80), 3) := by decide +kernel
theorem dX7_linesByWalls_85 : decode cX7_linesByWalls 85 = .ok (.return_, 1) := by decide +kernel
theorem dX7_isLength_0 : decode cX7_isLength 0 = .ok (.iload_n 0, 1) := by decide +kernel
theorem dX7_isLength_1 : decode cX7_isLength 1 = .ok (.iconst 1, 1) := by decide +kernel
theorem dX7_isLength_2 : decode cX7_isLength 2 = .ok (.if_icmp .eq 8, 3) := by decide +kernel
theorem dX7_isLength_5 : decode cX7_isLength 5 = .ok (.iload_n 0, 1) := by decide +kernel
theorem dX7_isLength_6 : decode cX7_isLength 6 = .ok (.iconst 5, 1) := by decide +kernel
theorem dX7_isLength_7 : decode cX7_isLength 7 = .ok (.if_icmp .ne 21, 3) := by decide +kernel
theorem dX7_isLength_10 : decode cX7_isLength 10 = .ok (.iload_n 1, 1) := by decide +kernel
theorem dX7_isLength_11 : decode cX7_isLength 11 = .ok (.iconst 2, 1) := by decide +kernel
theorem dX7_isLength_12 : decode cX7_isLength 12 = .ok (.if_icmp .lt 12, 3) := by decide +kernel
theorem dX7_isLength_15 : decode cX7_isLength 15 = .ok (.iload_n 1, 1) := by decide +kernel
theorem dX7_isLength_16 : decode cX7_isLength 16 = .ok (.iconst 4, 1) := by decide +kernel
theorem dX7_isLength_17 : decode cX7_isLength 17 = .ok (.if_icmp .gt 7, 3) := by decide +kernel
theorem dX7_isLength_20 : decode cX7_isLength 20 = .ok (.iconst 1, 1) := by decide +kernel
theorem dX7_isLength_21 : decode cX7_isLength 21 = .ok (.goto 35, 3) := by decide +kernel
theorem dX7_isLength_24 : decode cX7_isLength 24 = .ok (.iconst 0, 1) := by decide +kernel
theorem dX7_isLength_25 : decode cX7_isLength 25 = .ok (.goto 31, 3) := by decide +kernel
theorem dX7_isLength_28 : decode cX7_isLength 28 = .ok (.iload_n 0, 1) := by decide +kernel
theorem dX7_isLength_29 : decode cX7_isLength 29 = .ok (.iconst 3, 1) := by decide +kernel
theorem dX7_isLength_30 : decode cX7_isLength 30 = .ok (.if_icmp .ne 16, 3) := by decide +kernel
theorem dX7_isLength_33 : decode cX7_isLength 33 = .ok (.iload_n 1, 1) := by decide +kernel
theorem dX7_isLength_34 : decode cX7_isLength 34 = .ok (.iconst 2, 1) := by decide +kernel
theorem dX7_isLength_35 : decode cX7_isLength 35 = .ok (.if_icmp .ne 7, 3) := by decide +kernel
theorem dX7_isLength_38 : decode cX7_isLength 38 = .ok (.iconst 1, 1) := by decide +kernel
theorem dX7_isLength_39 : decode cX7_isLength 39 = .ok (.goto 17, 3) := by decide +kernel
theorem dX7_isLength_42 : decode cX7_isLength 42 = .ok (.iconst 0, 1) := by decide +kernel
theorem dX7_isLength_43 : decode cX7_isLength 43 = .ok (.goto 13, 3) := by decide +kernel
theorem dX7_isLength_46 : decode cX7_isLength 46 = .ok (.iload_n 1, 1) := by decide +kernel
theorem dX7_isLength_47 : decode cX7_isLength 47 = .ok (.iconst 1, 1) := by decide +kernel
theorem dX7_isLength_48 : decode cX7_isLength 48 = .ok (.if_icmp .ne 7, 3) := by decide +kernel
theorem dX7_isLength_51 : decode cX7_isLength 51 = .ok (.iconst 1, 1) := by decide +kernel
theorem dX7_isLength_52 : decode cX7_isLength 52 = .ok (.goto 4, 3) := by decide +kernel
theorem dX7_isLength_55 : decode cX7_isLength 55 = .ok (.iconst 0, 1) := by decide +kernel
theorem dX7_isLength_56 : decode cX7_isLength 56 = .ok (.ireturn, 1) := by decide +kernel
set_option maxRecDepth 20000 in
theorem mc_X7_barge_X7_barge_r1 : mjIn wsX7_barge wsX7_barge_r1 := fun w h => (List.mem_cons_of_mem _ (List.mem_append_left _ (List.mem_append_left _ h)))
set_option maxRecDepth 20000 in
theorem mc_X7_barge_X70 : mjIn wsX7_barge wsX70 := fun w h => (List.mem_cons_of_mem _ (List.mem_append_right _ h))
set_option maxRecDepth 20000 in
theorem ggX7_barge_X7_refuse : GoodIn wsX7_barge wsX7_refuse := mj_good (mj_cons (mc_X7_barge_X7_barge_r1 _ (List.mem_of_getElem? (i := 13) rfl)) (mj_app (mj_cons (mc_X7_barge_X7_barge_r1 _ (List.mem_of_getElem? (i := 1) rfl)) mj_nil) mc_X7_barge_X70)) (by decide +kernel)
set_option maxRecDepth 20000 in
theorem gX7_barge_X7_refuse : GoodIn wsX7_barge (wsV RX7 290 RX7 yX7_refuse wsX7_refuse) := goodIn_app (mj_good (mj_cons (mc_X7_barge_X7_barge_r1 _ (List.mem_of_getElem? (i := 9) rfl)) (mj_cons (mc_X7_barge_X7_barge_r1 _ (List.mem_of_getElem? (i := 10) rfl)) (mj_cons (mc_X7_barge_X7_barge_r1 _ (List.mem_of_getElem? (i := 11) rfl)) (mj_cons (mc_X7_barge_X7_barge_r1 _ (List.mem_of_getElem? (i := 12) rfl)) mj_nil)))) (by decide +kernel)) ggX7_barge_X7_refuse
set_option maxRecDepth 20000 in
theorem ggX7_barge_X7_isField : GoodIn wsX7_barge wsX7_isField := mj_good (mj_cons (mc_X7_barge_X7_barge_r1 _ (List.mem_of_getElem? (i := 17) rfl)) (mj_app (mj_cons (mc_X7_barge_X7_barge_r1 _ (List.mem_of_getElem? (i := 18) rfl)) (mj_cons (mc_X7_barge_X7_barge_r1 _ (List.mem_of_getElem? (i := 19) rfl)) mj_nil)) mc_X7_barge_X70)) (by decide +kernel)
set_option maxRecDepth 20000 in
theorem gX7_barge_X7_isField : GoodIn wsX7_barge (wsV RX7 229 RX7 yX7_isField wsX7_isField) := goodIn_app (mj_good (mj_cons (mc_X7_barge_X7_barge_r1 _ (List.mem_of_getElem? (i := 14) rfl)) (mj_cons (mc_X7_barge_X7_barge_r1 _ (List.mem_of_getElem? (i := 15) rfl)) (mj_cons (mc_X7_barge_X7_barge_r1 _ (List.mem_of_getElem? (i := 16) rfl)) (mj_cons (mc_X7_barge_X7_barge_r1 _ (List.mem_of_getElem? (i := 12) rfl)) mj_nil)))) (by decide +kernel)) ggX7_barge_X7_isField
set_option maxRecDepth 20000 in
theorem ggX7_barge_X7_isLength : GoodIn wsX7_barge wsX7_isLength := mj_good (mj_cons (mc_X7_barge_X7_barge_r1 _ (List.mem_of_getElem? (i := 22) rfl)) mj_nil) (by decide +kernel)
set_option maxRecDepth 20000 in
theorem gX7_barge_X7_isLength : GoodIn wsX7_barge (va_wsS RX7 366 yX7_isLength wsX7_isLength) := goodIn_app (mj_good (mj_cons (mc_X7_barge_X7_barge_r1 _ (List.mem_of_getElem? (i := 20) rfl)) (mj_cons (mc_X7_barge_X7_barge_r1 _ (List.mem_of_getElem? (i := 21) rfl)) (mj_cons (mc_X7_barge_X7_barge_r1 _ (List.mem_of_getElem? (i := 12) rfl)) mj_nil))) (by decide +kernel)) ggX7_barge_X7_isLength
set_option maxRecDepth 20000 in
theorem mc_X7_barge_X7_barge_r2 : mjIn wsX7_barge wsX7_barge_r2 := fun w h => (List.mem_cons_of_mem _ (List.mem_append_left _ (List.mem_append_right _ (List.mem_append_left _ h))))
set_option maxRecDepth 20000 in
theorem mc_X7_barge_X7_barge_r3 : mjIn wsX7_barge wsX7_barge_r3 := fun w h => (List.mem_cons_of_mem _ (List.mem_append_left _ (List.mem_append_right _ (List.mem_append_right _ h))))
set_option maxRecDepth 20000 in
theorem ggX7_barge_X7_layAll : GoodIn wsX7_barge wsX7_layAll := mj_good (mj_cons (mc_X7_barge_X7_barge_r2 _ (List.mem_of_getElem? (i := 2) rfl)) (mj_app (mj_app (mj_cons (mc_X7_barge_X7_barge_r1 _ (List.mem_of_getElem? (i := 3) rfl)) (mj_cons (mc_X7_barge_X7_barge_r2 _ (List.mem_of_getElem? (i := 3) rfl)) (mj_cons (mc_X7_barge_X7_barge_r1 _ (List.mem_of_getElem? (i := 7) rfl)) (mj_cons (mc_X7_barge_X7_barge_r2 _ (List.mem_of_getElem? (i := 4) rfl)) (mj_cons (mc_X7_barge_X7_barge_r2 _ (List.mem_of_getElem? (i := 5) rfl)) (mj_cons (mc_X7_barge_X7_barge_r2 _ (List.mem_of_getElem? (i := 6) rfl)) (mj_cons (mc_X7_barge_X7_barge_r1 _ (List.mem_of_getElem? (i := 12) rfl)) (mj_cons (mc_X7_barge_X7_barge_r2 _ (List.mem_of_getElem? (i := 7) rfl)) (mj_cons (mc_X7_barge_X7_barge_r2 _ (List.mem_of_getElem? (i := 8) rfl)) (mj_cons (mc_X7_barge_X7_barge_r2 _ (List.mem_of_getElem? (i := 9) rfl)) (mj_cons (mc_X7_barge_X7_barge_r2 _ (List.mem_of_getElem? (i := 10) rfl)) (mj_cons (mc_X7_barge_X7_barge_r2 _ (List.mem_of_getElem? (i := 11) rfl)) (mj_cons (mc_X7_barge_X7_barge_r2 _ (List.mem_of_getElem? (i := 12) rfl)) (mj_cons (mc_X7_barge_X7_barge_r2 _ (List.mem_of_getElem? (i := 13) rfl)) (mj_cons (mc_X7_barge_X7_barge_r2 _ (List.mem_of_getElem? (i := 14) rfl)) (mj_cons (mc_X7_barge_X7_barge_r2 _ (List.mem_of_getElem? (i := 15) rfl)) (mj_cons (mc_X7_barge_X7_barge_r2 _ (List.mem_of_getElem? (i := 16) rfl)) (mj_cons (mc_X7_barge_X7_barge_r1 _ (List.mem_of_getElem? (i := 4) rfl)) (mj_cons (mc_X7_barge_X7_barge_r1 _ (List.mem_of_getElem? (i := 6) rfl)) (mj_cons (mc_X7_barge_X7_barge_r1 _ (List.mem_of_getElem? (i := 5) rfl)) (mj_cons (mc_X7_barge_X7_barge_r2 _ (List.mem_of_getElem? (i := 17) rfl)) (mj_cons (mc_X7_barge_X7_barge_r2 _ (List.mem_of_getElem? (i := 18) rfl)) (mj_cons (mc_X7_barge_X7_barge_r2 _ (List.mem_of_getElem? (i := 19) rfl)) (mj_cons (mc_X7_barge_X7_barge_r2 _ (List.mem_of_getElem? (i := 20) rfl)) mj_nil)))))))))))))))))))))))) (mj_cons (mc_X7_barge_X7_barge_r2 _ (List.mem_of_getElem? (i := 21) rfl)) (mj_cons (mc_X7_barge_X7_barge_r2 _ (List.mem_of_getElem? (i := 22) rfl)) (mj_cons (mc_X7_barge_X7_barge_r2 _ (List.mem_of_getElem? (i := 23) rfl)) (mj_cons (mc_X7_barge_X7_barge_r3 _ (List.mem_of_getElem? (i := 0) rfl)) mj_nil))))) mc_X7_barge_X70)) (by decide +kernel)
set_option maxRecDepth 20000 in
theorem gX7_barge_X7_layAll : GoodIn wsX7_barge (wsV RX7 262 RX7 yX7_layAll wsX7_layAll) := goodIn_app (mj_good (mj_cons (mc_X7_barge_X7_barge_r1 _ (List.mem_of_getElem? (i := 23) rfl)) (mj_cons (mc_X7_barge_X7_barge_r2 _ (List.mem_of_getElem? (i := 0) rfl)) (mj_cons (mc_X7_barge_X7_barge_r2 _ (List.mem_of_getElem? (i := 1) rfl)) (mj_cons (mc_X7_barge_X7_barge_r1 _ (List.mem_of_getElem? (i := 12) rfl)) mj_nil)))) (by decide +kernel)) ggX7_barge_X7_layAll
set_option maxRecDepth 20000 in
theorem ggX7_barge_X7_againstAny : GoodIn wsX7_barge wsX7_againstAny := mj_good (mj_cons (mc_X7_barge_X7_barge_r3 _ (List.mem_of_getElem? (i := 4) rfl)) (mj_app (mj_cons (mc_X7_barge_X7_barge_r1 _ (List.mem_of_getElem? (i := 18) rfl)) (mj_cons (mc_X7_barge_X7_barge_r1 _ (List.mem_of_getElem? (i := 19) rfl)) (mj_cons (mc_X7_barge_X7_barge_r3 _ (List.mem_of_getElem? (i := 5) rfl)) (mj_cons (mc_X7_barge_X7_barge_r2 _ (List.mem_of_getElem? (i := 8) rfl)) (mj_cons (mc_X7_barge_X7_barge_r2 _ (List.mem_of_getElem? (i := 21) rfl)) (mj_cons (mc_X7_barge_X7_barge_r2 _ (List.mem_of_getElem? (i := 22) rfl)) (mj_cons (mc_X7_barge_X7_barge_r2 _ (List.mem_of_getElem? (i := 23) rfl)) (mj_cons (mc_X7_barge_X7_barge_r1 _ (List.mem_of_getElem? (i := 12) rfl)) (mj_cons (mc_X7_barge_X7_barge_r3 _ (List.mem_of_getElem? (i := 0) rfl)) (mj_cons (mc_X7_barge_X7_barge_r1 _ (List.mem_of_getElem? (i := 4) rfl)) (mj_cons (mc_X7_barge_X7_barge_r1 _ (List.mem_of_getElem? (i := 6) rfl)) (mj_cons (mc_X7_barge_X7_barge_r1 _ (List.mem_of_getElem? (i := 5) rfl)) (mj_cons (mc_X7_barge_X7_barge_r2 _ (List.mem_of_getElem? (i := 17) rfl)) (mj_cons (mc_X7_barge_X7_barge_r2 _ (List.mem_of_getElem? (i := 18) rfl)) (mj_cons (mc_X7_barge_X7_barge_r2 _ (List.mem_of_getElem? (i := 19) rfl)) (mj_cons (mc_X7_barge_X7_barge_r2 _ (List.mem_of_getElem? (i := 20) rfl)) (mj_cons (mc_X7_barge_X7_barge_r2 _ (List.mem_of_getElem? (i := 13) rfl)) (mj_cons (mc_X7_barge_X7_barge_r2 _ (List.mem_of_getElem? (i := 14) rfl)) (mj_cons (mc_X7_barge_X7_barge_r2 _ (List.mem_of_getElem? (i := 15) rfl)) (mj_cons (mc_X7_barge_X7_barge_r2 _ (List.mem_of_getElem? (i := 16) rfl)) mj_nil)))))))))))))))))))) mc_X7_barge_X70)) (by decide +kernel)
set_option maxRecDepth 20000 in
theorem gX7_barge_X7_againstAny : GoodIn wsX7_barge (wsV RX7 369 RX7 yX7_againstAny wsX7_againstAny) := goodIn_app (mj_good (mj_cons (mc_X7_barge_X7_barge_r3 _ (List.mem_of_getElem? (i := 1) rfl)) (mj_cons (mc_X7_barge_X7_barge_r3 _ (List.mem_of_getElem? (i := 2) rfl)) (mj_cons (mc_X7_barge_X7_barge_r3 _ (List.mem_of_getElem? (i := 3) rfl)) (mj_cons (mc_X7_barge_X7_barge_r1 _ (List.mem_of_getElem? (i := 12) rfl)) mj_nil)))) (by decide +kernel)) ggX7_barge_X7_againstAny
set_option maxRecDepth 20000 in
theorem ggX7_barge_X7_ends : GoodIn wsX7_barge wsX7_ends := mj_good (mj_cons (mc_X7_barge_X7_barge_r3 _ (List.mem_of_getElem? (i := 9) rfl)) (mj_app (mj_cons (mc_X7_barge_X7_barge_r3 _ (List.mem_of_getElem? (i := 10) rfl)) (mj_cons (mc_X7_barge_X7_barge_r3 _ (List.mem_of_getElem? (i := 11) rfl)) (mj_cons (mc_X7_barge_X7_barge_r3 _ (List.mem_of_getElem? (i := 12) rfl)) (mj_cons (mc_X7_barge_X7_barge_r1 _ (List.mem_of_getElem? (i := 12) rfl)) (mj_cons (mc_X7_barge_X7_barge_r3 _ (List.mem_of_getElem? (i := 13) rfl)) (mj_cons (mc_X7_barge_X7_barge_r3 _ (List.mem_of_getElem? (i := 14) rfl)) (mj_cons (mc_X7_barge_X7_barge_r3 _ (List.mem_of_getElem? (i := 15) rfl)) mj_nil))))))) mc_X7_barge_X70)) (by decide +kernel)
set_option maxRecDepth 20000 in
theorem gX7_barge_X7_ends : GoodIn wsX7_barge (wsV RX7 342 RX7 yX7_ends wsX7_ends) := goodIn_app (mj_good (mj_cons (mc_X7_barge_X7_barge_r3 _ (List.mem_of_getElem? (i := 6) rfl)) (mj_cons (mc_X7_barge_X7_barge_r3 _ (List.mem_of_getElem? (i := 7) rfl)) (mj_cons (mc_X7_barge_X7_barge_r3 _ (List.mem_of_getElem? (i := 8) rfl)) (mj_cons (mc_X7_barge_X7_barge_r1 _ (List.mem_of_getElem? (i := 12) rfl)) mj_nil)))) (by decide +kernel)) ggX7_barge_X7_ends
theorem dX7_barge_0 : decode cX7_barge 0 = .ok (.aload_n 0, 1) := by decide +kernel
theorem dX7_barge_1 : decode cX7_barge 1 = .ok (.iconst 0, 1) := by decide +kernel
theorem dX7_barge_2 : decode cX7_barge 2 = .ok (.putfield 184, 3) := by decide +kernel
theorem dX7_barge_5 : decode cX7_barge 5 = .ok (.aload_n 0, 1) := by decide +kernel
theorem dX7_barge_6 : decode cX7_barge 6 = .ok (.iconst 0, 1) := by decide +kernel
theorem dX7_barge_7 : decode cX7_barge 7 = .ok (.putfield 187, 3) := by decide +kernel
theorem dX7_barge_10 : decode cX7_barge 10 = .ok (.aload_n 0, 1) := by decide +kernel
theorem dX7_barge_11 : decode cX7_barge 11 = .ok (.getfield 303, 3) := by decide +kernel
theorem dX7_barge_14 : decode cX7_barge 14 = .ok (.ifCond .ne 9, 3) := by decide +kernel
theorem dX7_barge_17 : decode cX7_barge 17 = .ok (.aload_n 0, 1) := by decide +kernel
theorem dX7_barge_18 : decode cX7_barge 18 = .ok (.iconst 1, 1) := by decide +kernel
theorem dX7_barge_19 : decode cX7_barge 19 = .ok (.invokevirtual 290, 3) := by decide +kernel
theorem dX7_barge_22 : decode cX7_barge 22 = .ok (.ireturn, 1) := by decide +kernel
theorem dX7_barge_23 : decode cX7_barge 23 = .ok (.iload_n 1, 1) := by decide +kernel
theorem dX7_barge_24 : decode cX7_barge 24 = .ok (.iconst 1, 1) := by decide +kernel
theorem dX7_barge_25 : decode cX7_barge 25 = .ok (.if_icmp .lt 26, 3) := by decide +kernel
theorem dX7_barge_28 : decode cX7_barge 28 = .ok (.iload_n 1, 1) := by decide +kernel
theorem dX7_barge_29 : decode cX7_barge 29 = .ok (.iconst 5, 1) := by decide +kernel
theorem dX7_barge_30 : decode cX7_barge 30 = .ok (.if_icmp .gt 21, 3) := by decide +kernel
theorem dX7_barge_33 : decode cX7_barge 33 = .ok (.aload_n 0, 1) := by decide +kernel
theorem dX7_barge_34 : decode cX7_barge 34 = .ok (.iload_n 2, 1) := by decide +kernel
theorem dX7_barge_35 : decode cX7_barge 35 = .ok (.iload_n 3, 1) := by decide +kernel
theorem dX7_barge_36 : decode cX7_barge 36 = .ok (.invokevirtual 229, 3) := by decide +kernel
theorem dX7_barge_39 : decode cX7_barge 39 = .ok (.ifCond .eq 12, 3) := by decide +kernel
theorem dX7_barge_42 : decode cX7_barge 42 = .ok (.iload_n 1, 1) := by decide +kernel
theorem dX7_barge_43 : decode cX7_barge 43 = .ok (.iload 4, 2) := by decide +kernel
theorem dX7_barge_45 : decode cX7_barge 45 = .ok (.invokestatic 366, 3) := by decide +kernel
theorem dX7_barge_48 : decode cX7_barge 48 = .ok (.ifCond .ne 9, 3) := by decide +kernel
theorem dX7_barge_51 : decode cX7_barge 51 = .ok (.aload_n 0, 1) := by decide +kernel
theorem dX7_barge_52 : decode cX7_barge 52 = .ok (.iconst 2, 1) := by decide +kernel
theorem dX7_barge_53 : decode cX7_barge 53 = .ok (.invokevirtual 290, 3) := by decide +kernel
theorem dX7_barge_56 : decode cX7_barge 56 = .ok (.ireturn, 1) := by decide +kernel
theorem dX7_barge_57 : decode cX7_barge 57 = .ok (.aload_n 0, 1) := by decide +kernel
theorem dX7_barge_58 : decode cX7_barge 58 = .ok (.invokevirtual 262, 3) := by decide +kernel
theorem dX7_barge_61 : decode cX7_barge 61 = .ok (.aload_n 0, 1) := by decide +kernel
theorem dX7_barge_62 : decode cX7_barge 62 = .ok (.getfield 216, 3) := by decide +kernel
theorem dX7_barge_65 : decode cX7_barge 65 = .ok (.bipush 12, 2) := by decide +kernel
theorem dX7_barge_67 : decode cX7_barge 67 = .ok (.if_icmp .ne 7, 3) := by decide +kernel
theorem dX7_barge_70 : decode cX7_barge 70 = .ok (.iconst 1, 1) := by decide +kernel
theorem dX7_barge_71 : decode cX7_barge 71 = .ok (.goto 4, 3) := by decide +kernel
theorem dX7_barge_74 : decode cX7_barge 74 = .ok (.iconst 0, 1) := by decide +kernel
theorem dX7_barge_75 : decode cX7_barge 75 = .ok (.istore 6, 2) := by decide +kernel
theorem dX7_barge_77 : decode cX7_barge 77 = .ok (.iload 6, 2) := by decide +kernel
theorem dX7_barge_79 : decode cX7_barge 79 = .ok (.ifCond .eq 8, 3) := by decide +kernel
theorem dX7_barge_82 : decode cX7_barge 82 = .ok (.bipush 11, 2) := by decide +kernel
theorem dX7_barge_84 : decode cX7_barge 84 = .ok (.goto 7, 3) := by decide +kernel
theorem dX7_barge_87 : decode cX7_barge 87 = .ok (.aload_n 0, 1) := by decide +kernel
theorem dX7_barge_88 : decode cX7_barge 88 = .ok (.getfield 216, 3) := by decide +kernel
theorem dX7_barge_91 : decode cX7_barge 91 = .ok (.istore 7, 2) := by decide +kernel
theorem dX7_barge_93 : decode cX7_barge 93 = .ok (.aload_n 0, 1) := by decide +kernel
theorem dX7_barge_94 : decode cX7_barge 94 = .ok (.getfield 23, 3) := by decide +kernel
theorem dX7_barge_97 : decode cX7_barge 97 = .ok (.iload 7, 2) := by decide +kernel
theorem dX7_barge_99 : decode cX7_barge 99 = .ok (.iaload, 1) := by decide +kernel
theorem dX7_barge_100 : decode cX7_barge 100 = .ok (.istore 8, 2) := by decide +kernel
theorem dX7_barge_102 : decode cX7_barge 102 = .ok (.aload_n 0, 1) := by decide +kernel
theorem dX7_barge_103 : decode cX7_barge 103 = .ok (.getfield 29, 3) := by decide +kernel
theorem dX7_barge_106 : decode cX7_barge 106 = .ok (.iload 7, 2) := by decide +kernel
theorem dX7_barge_108 : decode cX7_barge 108 = .ok (.iaload, 1) := by decide +kernel
theorem dX7_barge_109 : decode cX7_barge 109 = .ok (.istore 9, 2) := by decide +kernel
theorem dX7_barge_111 : decode cX7_barge 111 = .ok (.aload_n 0, 1) := by decide +kernel
theorem dX7_barge_112 : decode cX7_barge 112 = .ok (.getfield 32, 3) := by decide +kernel
theorem dX7_barge_115 : decode cX7_barge 115 = .ok (.iload 7, 2) := by decide +kernel
theorem dX7_barge_117 : decode cX7_barge 117 = .ok (.iaload, 1) := by decide +kernel
theorem dX7_barge_118 : decode cX7_barge 118 = .ok (.istore 10, 2) := by decide +kernel
theorem dX7_barge_120 : decode cX7_barge 120 = .ok (.aload_n 0, 1) := by decide +kernel
theorem dX7_barge_121 : decode cX7_barge 121 = .ok (.getfield 23, 3) := by decide +kernel
theorem dX7_barge_124 : decode cX7_barge 124 = .ok (.iload 7, 2) := by decide +kernel
theorem dX7_barge_126 : decode cX7_barge 126 = .ok (.iload_n 1, 1) := by decide +kernel
theorem dX7_barge_127 : decode cX7_barge 127 = .ok (.iastore, 1) := by decide +kernel
theorem dX7_barge_128 : decode cX7_barge 128 = .ok (.aload_n 0, 1) := by decide +kernel
theorem dX7_barge_129 : decode cX7_barge 129 = .ok (.getfield 29, 3) := by decide +kernel
theorem dX7_barge_132 : decode cX7_barge 132 = .ok (.iload 7, 2) := by decide +kernel
theorem dX7_barge_134 : decode cX7_barge 134 = .ok (.iload 4, 2) := by decide +kernel
theorem dX7_barge_136 : decode cX7_barge 136 = .ok (.iastore, 1) := by decide +kernel
theorem dX7_barge_137 : decode cX7_barge 137 = .ok (.aload_n 0, 1) := by decide +kernel
theorem dX7_barge_138 : decode cX7_barge 138 = .ok (.getfield 32, 3) := by decide +kernel
theorem dX7_barge_141 : decode cX7_barge 141 = .ok (.iload 7, 2) := by decide +kernel
theorem dX7_barge_143 : decode cX7_barge 143 = .ok (.iload_n 1, 1) := by decide +kernel
theorem dX7_barge_144 : decode cX7_barge 144 = .ok (.iconst 1, 1) := by decide +kernel
theorem dX7_barge_145 : decode cX7_barge 145 = .ok (.if_icmp .eq 8, 3) := by decide +kernel
theorem dX7_barge_148 : decode cX7_barge 148 = .ok (.iload_n 1, 1) := by decide +kernel
theorem dX7_barge_149 : decode cX7_barge 149 = .ok (.iconst 5, 1) := by decide +kernel
theorem dX7_barge_150 : decode cX7_barge 150 = .ok (.if_icmp .ne 12, 3) := by decide +kernel
theorem dX7_barge_153 : decode cX7_barge 153 = .ok (.iload 5, 2) := by decide +kernel
theorem dX7_barge_155 : decode cX7_barge 155 = .ok (.ifCond .eq 7, 3) := by decide +kernel
theorem dX7_barge_158 : decode cX7_barge 158 = .ok (.iconst 1, 1) := by decide +kernel
theorem dX7_barge_159 : decode cX7_barge 159 = .ok (.goto 4, 3) := by decide +kernel
theorem dX7_barge_162 : decode cX7_barge 162 = .ok (.iconst 0, 1) := by decide +kernel
theorem dX7_barge_163 : decode cX7_barge 163 = .ok (.iastore, 1) := by decide +kernel
theorem dX7_barge_164 : decode cX7_barge 164 = .ok (.aload_n 0, 1) := by decide +kernel
theorem dX7_barge_165 : decode cX7_barge 165 = .ok (.iload 7, 2) := by decide +kernel
theorem dX7_barge_167 : decode cX7_barge 167 = .ok (.iload_n 2, 1) := by decide +kernel
theorem dX7_barge_168 : decode cX7_barge 168 = .ok (.iload_n 3, 1) := by decide +kernel
theorem dX7_barge_169 : decode cX7_barge 169 = .ok (.invokevirtual 369, 3) := by decide +kernel
theorem dX7_barge_172 : decode cX7_barge 172 = .ok (.istore 11, 2) := by decide +kernel
theorem dX7_barge_174 : decode cX7_barge 174 = .ok (.iload 11, 2) := by decide +kernel
theorem dX7_barge_176 : decode cX7_barge 176 = .ok (.ifCond .gt 8, 3) := by decide +kernel
theorem dX7_barge_179 : decode cX7_barge 179 = .ok (.iload 6, 2) := by decide +kernel
theorem dX7_barge_181 : decode cX7_barge 181 = .ok (.ifCond .eq 47, 3) := by decide +kernel
theorem dX7_barge_184 : decode cX7_barge 184 = .ok (.aload_n 0, 1) := by decide +kernel
theorem dX7_barge_185 : decode cX7_barge 185 = .ok (.getfield 23, 3) := by decide +kernel
theorem dX7_barge_188 : decode cX7_barge 188 = .ok (.iload 7, 2) := by decide +kernel
theorem dX7_barge_190 : decode cX7_barge 190 = .ok (.iload 8, 2) := by decide +kernel
theorem dX7_barge_192 : decode cX7_barge 192 = .ok (.iastore, 1) := by decide +kernel
theorem dX7_barge_193 : decode cX7_barge 193 = .ok (.aload_n 0, 1) := by decide +kernel
theorem dX7_barge_194 : decode cX7_barge 194 = .ok (.getfield 29, 3) := by decide +kernel
theorem dX7_barge_197 : decode cX7_barge 197 = .ok (.iload 7, 2) := by decide +kernel
theorem dX7_barge_199 : decode cX7_barge 199 = .ok (.iload 9, 2) := by decide +kernel
theorem dX7_barge_201 : decode cX7_barge 201 = .ok (.iastore, 1) := by decide +kernel
theorem dX7_barge_202 : decode cX7_barge 202 = .ok (.aload_n 0, 1) := by decide +kernel
theorem dX7_barge_203 : decode cX7_barge 203 = .ok (.getfield 32, 3) := by decide +kernel
theorem dX7_barge_206 : decode cX7_barge 206 = .ok (.iload 7, 2) := by decide +kernel
theorem dX7_barge_208 : decode cX7_barge 208 = .ok (.iload 10, 2) := by decide +kernel
theorem dX7_barge_210 : decode cX7_barge 210 = .ok (.iastore, 1) := by decide +kernel
theorem dX7_barge_211 : decode cX7_barge 211 = .ok (.aload_n 0, 1) := by decide +kernel
theorem dX7_barge_212 : decode cX7_barge 212 = .ok (.iload 11, 2) := by decide +kernel
theorem dX7_barge_214 : decode cX7_barge 214 = .ok (.ifCond .le 8, 3) := by decide +kernel
theorem dX7_barge_217 : decode cX7_barge 217 = .ok (.bipush 7, 2) := by decide +kernel
theorem dX7_barge_219 : decode cX7_barge 219 = .ok (.goto 5, 3) := by decide +kernel
theorem dX7_barge_222 : decode cX7_barge 222 = .ok (.bipush 8, 2) := by decide +kernel
theorem dX7_barge_224 : decode cX7_barge 224 = .ok (.invokevirtual 290, 3) := by decide +kernel
theorem dX7_barge_227 : decode cX7_barge 227 = .ok (.ireturn, 1) := by decide +kernel
theorem dX7_barge_228 : decode cX7_barge 228 = .ok (.aload_n 0, 1) := by decide +kernel
theorem dX7_barge_229 : decode cX7_barge 229 = .ok (.getfield 26, 3) := by decide +kernel
theorem dX7_barge_232 : decode cX7_barge 232 = .ok (.iload 7, 2) := by decide +kernel
theorem dX7_barge_234 : decode cX7_barge 234 = .ok (.iload_n 2, 1) := by decide +kernel
theorem dX7_barge_235 : decode cX7_barge 235 = .ok (.bipush 8, 2) := by decide +kernel
theorem dX7_barge_237 : decode cX7_barge 237 = .ok (.iload_n 3, 1) := by decide +kernel
theorem dX7_barge_238 : decode cX7_barge 238 = .ok (.imul, 1) := by decide +kernel
theorem dX7_barge_239 : decode cX7_barge 239 = .ok (.iadd, 1) := by decide +kernel
theorem dX7_barge_240 : decode cX7_barge 240 = .ok (.iastore, 1) := by decide +kernel
theorem dX7_barge_241 : decode cX7_barge 241 = .ok (.aload_n 0, 1) := by decide +kernel
theorem dX7_barge_242 : decode cX7_barge 242 = .ok (.getfield 35, 3) := by decide +kernel
theorem dX7_barge_245 : decode cX7_barge 245 = .ok (.iload 7, 2) := by decide +kernel
theorem dX7_barge_247 : decode cX7_barge 247 = .ok (.aload_n 0, 1) := by decide +kernel
theorem dX7_barge_248 : decode cX7_barge 248 = .ok (.getfield 26, 3) := by decide +kernel
theorem dX7_barge_251 : decode cX7_barge 251 = .ok (.iload 7, 2) := by decide +kernel
theorem dX7_barge_253 : decode cX7_barge 253 = .ok (.iaload, 1) := by decide +kernel
theorem dX7_barge_254 : decode cX7_barge 254 = .ok (.iastore, 1) := by decide +kernel
theorem dX7_barge_255 : decode cX7_barge 255 = .ok (.aload_n 0, 1) := by decide +kernel
theorem dX7_barge_256 : decode cX7_barge 256 = .ok (.dup, 1) := by decide +kernel
theorem dX7_barge_257 : decode cX7_barge 257 = .ok (.getfield 216, 3) := by decide +kernel
theorem dX7_barge_260 : decode cX7_barge 260 = .ok (.iconst 1, 1) := by decide +kernel
theorem dX7_barge_261 : decode cX7_barge 261 = .ok (.iadd, 1) := by decide +kernel
theorem dX7_barge_262 : decode cX7_barge 262 = .ok (.putfield 216, 3) := by decide +kernel
theorem dX7_barge_265 : decode cX7_barge 265 = .ok (.aload_n 0, 1) := by decide +kernel
theorem dX7_barge_266 : decode cX7_barge 266 = .ok (.invokevirtual 342, 3) := by decide +kernel
theorem dX7_barge_269 : decode cX7_barge 269 = .ok (.iload 7, 2) := by decide +kernel
theorem dX7_barge_271 : decode cX7_barge 271 = .ok (.ireturn, 1) := by decide +kernel
set_option maxRecDepth 20000 in
theorem mc_X7_againstAny_X70 : mjIn wsX7_againstAny wsX70 := fun w h => (List.mem_cons_of_mem _ (List.mem_append_right _ h))
set_option maxRecDepth 20000 in
theorem ggX7_againstAny_X7_wide : GoodIn wsX7_againstAny wsX7_wide := mj_good (mj_cons (List.mem_of_getElem? (i := 9) rfl) (mj_app (mj_cons (List.mem_of_getElem? (i := 10) rfl) (mj_cons (List.mem_of_getElem? (i := 11) rfl) (mj_cons (List.mem_of_getElem? (i := 12) rfl) (mj_cons (List.mem_of_getElem? (i := 13) rfl) (mj_cons (List.mem_of_getElem? (i := 14) rfl) (mj_cons (List.mem_of_getElem? (i := 15) rfl) (mj_cons (List.mem_of_getElem? (i := 8) rfl) (mj_cons (List.mem_of_getElem? (i := 16) rfl) mj_nil)))))))) mc_X7_againstAny_X70)) (by decide +kernel)
set_option maxRecDepth 20000 in
theorem gX7_againstAny_X7_wide : GoodIn wsX7_againstAny (wsV RX7 210 RX7 yX7_wide wsX7_wide) := goodIn_app (mj_good (mj_cons (List.mem_of_getElem? (i := 5) rfl) (mj_cons (List.mem_of_getElem? (i := 6) rfl) (mj_cons (List.mem_of_getElem? (i := 7) rfl) (mj_cons (List.mem_of_getElem? (i := 8) rfl) mj_nil)))) (by decide +kernel)) ggX7_againstAny_X7_wide
set_option maxRecDepth 20000 in
theorem ggX7_againstAny_X7_tall : GoodIn wsX7_againstAny wsX7_tall := mj_good (mj_cons (List.mem_of_getElem? (i := 20) rfl) (mj_app (mj_cons (List.mem_of_getElem? (i := 10) rfl) (mj_cons (List.mem_of_getElem? (i := 11) rfl) (mj_cons (List.mem_of_getElem? (i := 12) rfl) (mj_cons (List.mem_of_getElem? (i := 13) rfl) (mj_cons (List.mem_of_getElem? (i := 14) rfl) (mj_cons (List.mem_of_getElem? (i := 15) rfl) (mj_cons (List.mem_of_getElem? (i := 8) rfl) (mj_cons (List.mem_of_getElem? (i := 16) rfl) mj_nil)))))))) mc_X7_againstAny_X70)) (by decide +kernel)
set_option maxRecDepth 20000 in
theorem gX7_againstAny_X7_tall : GoodIn wsX7_againstAny (wsV RX7 206 RX7 yX7_tall wsX7_tall) := goodIn_app (mj_good (mj_cons (List.mem_of_getElem? (i := 17) rfl) (mj_cons (List.mem_of_getElem? (i := 18) rfl) (mj_cons (List.mem_of_getElem? (i := 19) rfl) (mj_cons (List.mem_of_getElem? (i := 8) rfl) mj_nil)))) (by decide +kernel)) ggX7_againstAny_X7_tall
theorem dX7_againstAny_0 : decode cX7_againstAny 0 = .ok (.iload_n 2, 1) := by decide +kernel
theorem dX7_againstAny_1 : decode cX7_againstAny 1 = .ok (.aload_n 0, 1) := by decide +kernel
theorem dX7_againstAny_2 : decode cX7_againstAny 2 = .ok (.iload_n 1, 1) := by decide +kernel
theorem dX7_againstAny_3 : decode cX7_againstAny 3 = .ok (.invokevirtual 210, 3) := by decide +kernel
theorem dX7_againstAny_6 : decode cX7_againstAny 6 = .ok (.iadd, 1) := by decide +kernel
theorem dX7_againstAny_7 : decode cX7_againstAny 7 = .ok (.aload_n 0, 1) := by decide +kernel
theorem dX7_againstAny_8 : decode cX7_againstAny 8 = .ok (.getfield 190, 3) := by decide +kernel
theorem dX7_againstAny_11 : decode cX7_againstAny 11 = .ok (.if_icmp .gt 17, 3) := by decide +kernel
theorem dX7_againstAny_14 : decode cX7_againstAny 14 = .ok (.iload_n 3, 1) := by decide +kernel
theorem dX7_againstAny_15 : decode cX7_againstAny 15 = .ok (.aload_n 0, 1) := by decide +kernel
theorem dX7_againstAny_16 : decode cX7_againstAny 16 = .ok (.iload_n 1, 1) := by decide +kernel
theorem dX7_againstAny_17 : decode cX7_againstAny 17 = .ok (.invokevirtual 206, 3) := by decide +kernel
theorem dX7_againstAny_20 : decode cX7_againstAny 20 = .ok (.iadd, 1) := by decide +kernel
theorem dX7_againstAny_21 : decode cX7_againstAny 21 = .ok (.aload_n 0, 1) := by decide +kernel
theorem dX7_againstAny_22 : decode cX7_againstAny 22 = .ok (.getfield 193, 3) := by decide +kernel
theorem dX7_againstAny_25 : decode cX7_againstAny 25 = .ok (.if_icmp .le 5, 3) := by decide +kernel
theorem dX7_againstAny_28 : decode cX7_againstAny 28 = .ok (.iconst 2, 1) := by decide +kernel
theorem dX7_againstAny_29 : decode cX7_againstAny 29 = .ok (.ireturn, 1) := by decide +kernel
theorem dX7_againstAny_30 : decode cX7_againstAny 30 = .ok (.iload_n 3, 1) := by decide +kernel
theorem dX7_againstAny_31 : decode cX7_againstAny 31 = .ok (.istore 4, 2) := by decide +kernel
theorem dX7_againstAny_33 : decode cX7_againstAny 33 = .ok (.iload 4, 2) := by decide +kernel
theorem dX7_againstAny_35 : decode cX7_againstAny 35 = .ok (.iload_n 3, 1) := by decide +kernel
theorem dX7_againstAny_36 : decode cX7_againstAny 36 = .ok (.aload_n 0, 1) := by decide +kernel
theorem dX7_againstAny_37 : decode cX7_againstAny 37 = .ok (.iload_n 1, 1) := by decide +kernel
theorem dX7_againstAny_38 : decode cX7_againstAny 38 = .ok (.invokevirtual 206, 3) := by decide +kernel
theorem dX7_againstAny_41 : decode cX7_againstAny 41 = .ok (.iadd, 1) := by decide +kernel
theorem dX7_againstAny_42 : decode cX7_againstAny 42 = .ok (.if_icmp .ge 64, 3) := by decide +kernel
theorem dX7_againstAny_45 : decode cX7_againstAny 45 = .ok (.iload_n 2, 1) := by decide +kernel
theorem dX7_againstAny_46 : decode cX7_againstAny 46 = .ok (.istore 5, 2) := by decide +kernel
theorem dX7_againstAny_48 : decode cX7_againstAny 48 = .ok (.iload 5, 2) := by decide +kernel
theorem dX7_againstAny_50 : decode cX7_againstAny 50 = .ok (.iload_n 2, 1) := by decide +kernel
theorem dX7_againstAny_51 : decode cX7_againstAny 51 = .ok (.aload_n 0, 1) := by decide +kernel
theorem dX7_againstAny_52 : decode cX7_againstAny 52 = .ok (.iload_n 1, 1) := by decide +kernel
theorem dX7_againstAny_53 : decode cX7_againstAny 53 = .ok (.invokevirtual 210, 3) := by decide +kernel
theorem dX7_againstAny_56 : decode cX7_againstAny 56 = .ok (.iadd, 1) := by decide +kernel
theorem dX7_againstAny_57 : decode cX7_againstAny 57 = .ok (.if_icmp .ge 43, 3) := by decide +kernel
theorem dX7_againstAny_60 : decode cX7_againstAny 60 = .ok (.aload_n 0, 1) := by decide +kernel
theorem dX7_againstAny_61 : decode cX7_againstAny 61 = .ok (.getfield 19, 3) := by decide +kernel
theorem dX7_againstAny_64 : decode cX7_againstAny 64 = .ok (.iload 5, 2) := by decide +kernel
theorem dX7_againstAny_66 : decode cX7_againstAny 66 = .ok (.bipush 8, 2) := by decide +kernel
theorem dX7_againstAny_68 : decode cX7_againstAny 68 = .ok (.iload 4, 2) := by decide +kernel
theorem dX7_againstAny_70 : decode cX7_againstAny 70 = .ok (.imul, 1) := by decide +kernel
theorem dX7_againstAny_71 : decode cX7_againstAny 71 = .ok (.iadd, 1) := by decide +kernel
theorem dX7_againstAny_72 : decode cX7_againstAny 72 = .ok (.baload, 1) := by decide +kernel
theorem dX7_againstAny_73 : decode cX7_againstAny 73 = .ok (.ifCond .ne 19, 3) := by decide +kernel
theorem dX7_againstAny_76 : decode cX7_againstAny 76 = .ok (.aload_n 0, 1) := by decide +kernel
theorem dX7_againstAny_77 : decode cX7_againstAny 77 = .ok (.getfield 118, 3) := by decide +kernel
theorem dX7_againstAny_80 : decode cX7_againstAny 80 = .ok (.iload 5, 2) := by decide +kernel
theorem dX7_againstAny_82 : decode cX7_againstAny 82 = .ok (.bipush 8, 2) := by decide +kernel
theorem dX7_againstAny_84 : decode cX7_againstAny 84 = .ok (.iload 4, 2) := by decide +kernel
theorem dX7_againstAny_86 : decode cX7_againstAny 86 = .ok (.imul, 1) := by decide +kernel
theorem dX7_againstAny_87 : decode cX7_againstAny 87 = .ok (.iadd, 1) := by decide +kernel
theorem dX7_againstAny_88 : decode cX7_againstAny 88 = .ok (.iaload, 1) := by decide +kernel
theorem dX7_againstAny_89 : decode cX7_againstAny 89 = .ok (.ifCond .lt 5, 3) := by decide +kernel
theorem dX7_againstAny_92 : decode cX7_againstAny 92 = .ok (.iconst 3, 1) := by decide +kernel
theorem dX7_againstAny_93 : decode cX7_againstAny 93 = .ok (.ireturn, 1) := by decide +kernel
theorem dX7_againstAny_94 : decode cX7_againstAny 94 = .ok (.iinc 5 1, 3) := by decide +kernel
theorem dX7_againstAny_97 : decode cX7_againstAny 97 = .ok (.goto (-49), 3) := by decide +kernel
theorem dX7_againstAny_100 : decode cX7_againstAny 100 = .ok (.iinc 4 1, 3) := by decide +kernel
theorem dX7_againstAny_103 : decode cX7_againstAny 103 = .ok (.goto (-70), 3) := by decide +kernel
theorem dX7_againstAny_106 : decode cX7_againstAny 106 = .ok (.iconst 0, 1) := by decide +kernel
theorem dX7_againstAny_107 : decode cX7_againstAny 107 = .ok (.ireturn, 1) := by decide +kernel
theorem dX7_isBarge_0 : decode cX7_isBarge 0 = .ok (.iload_n 1, 1) := by decide +kernel
theorem dX7_isBarge_1 : decode cX7_isBarge 1 = .ok (.ifCond .lt 15, 3) := by decide +kernel
theorem dX7_isBarge_4 : decode cX7_isBarge 4 = .ok (.iload_n 1, 1) := by decide +kernel
theorem dX7_isBarge_5 : decode cX7_isBarge 5 = .ok (.aload_n 0, 1) := by decide +kernel
theorem dX7_isBarge_6 : decode cX7_isBarge 6 = .ok (.getfield 216, 3) := by decide +kernel
theorem dX7_isBarge_9 : decode cX7_isBarge 9 = .ok (.if_icmp .ge 7, 3) := by decide +kernel
theorem dX7_isBarge_12 : decode cX7_isBarge 12 = .ok (.iconst 1, 1) := by decide +kernel
theorem dX7_isBarge_13 : decode cX7_isBarge 13 = .ok (.goto 4, 3) := by decide +kernel
theorem dX7_isBarge_16 : decode cX7_isBarge 16 = .ok (.iconst 0, 1) := by decide +kernel
theorem dX7_isBarge_17 : decode cX7_isBarge 17 = .ok (.ireturn, 1) := by decide +kernel
set_option maxRecDepth 20000 in
theorem mc_X7_gate_X7_gate_r1 : mjIn wsX7_gate wsX7_gate_r1 := fun w h => (List.mem_cons_of_mem _ (List.mem_append_left _ (List.mem_append_left _ h)))
set_option maxRecDepth 20000 in
theorem mc_X7_gate_X70 : mjIn wsX7_gate wsX70 := fun w h => (List.mem_cons_of_mem _ (List.mem_append_right _ h))
set_option maxRecDepth 20000 in
theorem ggX7_gate_X7_no : GoodIn wsX7_gate wsX7_no := mj_good (mj_cons (mc_X7_gate_X7_gate_r1 _ (List.mem_of_getElem? (i := 13) rfl)) (mj_app (mj_cons (mc_X7_gate_X7_gate_r1 _ (List.mem_of_getElem? (i := 1) rfl)) mj_nil) mc_X7_gate_X70)) (by decide +kernel)
set_option maxRecDepth 20000 in
theorem gX7_gate_X7_no : GoodIn wsX7_gate (wsV RX7 327 RX7 yX7_no wsX7_no) := goodIn_app (mj_good (mj_cons (mc_X7_gate_X7_gate_r1 _ (List.mem_of_getElem? (i := 9) rfl)) (mj_cons (mc_X7_gate_X7_gate_r1 _ (List.mem_of_getElem? (i := 10) rfl)) (mj_cons (mc_X7_gate_X7_gate_r1 _ (List.mem_of_getElem? (i := 11) rfl)) (mj_cons (mc_X7_gate_X7_gate_r1 _ (List.mem_of_getElem? (i := 12) rfl)) mj_nil)))) (by decide +kernel)) ggX7_gate_X7_no
set_option maxRecDepth 20000 in
theorem ggX7_gate_X7_isBarge : GoodIn wsX7_gate wsX7_isBarge := mj_good (mj_cons (mc_X7_gate_X7_gate_r1 _ (List.mem_of_getElem? (i := 17) rfl)) (mj_app (mj_cons (mc_X7_gate_X7_gate_r1 _ (List.mem_of_getElem? (i := 18) rfl)) mj_nil) mc_X7_gate_X70)) (by decide +kernel)
set_option maxRecDepth 20000 in
theorem gX7_gate_X7_isBarge : GoodIn wsX7_gate (wsV RX7 372 RX7 yX7_isBarge wsX7_isBarge) := goodIn_app (mj_good (mj_cons (mc_X7_gate_X7_gate_r1 _ (List.mem_of_getElem? (i := 14) rfl)) (mj_cons (mc_X7_gate_X7_gate_r1 _ (List.mem_of_getElem? (i := 15) rfl)) (mj_cons (mc_X7_gate_X7_gate_r1 _ (List.mem_of_getElem? (i := 16) rfl)) (mj_cons (mc_X7_gate_X7_gate_r1 _ (List.mem_of_getElem? (i := 12) rfl)) mj_nil)))) (by decide +kernel)) ggX7_gate_X7_isBarge
set_option maxRecDepth 20000 in
theorem ggX7_gate_X7_isField : GoodIn wsX7_gate wsX7_isField := mj_good (mj_cons (mc_X7_gate_X7_gate_r1 _ (List.mem_of_getElem? (i := 22) rfl)) (mj_app (mj_cons (mc_X7_gate_X7_gate_r1 _ (List.mem_of_getElem? (i := 6) rfl)) (mj_cons (mc_X7_gate_X7_gate_r1 _ (List.mem_of_getElem? (i := 7) rfl)) mj_nil)) mc_X7_gate_X70)) (by decide +kernel)
set_option maxRecDepth 20000 in
theorem gX7_gate_X7_isField : GoodIn wsX7_gate (wsV RX7 229 RX7 yX7_isField wsX7_isField) := goodIn_app (mj_good (mj_cons (mc_X7_gate_X7_gate_r1 _ (List.mem_of_getElem? (i := 19) rfl)) (mj_cons (mc_X7_gate_X7_gate_r1 _ (List.mem_of_getElem? (i := 20) rfl)) (mj_cons (mc_X7_gate_X7_gate_r1 _ (List.mem_of_getElem? (i := 21) rfl)) (mj_cons (mc_X7_gate_X7_gate_r1 _ (List.mem_of_getElem? (i := 12) rfl)) mj_nil)))) (by decide +kernel)) ggX7_gate_X7_isField
set_option maxRecDepth 20000 in
theorem mc_X7_gate_X7_gate_r2 : mjIn wsX7_gate wsX7_gate_r2 := fun w h => (List.mem_cons_of_mem _ (List.mem_append_left _ (List.mem_append_right _ h)))
set_option maxRecDepth 20000 in
theorem ggX7_gate_X7_wide : GoodIn wsX7_gate wsX7_wide := mj_good (mj_cons (mc_X7_gate_X7_gate_r2 _ (List.mem_of_getElem? (i := 2) rfl)) (mj_app (mj_cons (mc_X7_gate_X7_gate_r1 _ (List.mem_of_getElem? (i := 3) rfl)) (mj_cons (mc_X7_gate_X7_gate_r1 _ (List.mem_of_getElem? (i := 4) rfl)) (mj_cons (mc_X7_gate_X7_gate_r2 _ (List.mem_of_getElem? (i := 3) rfl)) (mj_cons (mc_X7_gate_X7_gate_r2 _ (List.mem_of_getElem? (i := 4) rfl)) (mj_cons (mc_X7_gate_X7_gate_r2 _ (List.mem_of_getElem? (i := 5) rfl)) (mj_cons (mc_X7_gate_X7_gate_r2 _ (List.mem_of_getElem? (i := 6) rfl)) (mj_cons (mc_X7_gate_X7_gate_r1 _ (List.mem_of_getElem? (i := 12) rfl)) (mj_cons (mc_X7_gate_X7_gate_r2 _ (List.mem_of_getElem? (i := 7) rfl)) mj_nil)))))))) mc_X7_gate_X70)) (by decide +kernel)
set_option maxRecDepth 20000 in
theorem gX7_gate_X7_wide : GoodIn wsX7_gate (wsV RX7 210 RX7 yX7_wide wsX7_wide) := goodIn_app (mj_good (mj_cons (mc_X7_gate_X7_gate_r1 _ (List.mem_of_getElem? (i := 23) rfl)) (mj_cons (mc_X7_gate_X7_gate_r2 _ (List.mem_of_getElem? (i := 0) rfl)) (mj_cons (mc_X7_gate_X7_gate_r2 _ (List.mem_of_getElem? (i := 1) rfl)) (mj_cons (mc_X7_gate_X7_gate_r1 _ (List.mem_of_getElem? (i := 12) rfl)) mj_nil)))) (by decide +kernel)) ggX7_gate_X7_wide
set_option maxRecDepth 20000 in
theorem ggX7_gate_X7_tall : GoodIn wsX7_gate wsX7_tall := mj_good (mj_cons (mc_X7_gate_X7_gate_r2 _ (List.mem_of_getElem? (i := 11) rfl)) (mj_app (mj_cons (mc_X7_gate_X7_gate_r1 _ (List.mem_of_getElem? (i := 3) rfl)) (mj_cons (mc_X7_gate_X7_gate_r1 _ (List.mem_of_getElem? (i := 4) rfl)) (mj_cons (mc_X7_gate_X7_gate_r2 _ (List.mem_of_getElem? (i := 3) rfl)) (mj_cons (mc_X7_gate_X7_gate_r2 _ (List.mem_of_getElem? (i := 4) rfl)) (mj_cons (mc_X7_gate_X7_gate_r2 _ (List.mem_of_getElem? (i := 5) rfl)) (mj_cons (mc_X7_gate_X7_gate_r2 _ (List.mem_of_getElem? (i := 6) rfl)) (mj_cons (mc_X7_gate_X7_gate_r1 _ (List.mem_of_getElem? (i := 12) rfl)) (mj_cons (mc_X7_gate_X7_gate_r2 _ (List.mem_of_getElem? (i := 7) rfl)) mj_nil)))))))) mc_X7_gate_X70)) (by decide +kernel)
set_option maxRecDepth 20000 in
theorem gX7_gate_X7_tall : GoodIn wsX7_gate (wsV RX7 206 RX7 yX7_tall wsX7_tall) := goodIn_app (mj_good (mj_cons (mc_X7_gate_X7_gate_r2 _ (List.mem_of_getElem? (i := 8) rfl)) (mj_cons (mc_X7_gate_X7_gate_r2 _ (List.mem_of_getElem? (i := 9) rfl)) (mj_cons (mc_X7_gate_X7_gate_r2 _ (List.mem_of_getElem? (i := 10) rfl)) (mj_cons (mc_X7_gate_X7_gate_r1 _ (List.mem_of_getElem? (i := 12) rfl)) mj_nil)))) (by decide +kernel)) ggX7_gate_X7_tall
set_option maxRecDepth 20000 in
theorem ggX7_gate_X7_ends : GoodIn wsX7_gate wsX7_ends := mj_good (mj_cons (mc_X7_gate_X7_gate_r2 _ (List.mem_of_getElem? (i := 15) rfl)) (mj_app (mj_cons (mc_X7_gate_X7_gate_r2 _ (List.mem_of_getElem? (i := 16) rfl)) (mj_cons (mc_X7_gate_X7_gate_r2 _ (List.mem_of_getElem? (i := 17) rfl)) (mj_cons (mc_X7_gate_X7_gate_r2 _ (List.mem_of_getElem? (i := 18) rfl)) (mj_cons (mc_X7_gate_X7_gate_r1 _ (List.mem_of_getElem? (i := 12) rfl)) (mj_cons (mc_X7_gate_X7_gate_r2 _ (List.mem_of_getElem? (i := 19) rfl)) (mj_cons (mc_X7_gate_X7_gate_r2 _ (List.mem_of_getElem? (i := 20) rfl)) (mj_cons (mc_X7_gate_X7_gate_r2 _ (List.mem_of_getElem? (i := 21) rfl)) mj_nil))))))) mc_X7_gate_X70)) (by decide +kernel)
set_option maxRecDepth 20000 in
theorem gX7_gate_X7_ends : GoodIn wsX7_gate (wsV RX7 342 RX7 yX7_ends wsX7_ends) := goodIn_app (mj_good (mj_cons (mc_X7_gate_X7_gate_r2 _ (List.mem_of_getElem? (i := 12) rfl)) (mj_cons (mc_X7_gate_X7_gate_r2 _ (List.mem_of_getElem? (i := 13) rfl)) (mj_cons (mc_X7_gate_X7_gate_r2 _ (List.mem_of_getElem? (i := 14) rfl)) (mj_cons (mc_X7_gate_X7_gate_r1 _ (List.mem_of_getElem? (i := 12) rfl)) mj_nil)))) (by decide +kernel)) ggX7_gate_X7_ends
theorem dX7_gate_0 : decode cX7_gate 0 = .ok (.aload_n 0, 1) := by decide +kernel
