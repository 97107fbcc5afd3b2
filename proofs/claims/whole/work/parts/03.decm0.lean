theorem d_md_init_0 : decode prog_14_method_1_code 0 = .ok (.aload_n 0, 1) := by decide +kernel
theorem d_md_init_1 : decode prog_14_method_1_code 1 = .ok (.invokespecial 1, 3) := by decide +kernel
theorem d_md_init_4 : decode prog_14_method_1_code 4 = .ok (.aload_n 0, 1) := by decide +kernel
theorem d_md_init_5 : decode prog_14_method_1_code 5 = .ok (.bipush 120, 2) := by decide +kernel
theorem d_md_init_7 : decode prog_14_method_1_code 7 = .ok (.newarray .int, 2) := by decide +kernel
theorem d_md_init_9 : decode prog_14_method_1_code 9 = .ok (.putfield 7, 3) := by decide +kernel
theorem d_md_init_12 : decode prog_14_method_1_code 12 = .ok (.aload_n 0, 1) := by decide +kernel
theorem d_md_init_13 : decode prog_14_method_1_code 13 = .ok (.sipush 128, 3) := by decide +kernel
theorem d_md_init_16 : decode prog_14_method_1_code 16 = .ok (.newarray .int, 2) := by decide +kernel
theorem d_md_init_18 : decode prog_14_method_1_code 18 = .ok (.putfield 13, 3) := by decide +kernel
theorem d_md_init_21 : decode prog_14_method_1_code 21 = .ok (.aload_n 0, 1) := by decide +kernel
theorem d_md_init_22 : decode prog_14_method_1_code 22 = .ok (.sipush 128, 3) := by decide +kernel
theorem d_md_init_25 : decode prog_14_method_1_code 25 = .ok (.newarray .int, 2) := by decide +kernel
theorem d_md_init_27 : decode prog_14_method_1_code 27 = .ok (.putfield 16, 3) := by decide +kernel
theorem d_md_init_30 : decode prog_14_method_1_code 30 = .ok (.aload_n 0, 1) := by decide +kernel
theorem d_md_init_31 : decode prog_14_method_1_code 31 = .ok (.sipush 128, 3) := by decide +kernel
theorem d_md_init_34 : decode prog_14_method_1_code 34 = .ok (.newarray .int, 2) := by decide +kernel
theorem d_md_init_36 : decode prog_14_method_1_code 36 = .ok (.putfield 19, 3) := by decide +kernel
theorem d_md_init_39 : decode prog_14_method_1_code 39 = .ok (.aload_n 0, 1) := by decide +kernel
theorem d_md_init_40 : decode prog_14_method_1_code 40 = .ok (.sipush 128, 3) := by decide +kernel
theorem d_md_init_43 : decode prog_14_method_1_code 43 = .ok (.newarray .int, 2) := by decide +kernel
theorem d_md_init_45 : decode prog_14_method_1_code 45 = .ok (.putfield 22, 3) := by decide +kernel
theorem d_md_init_48 : decode prog_14_method_1_code 48 = .ok (.aload_n 0, 1) := by decide +kernel
theorem d_md_init_49 : decode prog_14_method_1_code 49 = .ok (.sipush 240, 3) := by decide +kernel
theorem d_md_init_52 : decode prog_14_method_1_code 52 = .ok (.newarray .int, 2) := by decide +kernel
theorem d_md_init_54 : decode prog_14_method_1_code 54 = .ok (.putfield 25, 3) := by decide +kernel
theorem d_md_init_57 : decode prog_14_method_1_code 57 = .ok (.aload_n 0, 1) := by decide +kernel
theorem d_md_init_58 : decode prog_14_method_1_code 58 = .ok (.sipush 800, 3) := by decide +kernel
theorem d_md_init_61 : decode prog_14_method_1_code 61 = .ok (.newarray .int, 2) := by decide +kernel
theorem d_md_init_63 : decode prog_14_method_1_code 63 = .ok (.putfield 28, 3) := by decide +kernel
theorem d_md_init_66 : decode prog_14_method_1_code 66 = .ok (.aload_n 0, 1) := by decide +kernel
theorem d_md_init_67 : decode prog_14_method_1_code 67 = .ok (.sipush 800, 3) := by decide +kernel
theorem d_md_init_70 : decode prog_14_method_1_code 70 = .ok (.newarray .int, 2) := by decide +kernel
theorem d_md_init_72 : decode prog_14_method_1_code 72 = .ok (.putfield 31, 3) := by decide +kernel
theorem d_md_init_75 : decode prog_14_method_1_code 75 = .ok (.aload_n 0, 1) := by decide +kernel
theorem d_md_init_76 : decode prog_14_method_1_code 76 = .ok (.sipush 800, 3) := by decide +kernel
theorem d_md_init_79 : decode prog_14_method_1_code 79 = .ok (.newarray .int, 2) := by decide +kernel
theorem d_md_init_81 : decode prog_14_method_1_code 81 = .ok (.putfield 34, 3) := by decide +kernel
theorem d_md_init_84 : decode prog_14_method_1_code 84 = .ok (.aload_n 0, 1) := by decide +kernel
theorem d_md_init_85 : decode prog_14_method_1_code 85 = .ok (.sipush 200, 3) := by decide +kernel
theorem d_md_init_88 : decode prog_14_method_1_code 88 = .ok (.newarray .int, 2) := by decide +kernel
theorem d_md_init_90 : decode prog_14_method_1_code 90 = .ok (.putfield 37, 3) := by decide +kernel
theorem d_md_init_93 : decode prog_14_method_1_code 93 = .ok (.aload_n 0, 1) := by decide +kernel
theorem d_md_init_94 : decode prog_14_method_1_code 94 = .ok (.sipush 200, 3) := by decide +kernel
theorem d_md_init_97 : decode prog_14_method_1_code 97 = .ok (.newarray .int, 2) := by decide +kernel
theorem d_md_init_99 : decode prog_14_method_1_code 99 = .ok (.putfield 40, 3) := by decide +kernel
theorem d_md_init_102 : decode prog_14_method_1_code 102 = .ok (.aload_n 0, 1) := by decide +kernel
theorem d_md_init_103 : decode prog_14_method_1_code 103 = .ok (.sipush 200, 3) := by decide +kernel
theorem d_md_init_106 : decode prog_14_method_1_code 106 = .ok (.newarray .int, 2) := by decide +kernel
theorem d_md_init_108 : decode prog_14_method_1_code 108 = .ok (.putfield 43, 3) := by decide +kernel
theorem d_md_init_111 : decode prog_14_method_1_code 111 = .ok (.aload_n 0, 1) := by decide +kernel
theorem d_md_init_112 : decode prog_14_method_1_code 112 = .ok (.sipush 200, 3) := by decide +kernel
theorem d_md_init_115 : decode prog_14_method_1_code 115 = .ok (.newarray .int, 2) := by decide +kernel
theorem d_md_init_117 : decode prog_14_method_1_code 117 = .ok (.putfield 46, 3) := by decide +kernel
theorem d_md_init_120 : decode prog_14_method_1_code 120 = .ok (.aload_n 0, 1) := by decide +kernel
theorem d_md_init_121 : decode prog_14_method_1_code 121 = .ok (.sipush 200, 3) := by decide +kernel
theorem d_md_init_124 : decode prog_14_method_1_code 124 = .ok (.newarray .int, 2) := by decide +kernel
theorem d_md_init_126 : decode prog_14_method_1_code 126 = .ok (.putfield 49, 3) := by decide +kernel
theorem d_md_init_129 : decode prog_14_method_1_code 129 = .ok (.aload_n 0, 1) := by decide +kernel
theorem d_md_init_130 : decode prog_14_method_1_code 130 = .ok (.sipush 200, 3) := by decide +kernel
theorem d_md_init_133 : decode prog_14_method_1_code 133 = .ok (.newarray .int, 2) := by decide +kernel
theorem d_md_init_135 : decode prog_14_method_1_code 135 = .ok (.putfield 52, 3) := by decide +kernel
theorem d_md_init_138 : decode prog_14_method_1_code 138 = .ok (.aload_n 0, 1) := by decide +kernel
theorem d_md_init_139 : decode prog_14_method_1_code 139 = .ok (.sipush 200, 3) := by decide +kernel
theorem d_md_init_142 : decode prog_14_method_1_code 142 = .ok (.newarray .int, 2) := by decide +kernel
theorem d_md_init_144 : decode prog_14_method_1_code 144 = .ok (.putfield 55, 3) := by decide +kernel
theorem d_md_init_147 : decode prog_14_method_1_code 147 = .ok (.aload_n 0, 1) := by decide +kernel
theorem d_md_init_148 : decode prog_14_method_1_code 148 = .ok (.sipush 200, 3) := by decide +kernel
theorem d_md_init_151 : decode prog_14_method_1_code 151 = .ok (.newarray .int, 2) := by decide +kernel
theorem d_md_init_153 : decode prog_14_method_1_code 153 = .ok (.putfield 58, 3) := by decide +kernel
theorem d_md_init_156 : decode prog_14_method_1_code 156 = .ok (.aload_n 0, 1) := by decide +kernel
theorem d_md_init_157 : decode prog_14_method_1_code 157 = .ok (.sipush 200, 3) := by decide +kernel
theorem d_md_init_160 : decode prog_14_method_1_code 160 = .ok (.newarray .int, 2) := by decide +kernel
theorem d_md_init_162 : decode prog_14_method_1_code 162 = .ok (.putfield 61, 3) := by decide +kernel
theorem d_md_init_165 : decode prog_14_method_1_code 165 = .ok (.aload_n 0, 1) := by decide +kernel
theorem d_md_init_166 : decode prog_14_method_1_code 166 = .ok (.sipush 200, 3) := by decide +kernel
theorem d_md_init_169 : decode prog_14_method_1_code 169 = .ok (.newarray .int, 2) := by decide +kernel
theorem d_md_init_171 : decode prog_14_method_1_code 171 = .ok (.putfield 64, 3) := by decide +kernel
theorem d_md_init_174 : decode prog_14_method_1_code 174 = .ok (.aload_n 0, 1) := by decide +kernel
theorem d_md_init_175 : decode prog_14_method_1_code 175 = .ok (.sipush 200, 3) := by decide +kernel
theorem d_md_init_178 : decode prog_14_method_1_code 178 = .ok (.newarray .int, 2) := by decide +kernel
theorem d_md_init_180 : decode prog_14_method_1_code 180 = .ok (.putfield 67, 3) := by decide +kernel
theorem d_md_init_183 : decode prog_14_method_1_code 183 = .ok (.aload_n 0, 1) := by decide +kernel
theorem d_md_init_184 : decode prog_14_method_1_code 184 = .ok (.sipush 200, 3) := by decide +kernel
theorem d_md_init_187 : decode prog_14_method_1_code 187 = .ok (.newarray .int, 2) := by decide +kernel
theorem d_md_init_189 : decode prog_14_method_1_code 189 = .ok (.putfield 70, 3) := by decide +kernel
theorem d_md_init_192 : decode prog_14_method_1_code 192 = .ok (.aload_n 0, 1) := by decide +kernel
theorem d_md_init_193 : decode prog_14_method_1_code 193 = .ok (.sipush 200, 3) := by decide +kernel
theorem d_md_init_196 : decode prog_14_method_1_code 196 = .ok (.newarray .int, 2) := by decide +kernel
theorem d_md_init_198 : decode prog_14_method_1_code 198 = .ok (.putfield 73, 3) := by decide +kernel
theorem d_md_init_201 : decode prog_14_method_1_code 201 = .ok (.aload_n 0, 1) := by decide +kernel
theorem d_md_init_202 : decode prog_14_method_1_code 202 = .ok (.sipush 200, 3) := by decide +kernel
theorem d_md_init_205 : decode prog_14_method_1_code 205 = .ok (.newarray .int, 2) := by decide +kernel
theorem d_md_init_207 : decode prog_14_method_1_code 207 = .ok (.putfield 76, 3) := by decide +kernel
theorem d_md_init_210 : decode prog_14_method_1_code 210 = .ok (.aload_n 0, 1) := by decide +kernel
theorem d_md_init_211 : decode prog_14_method_1_code 211 = .ok (.sipush 200, 3) := by decide +kernel
theorem d_md_init_214 : decode prog_14_method_1_code 214 = .ok (.newarray .int, 2) := by decide +kernel
theorem d_md_init_216 : decode prog_14_method_1_code 216 = .ok (.putfield 79, 3) := by decide +kernel
theorem d_md_init_219 : decode prog_14_method_1_code 219 = .ok (.aload_n 0, 1) := by decide +kernel
theorem d_md_init_220 : decode prog_14_method_1_code 220 = .ok (.sipush 240, 3) := by decide +kernel
theorem d_md_init_223 : decode prog_14_method_1_code 223 = .ok (.newarray .int, 2) := by decide +kernel
theorem d_md_init_225 : decode prog_14_method_1_code 225 = .ok (.putfield 82, 3) := by decide +kernel
theorem d_md_init_228 : decode prog_14_method_1_code 228 = .ok (.aload_n 0, 1) := by decide +kernel
theorem d_md_init_229 : decode prog_14_method_1_code 229 = .ok (.iconst 2, 1) := by decide +kernel
theorem d_md_init_230 : decode prog_14_method_1_code 230 = .ok (.newarray .int, 2) := by decide +kernel
theorem d_md_init_232 : decode prog_14_method_1_code 232 = .ok (.putfield 85, 3) := by decide +kernel
theorem d_md_init_235 : decode prog_14_method_1_code 235 = .ok (.aload_n 0, 1) := by decide +kernel
theorem d_md_init_236 : decode prog_14_method_1_code 236 = .ok (.iconst 2, 1) := by decide +kernel
theorem d_md_init_237 : decode prog_14_method_1_code 237 = .ok (.newarray .int, 2) := by decide +kernel
theorem d_md_init_239 : decode prog_14_method_1_code 239 = .ok (.putfield 88, 3) := by decide +kernel
theorem d_md_init_242 : decode prog_14_method_1_code 242 = .ok (.aload_n 0, 1) := by decide +kernel
theorem d_md_init_243 : decode prog_14_method_1_code 243 = .ok (.iconst 2, 1) := by decide +kernel
theorem d_md_init_244 : decode prog_14_method_1_code 244 = .ok (.newarray .int, 2) := by decide +kernel
theorem d_md_init_246 : decode prog_14_method_1_code 246 = .ok (.putfield 91, 3) := by decide +kernel
theorem d_md_init_249 : decode prog_14_method_1_code 249 = .ok (.aload_n 0, 1) := by decide +kernel
theorem d_md_init_250 : decode prog_14_method_1_code 250 = .ok (.bipush 64, 2) := by decide +kernel
theorem d_md_init_252 : decode prog_14_method_1_code 252 = .ok (.newarray .int, 2) := by decide +kernel
theorem d_md_init_254 : decode prog_14_method_1_code 254 = .ok (.putfield 94, 3) := by decide +kernel
theorem d_md_init_257 : decode prog_14_method_1_code 257 = .ok (.aload_n 0, 1) := by decide +kernel
theorem d_md_init_258 : decode prog_14_method_1_code 258 = .ok (.bipush 64, 2) := by decide +kernel
theorem d_md_init_260 : decode prog_14_method_1_code 260 = .ok (.newarray .int, 2) := by decide +kernel
theorem d_md_init_262 : decode prog_14_method_1_code 262 = .ok (.putfield 97, 3) := by decide +kernel
theorem d_md_init_265 : decode prog_14_method_1_code 265 = .ok (.aload_n 0, 1) := by decide +kernel
theorem d_md_init_266 : decode prog_14_method_1_code 266 = .ok (.bipush 64, 2) := by decide +kernel
theorem d_md_init_268 : decode prog_14_method_1_code 268 = .ok (.newarray .int, 2) := by decide +kernel
theorem d_md_init_270 : decode prog_14_method_1_code 270 = .ok (.putfield 100, 3) := by decide +kernel
theorem d_md_init_273 : decode prog_14_method_1_code 273 = .ok (.aload_n 0, 1) := by decide +kernel
theorem d_md_init_274 : decode prog_14_method_1_code 274 = .ok (.sipush 170, 3) := by decide +kernel
theorem d_md_init_277 : decode prog_14_method_1_code 277 = .ok (.newarray .int, 2) := by decide +kernel
theorem d_md_init_279 : decode prog_14_method_1_code 279 = .ok (.putfield 103, 3) := by decide +kernel
theorem d_md_init_282 : decode prog_14_method_1_code 282 = .ok (.aload_n 0, 1) := by decide +kernel
theorem d_md_init_283 : decode prog_14_method_1_code 283 = .ok (.sipush 170, 3) := by decide +kernel
theorem d_md_init_286 : decode prog_14_method_1_code 286 = .ok (.newarray .int, 2) := by decide +kernel
theorem d_md_init_288 : decode prog_14_method_1_code 288 = .ok (.putfield 106, 3) := by decide +kernel
theorem d_md_init_291 : decode prog_14_method_1_code 291 = .ok (.aload_n 0, 1) := by decide +kernel
theorem d_md_init_292 : decode prog_14_method_1_code 292 = .ok (.sipush 170, 3) := by decide +kernel
theorem d_md_init_295 : decode prog_14_method_1_code 295 = .ok (.newarray .int, 2) := by decide +kernel
theorem d_md_init_297 : decode prog_14_method_1_code 297 = .ok (.putfield 109, 3) := by decide +kernel
theorem d_md_init_300 : decode prog_14_method_1_code 300 = .ok (.aload_n 0, 1) := by decide +kernel
theorem d_md_init_301 : decode prog_14_method_1_code 301 = .ok (.sipush 170, 3) := by decide +kernel
theorem d_md_init_304 : decode prog_14_method_1_code 304 = .ok (.newarray .int, 2) := by decide +kernel
theorem d_md_init_306 : decode prog_14_method_1_code 306 = .ok (.putfield 112, 3) := by decide +kernel
theorem d_md_init_309 : decode prog_14_method_1_code 309 = .ok (.aload_n 0, 1) := by decide +kernel
theorem d_md_init_310 : decode prog_14_method_1_code 310 = .ok (.bipush 80, 2) := by decide +kernel
theorem d_md_init_312 : decode prog_14_method_1_code 312 = .ok (.newarray .int, 2) := by decide +kernel
theorem d_md_init_314 : decode prog_14_method_1_code 314 = .ok (.putfield 115, 3) := by decide +kernel
theorem d_md_init_317 : decode prog_14_method_1_code 317 = .ok (.aload_n 0, 1) := by decide +kernel
theorem d_md_init_318 : decode prog_14_method_1_code 318 = .ok (.iconst (-1), 1) := by decide +kernel
theorem d_md_init_319 : decode prog_14_method_1_code 319 = .ok (.putfield 118, 3) := by decide +kernel
theorem d_md_init_322 : decode prog_14_method_1_code 322 = .ok (.aload_n 0, 1) := by decide +kernel
theorem d_md_init_323 : decode prog_14_method_1_code 323 = .ok (.bipush 64, 2) := by decide +kernel
theorem d_md_init_325 : decode prog_14_method_1_code 325 = .ok (.newarray .int, 2) := by decide +kernel
theorem d_md_init_327 : decode prog_14_method_1_code 327 = .ok (.putfield 122, 3) := by decide +kernel
theorem d_md_init_330 : decode prog_14_method_1_code 330 = .ok (.aload_n 0, 1) := by decide +kernel
theorem d_md_init_331 : decode prog_14_method_1_code 331 = .ok (.sipush 800, 3) := by decide +kernel
theorem d_md_init_334 : decode prog_14_method_1_code 334 = .ok (.newarray .int, 2) := by decide +kernel
theorem d_md_init_336 : decode prog_14_method_1_code 336 = .ok (.putfield 125, 3) := by decide +kernel
theorem d_md_init_339 : decode prog_14_method_1_code 339 = .ok (.aload_n 0, 1) := by decide +kernel
theorem d_md_init_340 : decode prog_14_method_1_code 340 = .ok (.sipush 200, 3) := by decide +kernel
theorem d_md_init_343 : decode prog_14_method_1_code 343 = .ok (.newarray .int, 2) := by decide +kernel
theorem d_md_init_345 : decode prog_14_method_1_code 345 = .ok (.putfield 128, 3) := by decide +kernel
theorem d_md_init_348 : decode prog_14_method_1_code 348 = .ok (.aload_n 0, 1) := by decide +kernel
theorem d_md_init_349 : decode prog_14_method_1_code 349 = .ok (.sipush 200, 3) := by decide +kernel
theorem d_md_init_352 : decode prog_14_method_1_code 352 = .ok (.newarray .int, 2) := by decide +kernel
theorem d_md_init_354 : decode prog_14_method_1_code 354 = .ok (.putfield 131, 3) := by decide +kernel
theorem d_md_init_357 : decode prog_14_method_1_code 357 = .ok (.aload_n 0, 1) := by decide +kernel
theorem d_md_init_358 : decode prog_14_method_1_code 358 = .ok (.bipush 120, 2) := by decide +kernel
theorem d_md_init_360 : decode prog_14_method_1_code 360 = .ok (.newarray .int, 2) := by decide +kernel
theorem d_md_init_362 : decode prog_14_method_1_code 362 = .ok (.putfield 134, 3) := by decide +kernel
theorem d_md_init_365 : decode prog_14_method_1_code 365 = .ok (.aload_n 0, 1) := by decide +kernel
theorem d_md_init_366 : decode prog_14_method_1_code 366 = .ok (.bipush 6, 2) := by decide +kernel
theorem d_md_init_368 : decode prog_14_method_1_code 368 = .ok (.newarray .int, 2) := by decide +kernel
theorem d_md_init_370 : decode prog_14_method_1_code 370 = .ok (.putfield 137, 3) := by decide +kernel
theorem d_md_init_373 : decode prog_14_method_1_code 373 = .ok (.aload_n 0, 1) := by decide +kernel
theorem d_md_init_374 : decode prog_14_method_1_code 374 = .ok (.bipush 6, 2) := by decide +kernel
theorem d_md_init_376 : decode prog_14_method_1_code 376 = .ok (.newarray .int, 2) := by decide +kernel
theorem d_md_init_378 : decode prog_14_method_1_code 378 = .ok (.putfield 140, 3) := by decide +kernel
theorem d_md_init_381 : decode prog_14_method_1_code 381 = .ok (.aload_n 0, 1) := by decide +kernel
theorem d_md_init_382 : decode prog_14_method_1_code 382 = .ok (.bipush 6, 2) := by decide +kernel
theorem d_md_init_384 : decode prog_14_method_1_code 384 = .ok (.newarray .boolean, 2) := by decide +kernel
theorem d_md_init_386 : decode prog_14_method_1_code 386 = .ok (.putfield 143, 3) := by decide +kernel
theorem d_md_init_389 : decode prog_14_method_1_code 389 = .ok (.aload_n 0, 1) := by decide +kernel
theorem d_md_init_390 : decode prog_14_method_1_code 390 = .ok (.sipush 156, 3) := by decide +kernel
theorem d_md_init_393 : decode prog_14_method_1_code 393 = .ok (.newarray .int, 2) := by decide +kernel
theorem d_md_init_395 : decode prog_14_method_1_code 395 = .ok (.putfield 147, 3) := by decide +kernel
theorem d_md_init_398 : decode prog_14_method_1_code 398 = .ok (.aload_n 0, 1) := by decide +kernel
theorem d_md_init_399 : decode prog_14_method_1_code 399 = .ok (.bipush 12, 2) := by decide +kernel
theorem d_md_init_401 : decode prog_14_method_1_code 401 = .ok (.newarray .int, 2) := by decide +kernel
theorem d_md_init_403 : decode prog_14_method_1_code 403 = .ok (.putfield 150, 3) := by decide +kernel
theorem d_md_init_406 : decode prog_14_method_1_code 406 = .ok (.aload_n 0, 1) := by decide +kernel
theorem d_md_init_407 : decode prog_14_method_1_code 407 = .ok (.bipush 6, 2) := by decide +kernel
theorem d_md_init_409 : decode prog_14_method_1_code 409 = .ok (.newarray .int, 2) := by decide +kernel
theorem d_md_init_411 : decode prog_14_method_1_code 411 = .ok (.putfield 153, 3) := by decide +kernel
theorem d_md_init_414 : decode prog_14_method_1_code 414 = .ok (.aload_n 0, 1) := by decide +kernel
theorem d_md_init_415 : decode prog_14_method_1_code 415 = .ok (.sipush 720, 3) := by decide +kernel
theorem d_md_init_418 : decode prog_14_method_1_code 418 = .ok (.newarray .int, 2) := by decide +kernel
theorem d_md_init_420 : decode prog_14_method_1_code 420 = .ok (.putfield 156, 3) := by decide +kernel
theorem d_md_init_423 : decode prog_14_method_1_code 423 = .ok (.aload_n 0, 1) := by decide +kernel
theorem d_md_init_424 : decode prog_14_method_1_code 424 = .ok (.sipush 720, 3) := by decide +kernel
theorem d_md_init_427 : decode prog_14_method_1_code 427 = .ok (.newarray .int, 2) := by decide +kernel
theorem d_md_init_429 : decode prog_14_method_1_code 429 = .ok (.putfield 159, 3) := by decide +kernel
theorem d_md_init_432 : decode prog_14_method_1_code 432 = .ok (.aload_n 0, 1) := by decide +kernel
theorem d_md_init_433 : decode prog_14_method_1_code 433 = .ok (.bipush 6, 2) := by decide +kernel
theorem d_md_init_435 : decode prog_14_method_1_code 435 = .ok (.newarray .int, 2) := by decide +kernel
theorem d_md_init_437 : decode prog_14_method_1_code 437 = .ok (.putfield 162, 3) := by decide +kernel
theorem d_md_init_440 : decode prog_14_method_1_code 440 = .ok (.aload_n 0, 1) := by decide +kernel
theorem d_md_init_441 : decode prog_14_method_1_code 441 = .ok (.bipush 6, 2) := by decide +kernel
theorem d_md_init_443 : decode prog_14_method_1_code 443 = .ok (.newarray .int, 2) := by decide +kernel
theorem d_md_init_445 : decode prog_14_method_1_code 445 = .ok (.putfield 165, 3) := by decide +kernel
theorem d_md_init_448 : decode prog_14_method_1_code 448 = .ok (.aload_n 0, 1) := by decide +kernel
theorem d_md_init_449 : decode prog_14_method_1_code 449 = .ok (.bipush 120, 2) := by decide +kernel
theorem d_md_init_451 : decode prog_14_method_1_code 451 = .ok (.newarray .int, 2) := by decide +kernel
theorem d_md_init_453 : decode prog_14_method_1_code 453 = .ok (.putfield 168, 3) := by decide +kernel
theorem d_md_init_456 : decode prog_14_method_1_code 456 = .ok (.aload_n 0, 1) := by decide +kernel
theorem d_md_init_457 : decode prog_14_method_1_code 457 = .ok (.sipush 130, 3) := by decide +kernel
theorem d_md_init_460 : decode prog_14_method_1_code 460 = .ok (.newarray .int, 2) := by decide +kernel
theorem d_md_init_462 : decode prog_14_method_1_code 462 = .ok (.putfield 171, 3) := by decide +kernel
theorem d_md_init_465 : decode prog_14_method_1_code 465 = .ok (.return_, 1) := by decide +kernel
theorem d_md_isDigit_0 : decode prog_14_method_2_code 0 = .ok (.iload_n 0, 1) := by decide +kernel
theorem d_md_isDigit_1 : decode prog_14_method_2_code 1 = .ok (.bipush 48, 2) := by decide +kernel
theorem d_md_isDigit_3 : decode prog_14_method_2_code 3 = .ok (.if_icmp .lt (13), 3) := by decide +kernel
theorem d_md_isDigit_6 : decode prog_14_method_2_code 6 = .ok (.iload_n 0, 1) := by decide +kernel
theorem d_md_isDigit_7 : decode prog_14_method_2_code 7 = .ok (.bipush 57, 2) := by decide +kernel
theorem d_md_isDigit_9 : decode prog_14_method_2_code 9 = .ok (.if_icmp .gt (7), 3) := by decide +kernel
theorem d_md_isDigit_12 : decode prog_14_method_2_code 12 = .ok (.iconst 1, 1) := by decide +kernel
theorem d_md_isDigit_13 : decode prog_14_method_2_code 13 = .ok (.goto (4), 3) := by decide +kernel
theorem d_md_isDigit_16 : decode prog_14_method_2_code 16 = .ok (.iconst 0, 1) := by decide +kernel
theorem d_md_isDigit_17 : decode prog_14_method_2_code 17 = .ok (.ireturn, 1) := by decide +kernel
theorem d_md_isSmall_0 : decode prog_14_method_3_code 0 = .ok (.iload_n 0, 1) := by decide +kernel
theorem d_md_isSmall_1 : decode prog_14_method_3_code 1 = .ok (.bipush 97, 2) := by decide +kernel
theorem d_md_isSmall_3 : decode prog_14_method_3_code 3 = .ok (.if_icmp .lt (13), 3) := by decide +kernel
theorem d_md_isSmall_6 : decode prog_14_method_3_code 6 = .ok (.iload_n 0, 1) := by decide +kernel
theorem d_md_isSmall_7 : decode prog_14_method_3_code 7 = .ok (.bipush 122, 2) := by decide +kernel
theorem d_md_isSmall_9 : decode prog_14_method_3_code 9 = .ok (.if_icmp .gt (7), 3) := by decide +kernel
theorem d_md_isSmall_12 : decode prog_14_method_3_code 12 = .ok (.iconst 1, 1) := by decide +kernel
theorem d_md_isSmall_13 : decode prog_14_method_3_code 13 = .ok (.goto (4), 3) := by decide +kernel
theorem d_md_isSmall_16 : decode prog_14_method_3_code 16 = .ok (.iconst 0, 1) := by decide +kernel
theorem d_md_isSmall_17 : decode prog_14_method_3_code 17 = .ok (.ireturn, 1) := by decide +kernel
theorem d_md_isCapital_0 : decode prog_14_method_4_code 0 = .ok (.iload_n 0, 1) := by decide +kernel
theorem d_md_isCapital_1 : decode prog_14_method_4_code 1 = .ok (.bipush 71, 2) := by decide +kernel
theorem d_md_isCapital_3 : decode prog_14_method_4_code 3 = .ok (.if_icmp .eq (57), 3) := by decide +kernel
theorem d_md_isCapital_6 : decode prog_14_method_4_code 6 = .ok (.iload_n 0, 1) := by decide +kernel
theorem d_md_isCapital_7 : decode prog_14_method_4_code 7 = .ok (.bipush 87, 2) := by decide +kernel
theorem d_md_isCapital_9 : decode prog_14_method_4_code 9 = .ok (.if_icmp .eq (51), 3) := by decide +kernel
theorem d_md_isCapital_12 : decode prog_14_method_4_code 12 = .ok (.iload_n 0, 1) := by decide +kernel
theorem d_md_isCapital_13 : decode prog_14_method_4_code 13 = .ok (.bipush 84, 2) := by decide +kernel
theorem d_md_isCapital_15 : decode prog_14_method_4_code 15 = .ok (.if_icmp .eq (45), 3) := by decide +kernel
theorem d_md_isCapital_18 : decode prog_14_method_4_code 18 = .ok (.iload_n 0, 1) := by decide +kernel
theorem d_md_isCapital_19 : decode prog_14_method_4_code 19 = .ok (.bipush 69, 2) := by decide +kernel
theorem d_md_isCapital_21 : decode prog_14_method_4_code 21 = .ok (.if_icmp .eq (39), 3) := by decide +kernel
theorem d_md_isCapital_24 : decode prog_14_method_4_code 24 = .ok (.iload_n 0, 1) := by decide +kernel
theorem d_md_isCapital_25 : decode prog_14_method_4_code 25 = .ok (.bipush 67, 2) := by decide +kernel
theorem d_md_isCapital_27 : decode prog_14_method_4_code 27 = .ok (.if_icmp .eq (33), 3) := by decide +kernel
theorem d_md_isCapital_30 : decode prog_14_method_4_code 30 = .ok (.iload_n 0, 1) := by decide +kernel
theorem d_md_isCapital_31 : decode prog_14_method_4_code 31 = .ok (.bipush 68, 2) := by decide +kernel
theorem d_md_isCapital_33 : decode prog_14_method_4_code 33 = .ok (.if_icmp .eq (27), 3) := by decide +kernel
theorem d_md_isCapital_36 : decode prog_14_method_4_code 36 = .ok (.iload_n 0, 1) := by decide +kernel
theorem d_md_isCapital_37 : decode prog_14_method_4_code 37 = .ok (.bipush 77, 2) := by decide +kernel
theorem d_md_isCapital_39 : decode prog_14_method_4_code 39 = .ok (.if_icmp .eq (21), 3) := by decide +kernel
theorem d_md_isCapital_42 : decode prog_14_method_4_code 42 = .ok (.iload_n 0, 1) := by decide +kernel
theorem d_md_isCapital_43 : decode prog_14_method_4_code 43 = .ok (.bipush 78, 2) := by decide +kernel
theorem d_md_isCapital_45 : decode prog_14_method_4_code 45 = .ok (.if_icmp .eq (15), 3) := by decide +kernel
theorem d_md_isCapital_48 : decode prog_14_method_4_code 48 = .ok (.iload_n 0, 1) := by decide +kernel
theorem d_md_isCapital_49 : decode prog_14_method_4_code 49 = .ok (.bipush 79, 2) := by decide +kernel
theorem d_md_isCapital_51 : decode prog_14_method_4_code 51 = .ok (.if_icmp .eq (9), 3) := by decide +kernel
theorem d_md_isCapital_54 : decode prog_14_method_4_code 54 = .ok (.iload_n 0, 1) := by decide +kernel
theorem d_md_isCapital_55 : decode prog_14_method_4_code 55 = .ok (.bipush 88, 2) := by decide +kernel
theorem d_md_isCapital_57 : decode prog_14_method_4_code 57 = .ok (.if_icmp .ne (7), 3) := by decide +kernel
theorem d_md_isCapital_60 : decode prog_14_method_4_code 60 = .ok (.iconst 1, 1) := by decide +kernel
theorem d_md_isCapital_61 : decode prog_14_method_4_code 61 = .ok (.goto (4), 3) := by decide +kernel
theorem d_md_isCapital_64 : decode prog_14_method_4_code 64 = .ok (.iconst 0, 1) := by decide +kernel
theorem d_md_isCapital_65 : decode prog_14_method_4_code 65 = .ok (.ireturn, 1) := by decide +kernel
theorem d_md_isSign_0 : decode prog_14_method_5_code 0 = .ok (.iload_n 0, 1) := by decide +kernel
theorem d_md_isSign_1 : decode prog_14_method_5_code 1 = .ok (.bipush 40, 2) := by decide +kernel
theorem d_md_isSign_3 : decode prog_14_method_5_code 3 = .ok (.if_icmp .lt (9), 3) := by decide +kernel
theorem d_md_isSign_6 : decode prog_14_method_5_code 6 = .ok (.iload_n 0, 1) := by decide +kernel
theorem d_md_isSign_7 : decode prog_14_method_5_code 7 = .ok (.bipush 45, 2) := by decide +kernel
theorem d_md_isSign_9 : decode prog_14_method_5_code 9 = .ok (.if_icmp .le (45), 3) := by decide +kernel
theorem d_md_isSign_12 : decode prog_14_method_5_code 12 = .ok (.iload_n 0, 1) := by decide +kernel
theorem d_md_isSign_13 : decode prog_14_method_5_code 13 = .ok (.bipush 47, 2) := by decide +kernel
theorem d_md_isSign_15 : decode prog_14_method_5_code 15 = .ok (.if_icmp .eq (39), 3) := by decide +kernel
theorem d_md_isSign_18 : decode prog_14_method_5_code 18 = .ok (.iload_n 0, 1) := by decide +kernel
theorem d_md_isSign_19 : decode prog_14_method_5_code 19 = .ok (.bipush 37, 2) := by decide +kernel
theorem d_md_isSign_21 : decode prog_14_method_5_code 21 = .ok (.if_icmp .eq (33), 3) := by decide +kernel
theorem d_md_isSign_24 : decode prog_14_method_5_code 24 = .ok (.iload_n 0, 1) := by decide +kernel
theorem d_md_isSign_25 : decode prog_14_method_5_code 25 = .ok (.bipush 58, 2) := by decide +kernel
theorem d_md_isSign_27 : decode prog_14_method_5_code 27 = .ok (.if_icmp .lt (9), 3) := by decide +kernel
theorem d_md_isSign_30 : decode prog_14_method_5_code 30 = .ok (.iload_n 0, 1) := by decide +kernel
theorem d_md_isSign_31 : decode prog_14_method_5_code 31 = .ok (.bipush 62, 2) := by decide +kernel
theorem d_md_isSign_33 : decode prog_14_method_5_code 33 = .ok (.if_icmp .le (21), 3) := by decide +kernel
theorem d_md_isSign_36 : decode prog_14_method_5_code 36 = .ok (.iload_n 0, 1) := by decide +kernel
theorem d_md_isSign_37 : decode prog_14_method_5_code 37 = .ok (.bipush 33, 2) := by decide +kernel
theorem d_md_isSign_39 : decode prog_14_method_5_code 39 = .ok (.if_icmp .eq (15), 3) := by decide +kernel
theorem d_md_isSign_42 : decode prog_14_method_5_code 42 = .ok (.iload_n 0, 1) := by decide +kernel
theorem d_md_isSign_43 : decode prog_14_method_5_code 43 = .ok (.bipush 124, 2) := by decide +kernel
theorem d_md_isSign_45 : decode prog_14_method_5_code 45 = .ok (.if_icmp .eq (9), 3) := by decide +kernel
theorem d_md_isSign_48 : decode prog_14_method_5_code 48 = .ok (.iload_n 0, 1) := by decide +kernel
theorem d_md_isSign_49 : decode prog_14_method_5_code 49 = .ok (.bipush 95, 2) := by decide +kernel
theorem d_md_isSign_51 : decode prog_14_method_5_code 51 = .ok (.if_icmp .ne (7), 3) := by decide +kernel
theorem d_md_isSign_54 : decode prog_14_method_5_code 54 = .ok (.iconst 1, 1) := by decide +kernel
theorem d_md_isSign_55 : decode prog_14_method_5_code 55 = .ok (.goto (4), 3) := by decide +kernel
theorem d_md_isSign_58 : decode prog_14_method_5_code 58 = .ok (.iconst 0, 1) := by decide +kernel
theorem d_md_isSign_59 : decode prog_14_method_5_code 59 = .ok (.ireturn, 1) := by decide +kernel
theorem d_md_type_0 : decode prog_14_method_6_code 0 = .ok (.iload_n 3, 1) := by decide +kernel
theorem d_md_type_1 : decode prog_14_method_6_code 1 = .ok (.iconst 1, 1) := by decide +kernel
theorem d_md_type_2 : decode prog_14_method_6_code 2 = .ok (.if_icmp .lt (20), 3) := by decide +kernel
theorem d_md_type_5 : decode prog_14_method_6_code 5 = .ok (.iload_n 3, 1) := by decide +kernel
theorem d_md_type_6 : decode prog_14_method_6_code 6 = .ok (.bipush 8, 2) := by decide +kernel
theorem d_md_type_8 : decode prog_14_method_6_code 8 = .ok (.if_icmp .gt (14), 3) := by decide +kernel
theorem d_md_type_11 : decode prog_14_method_6_code 11 = .ok (.aload_n 0, 1) := by decide +kernel
theorem d_md_type_12 : decode prog_14_method_6_code 12 = .ok (.getfield 174, 3) := by decide +kernel
theorem d_md_type_15 : decode prog_14_method_6_code 15 = .ok (.iload_n 3, 1) := by decide +kernel
theorem d_md_type_16 : decode prog_14_method_6_code 16 = .ok (.iadd, 1) := by decide +kernel
theorem d_md_type_17 : decode prog_14_method_6_code 17 = .ok (.bipush 120, 2) := by decide +kernel
theorem d_md_type_19 : decode prog_14_method_6_code 19 = .ok (.if_icmp .le (5), 3) := by decide +kernel
theorem d_md_type_22 : decode prog_14_method_6_code 22 = .ok (.iconst 0, 1) := by decide +kernel
theorem d_md_type_23 : decode prog_14_method_6_code 23 = .ok (.ireturn, 1) := by decide +kernel
theorem d_md_type_24 : decode prog_14_method_6_code 24 = .ok (.iconst 0, 1) := by decide +kernel
theorem d_md_type_25 : decode prog_14_method_6_code 25 = .ok (.istore 4, 2) := by decide +kernel
theorem d_md_type_27 : decode prog_14_method_6_code 27 = .ok (.iload 4, 2) := by decide +kernel
theorem d_md_type_29 : decode prog_14_method_6_code 29 = .ok (.iload_n 3, 1) := by decide +kernel
theorem d_md_type_30 : decode prog_14_method_6_code 30 = .ok (.if_icmp .ge (71), 3) := by decide +kernel
theorem d_md_type_33 : decode prog_14_method_6_code 33 = .ok (.lload_n 1, 1) := by decide +kernel
theorem d_md_type_34 : decode prog_14_method_6_code 34 = .ok (.bipush 8, 2) := by decide +kernel
theorem d_md_type_36 : decode prog_14_method_6_code 36 = .ok (.iload 4, 2) := by decide +kernel
theorem d_md_type_38 : decode prog_14_method_6_code 38 = .ok (.imul, 1) := by decide +kernel
theorem d_md_type_39 : decode prog_14_method_6_code 39 = .ok (.lshr, 1) := by decide +kernel
theorem d_md_type_40 : decode prog_14_method_6_code 40 = .ok (.ldc2_w 177, 3) := by decide +kernel
theorem d_md_type_43 : decode prog_14_method_6_code 43 = .ok (.land, 1) := by decide +kernel
theorem d_md_type_44 : decode prog_14_method_6_code 44 = .ok (.l2i, 1) := by decide +kernel
theorem d_md_type_45 : decode prog_14_method_6_code 45 = .ok (.istore 5, 2) := by decide +kernel
theorem d_md_type_47 : decode prog_14_method_6_code 47 = .ok (.iload 5, 2) := by decide +kernel
theorem d_md_type_49 : decode prog_14_method_6_code 49 = .ok (.invokestatic 179, 3) := by decide +kernel
theorem d_md_type_52 : decode prog_14_method_6_code 52 = .ok (.ifCond .ne (43), 3) := by decide +kernel
theorem d_md_type_55 : decode prog_14_method_6_code 55 = .ok (.iload 5, 2) := by decide +kernel
theorem d_md_type_57 : decode prog_14_method_6_code 57 = .ok (.invokestatic 183, 3) := by decide +kernel
theorem d_md_type_60 : decode prog_14_method_6_code 60 = .ok (.ifCond .ne (35), 3) := by decide +kernel
theorem d_md_type_63 : decode prog_14_method_6_code 63 = .ok (.iload 5, 2) := by decide +kernel
theorem d_md_type_65 : decode prog_14_method_6_code 65 = .ok (.invokestatic 186, 3) := by decide +kernel
theorem d_md_type_68 : decode prog_14_method_6_code 68 = .ok (.ifCond .ne (27), 3) := by decide +kernel
theorem d_md_type_71 : decode prog_14_method_6_code 71 = .ok (.iload 5, 2) := by decide +kernel
theorem d_md_type_73 : decode prog_14_method_6_code 73 = .ok (.invokestatic 189, 3) := by decide +kernel
theorem d_md_type_76 : decode prog_14_method_6_code 76 = .ok (.ifCond .ne (19), 3) := by decide +kernel
theorem d_md_type_79 : decode prog_14_method_6_code 79 = .ok (.iload 5, 2) := by decide +kernel
theorem d_md_type_81 : decode prog_14_method_6_code 81 = .ok (.bipush 32, 2) := by decide +kernel
theorem d_md_type_83 : decode prog_14_method_6_code 83 = .ok (.if_icmp .eq (12), 3) := by decide +kernel
theorem d_md_type_86 : decode prog_14_method_6_code 86 = .ok (.iload 5, 2) := by decide +kernel
theorem d_md_type_88 : decode prog_14_method_6_code 88 = .ok (.bipush 38, 2) := by decide +kernel
theorem d_md_type_90 : decode prog_14_method_6_code 90 = .ok (.if_icmp .eq (5), 3) := by decide +kernel
theorem d_md_type_93 : decode prog_14_method_6_code 93 = .ok (.iconst 0, 1) := by decide +kernel
theorem d_md_type_94 : decode prog_14_method_6_code 94 = .ok (.ireturn, 1) := by decide +kernel
theorem d_md_type_95 : decode prog_14_method_6_code 95 = .ok (.iinc 4 (1), 3) := by decide +kernel
theorem d_md_type_98 : decode prog_14_method_6_code 98 = .ok (.goto (-71), 3) := by decide +kernel
theorem d_md_type_101 : decode prog_14_method_6_code 101 = .ok (.iload_n 3, 1) := by decide +kernel
theorem d_md_type_102 : decode prog_14_method_6_code 102 = .ok (.iconst 1, 1) := by decide +kernel
theorem d_md_type_103 : decode prog_14_method_6_code 103 = .ok (.isub, 1) := by decide +kernel
theorem d_md_type_104 : decode prog_14_method_6_code 104 = .ok (.istore 4, 2) := by decide +kernel
theorem d_md_type_106 : decode prog_14_method_6_code 106 = .ok (.iload 4, 2) := by decide +kernel
theorem d_md_type_108 : decode prog_14_method_6_code 108 = .ok (.ifCond .lt (40), 3) := by decide +kernel
theorem d_md_type_111 : decode prog_14_method_6_code 111 = .ok (.aload_n 0, 1) := by decide +kernel
theorem d_md_type_112 : decode prog_14_method_6_code 112 = .ok (.getfield 7, 3) := by decide +kernel
theorem d_md_type_115 : decode prog_14_method_6_code 115 = .ok (.aload_n 0, 1) := by decide +kernel
theorem d_md_type_116 : decode prog_14_method_6_code 116 = .ok (.getfield 174, 3) := by decide +kernel
theorem d_md_type_119 : decode prog_14_method_6_code 119 = .ok (.lload_n 1, 1) := by decide +kernel
theorem d_md_type_120 : decode prog_14_method_6_code 120 = .ok (.bipush 8, 2) := by decide +kernel
theorem d_md_type_122 : decode prog_14_method_6_code 122 = .ok (.iload 4, 2) := by decide +kernel
theorem d_md_type_124 : decode prog_14_method_6_code 124 = .ok (.imul, 1) := by decide +kernel
theorem d_md_type_125 : decode prog_14_method_6_code 125 = .ok (.lshr, 1) := by decide +kernel
theorem d_md_type_126 : decode prog_14_method_6_code 126 = .ok (.ldc2_w 177, 3) := by decide +kernel
theorem d_md_type_129 : decode prog_14_method_6_code 129 = .ok (.land, 1) := by decide +kernel
theorem d_md_type_130 : decode prog_14_method_6_code 130 = .ok (.l2i, 1) := by decide +kernel
theorem d_md_type_131 : decode prog_14_method_6_code 131 = .ok (.iastore, 1) := by decide +kernel
theorem d_md_type_132 : decode prog_14_method_6_code 132 = .ok (.aload_n 0, 1) := by decide +kernel
theorem d_md_type_133 : decode prog_14_method_6_code 133 = .ok (.dup, 1) := by decide +kernel
theorem d_md_type_134 : decode prog_14_method_6_code 134 = .ok (.getfield 174, 3) := by decide +kernel
theorem d_md_type_137 : decode prog_14_method_6_code 137 = .ok (.iconst 1, 1) := by decide +kernel
theorem d_md_type_138 : decode prog_14_method_6_code 138 = .ok (.iadd, 1) := by decide +kernel
theorem d_md_type_139 : decode prog_14_method_6_code 139 = .ok (.putfield 174, 3) := by decide +kernel
theorem d_md_type_142 : decode prog_14_method_6_code 142 = .ok (.iinc 4 (-1), 3) := by decide +kernel
theorem d_md_type_145 : decode prog_14_method_6_code 145 = .ok (.goto (-39), 3) := by decide +kernel
theorem d_md_type_148 : decode prog_14_method_6_code 148 = .ok (.iconst 1, 1) := by decide +kernel
theorem d_md_type_149 : decode prog_14_method_6_code 149 = .ok (.ireturn, 1) := by decide +kernel
theorem d_md_clear_0 : decode prog_14_method_7_code 0 = .ok (.aload_n 0, 1) := by decide +kernel
theorem d_md_clear_1 : decode prog_14_method_7_code 1 = .ok (.iconst 0, 1) := by decide +kernel
theorem d_md_clear_2 : decode prog_14_method_7_code 2 = .ok (.putfield 174, 3) := by decide +kernel
theorem d_md_clear_5 : decode prog_14_method_7_code 5 = .ok (.return_, 1) := by decide +kernel
theorem d_md_charAt_0 : decode prog_14_method_8_code 0 = .ok (.iload_n 1, 1) := by decide +kernel
theorem d_md_charAt_1 : decode prog_14_method_8_code 1 = .ok (.aload_n 0, 1) := by decide +kernel
theorem d_md_charAt_2 : decode prog_14_method_8_code 2 = .ok (.getfield 174, 3) := by decide +kernel
theorem d_md_charAt_5 : decode prog_14_method_8_code 5 = .ok (.if_icmp .ge (12), 3) := by decide +kernel
theorem d_md_charAt_8 : decode prog_14_method_8_code 8 = .ok (.aload_n 0, 1) := by decide +kernel
theorem d_md_charAt_9 : decode prog_14_method_8_code 9 = .ok (.getfield 7, 3) := by decide +kernel
theorem d_md_charAt_12 : decode prog_14_method_8_code 12 = .ok (.iload_n 1, 1) := by decide +kernel
theorem d_md_charAt_13 : decode prog_14_method_8_code 13 = .ok (.iaload, 1) := by decide +kernel
theorem d_md_charAt_14 : decode prog_14_method_8_code 14 = .ok (.goto (4), 3) := by decide +kernel
theorem d_md_charAt_17 : decode prog_14_method_8_code 17 = .ok (.iconst 0, 1) := by decide +kernel
theorem d_md_charAt_18 : decode prog_14_method_8_code 18 = .ok (.ireturn, 1) := by decide +kernel
theorem d_md_pair_0 : decode prog_14_method_9_code 0 = .ok (.iload_n 1, 1) := by decide +kernel
theorem d_md_pair_1 : decode prog_14_method_9_code 1 = .ok (.bipush 61, 2) := by decide +kernel
theorem d_md_pair_3 : decode prog_14_method_9_code 3 = .ok (.if_icmp .ne (53), 3) := by decide +kernel
theorem d_md_pair_6 : decode prog_14_method_9_code 6 = .ok (.iload_n 0, 1) := by decide +kernel
theorem d_md_pair_7 : decode prog_14_method_9_code 7 = .ok (.bipush 61, 2) := by decide +kernel
theorem d_md_pair_9 : decode prog_14_method_9_code 9 = .ok (.if_icmp .ne (9), 3) := by decide +kernel
theorem d_md_pair_12 : decode prog_14_method_9_code 12 = .ok (.sipush 128, 3) := by decide +kernel
theorem d_md_pair_15 : decode prog_14_method_9_code 15 = .ok (.goto (40), 3) := by decide +kernel
theorem d_md_pair_18 : decode prog_14_method_9_code 18 = .ok (.iload_n 0, 1) := by decide +kernel
theorem d_md_pair_19 : decode prog_14_method_9_code 19 = .ok (.bipush 33, 2) := by decide +kernel
theorem d_md_pair_21 : decode prog_14_method_9_code 21 = .ok (.if_icmp .ne (9), 3) := by decide +kernel
theorem d_md_pair_24 : decode prog_14_method_9_code 24 = .ok (.sipush 129, 3) := by decide +kernel
theorem d_md_pair_27 : decode prog_14_method_9_code 27 = .ok (.goto (28), 3) := by decide +kernel
theorem d_md_pair_30 : decode prog_14_method_9_code 30 = .ok (.iload_n 0, 1) := by decide +kernel
theorem d_md_pair_31 : decode prog_14_method_9_code 31 = .ok (.bipush 60, 2) := by decide +kernel
theorem d_md_pair_33 : decode prog_14_method_9_code 33 = .ok (.if_icmp .ne (9), 3) := by decide +kernel
theorem d_md_pair_36 : decode prog_14_method_9_code 36 = .ok (.sipush 130, 3) := by decide +kernel
theorem d_md_pair_39 : decode prog_14_method_9_code 39 = .ok (.goto (16), 3) := by decide +kernel
theorem d_md_pair_42 : decode prog_14_method_9_code 42 = .ok (.iload_n 0, 1) := by decide +kernel
theorem d_md_pair_43 : decode prog_14_method_9_code 43 = .ok (.bipush 62, 2) := by decide +kernel
theorem d_md_pair_45 : decode prog_14_method_9_code 45 = .ok (.if_icmp .ne (9), 3) := by decide +kernel
theorem d_md_pair_48 : decode prog_14_method_9_code 48 = .ok (.sipush 131, 3) := by decide +kernel
theorem d_md_pair_51 : decode prog_14_method_9_code 51 = .ok (.goto (4), 3) := by decide +kernel
theorem d_md_pair_54 : decode prog_14_method_9_code 54 = .ok (.iconst 0, 1) := by decide +kernel
theorem d_md_pair_55 : decode prog_14_method_9_code 55 = .ok (.ireturn, 1) := by decide +kernel
theorem d_md_pair_56 : decode prog_14_method_9_code 56 = .ok (.iload_n 0, 1) := by decide +kernel
theorem d_md_pair_57 : decode prog_14_method_9_code 57 = .ok (.iload_n 1, 1) := by decide +kernel
theorem d_md_pair_58 : decode prog_14_method_9_code 58 = .ok (.if_icmp .eq (5), 3) := by decide +kernel
theorem d_md_pair_61 : decode prog_14_method_9_code 61 = .ok (.iconst 0, 1) := by decide +kernel
theorem d_md_pair_62 : decode prog_14_method_9_code 62 = .ok (.ireturn, 1) := by decide +kernel
theorem d_md_pair_63 : decode prog_14_method_9_code 63 = .ok (.iload_n 0, 1) := by decide +kernel
theorem d_md_pair_64 : decode prog_14_method_9_code 64 = .ok (.bipush 38, 2) := by decide +kernel
theorem d_md_pair_66 : decode prog_14_method_9_code 66 = .ok (.if_icmp .ne (9), 3) := by decide +kernel
theorem d_md_pair_69 : decode prog_14_method_9_code 69 = .ok (.sipush 132, 3) := by decide +kernel
theorem d_md_pair_72 : decode prog_14_method_9_code 72 = .ok (.goto (28), 3) := by decide +kernel
theorem d_md_pair_75 : decode prog_14_method_9_code 75 = .ok (.iload_n 0, 1) := by decide +kernel
theorem d_md_pair_76 : decode prog_14_method_9_code 76 = .ok (.bipush 124, 2) := by decide +kernel
theorem d_md_pair_78 : decode prog_14_method_9_code 78 = .ok (.if_icmp .ne (9), 3) := by decide +kernel
theorem d_md_pair_81 : decode prog_14_method_9_code 81 = .ok (.sipush 133, 3) := by decide +kernel
theorem d_md_pair_84 : decode prog_14_method_9_code 84 = .ok (.goto (16), 3) := by decide +kernel
theorem d_md_pair_87 : decode prog_14_method_9_code 87 = .ok (.iload_n 0, 1) := by decide +kernel
theorem d_md_pair_88 : decode prog_14_method_9_code 88 = .ok (.bipush 62, 2) := by decide +kernel
theorem d_md_pair_90 : decode prog_14_method_9_code 90 = .ok (.if_icmp .ne (9), 3) := by decide +kernel
theorem d_md_pair_93 : decode prog_14_method_9_code 93 = .ok (.sipush 134, 3) := by decide +kernel
theorem d_md_pair_96 : decode prog_14_method_9_code 96 = .ok (.goto (4), 3) := by decide +kernel
theorem d_md_pair_99 : decode prog_14_method_9_code 99 = .ok (.iconst 0, 1) := by decide +kernel
theorem d_md_pair_100 : decode prog_14_method_9_code 100 = .ok (.ireturn, 1) := by decide +kernel
theorem d_md_put_0 : decode prog_14_method_10_code 0 = .ok (.aload_n 0, 1) := by decide +kernel
theorem d_md_put_1 : decode prog_14_method_10_code 1 = .ok (.getfield 13, 3) := by decide +kernel
theorem d_md_put_4 : decode prog_14_method_10_code 4 = .ok (.aload_n 0, 1) := by decide +kernel
theorem d_md_put_5 : decode prog_14_method_10_code 5 = .ok (.getfield 192, 3) := by decide +kernel
theorem d_md_put_8 : decode prog_14_method_10_code 8 = .ok (.iload_n 1, 1) := by decide +kernel
theorem d_md_put_9 : decode prog_14_method_10_code 9 = .ok (.iastore, 1) := by decide +kernel
theorem d_md_put_10 : decode prog_14_method_10_code 10 = .ok (.aload_n 0, 1) := by decide +kernel
theorem d_md_put_11 : decode prog_14_method_10_code 11 = .ok (.getfield 16, 3) := by decide +kernel
theorem d_md_put_14 : decode prog_14_method_10_code 14 = .ok (.aload_n 0, 1) := by decide +kernel
theorem d_md_put_15 : decode prog_14_method_10_code 15 = .ok (.getfield 192, 3) := by decide +kernel
theorem d_md_put_18 : decode prog_14_method_10_code 18 = .ok (.iload_n 2, 1) := by decide +kernel
theorem d_md_put_19 : decode prog_14_method_10_code 19 = .ok (.iastore, 1) := by decide +kernel
theorem d_md_put_20 : decode prog_14_method_10_code 20 = .ok (.aload_n 0, 1) := by decide +kernel
theorem d_md_put_21 : decode prog_14_method_10_code 21 = .ok (.getfield 19, 3) := by decide +kernel
theorem d_md_put_24 : decode prog_14_method_10_code 24 = .ok (.aload_n 0, 1) := by decide +kernel
theorem d_md_put_25 : decode prog_14_method_10_code 25 = .ok (.getfield 192, 3) := by decide +kernel
theorem d_md_put_28 : decode prog_14_method_10_code 28 = .ok (.iload_n 3, 1) := by decide +kernel
theorem d_md_put_29 : decode prog_14_method_10_code 29 = .ok (.iastore, 1) := by decide +kernel
theorem d_md_put_30 : decode prog_14_method_10_code 30 = .ok (.aload_n 0, 1) := by decide +kernel
theorem d_md_put_31 : decode prog_14_method_10_code 31 = .ok (.getfield 22, 3) := by decide +kernel
theorem d_md_put_34 : decode prog_14_method_10_code 34 = .ok (.aload_n 0, 1) := by decide +kernel
theorem d_md_put_35 : decode prog_14_method_10_code 35 = .ok (.getfield 192, 3) := by decide +kernel
theorem d_md_put_38 : decode prog_14_method_10_code 38 = .ok (.iload 4, 2) := by decide +kernel
theorem d_md_put_40 : decode prog_14_method_10_code 40 = .ok (.iastore, 1) := by decide +kernel
theorem d_md_put_41 : decode prog_14_method_10_code 41 = .ok (.aload_n 0, 1) := by decide +kernel
theorem d_md_put_42 : decode prog_14_method_10_code 42 = .ok (.dup, 1) := by decide +kernel
theorem d_md_put_43 : decode prog_14_method_10_code 43 = .ok (.getfield 192, 3) := by decide +kernel
theorem d_md_put_46 : decode prog_14_method_10_code 46 = .ok (.iconst 1, 1) := by decide +kernel
theorem d_md_put_47 : decode prog_14_method_10_code 47 = .ok (.iadd, 1) := by decide +kernel
theorem d_md_put_48 : decode prog_14_method_10_code 48 = .ok (.putfield 192, 3) := by decide +kernel
theorem d_md_put_51 : decode prog_14_method_10_code 51 = .ok (.return_, 1) := by decide +kernel
theorem d_md_split_0 : decode prog_14_method_11_code 0 = .ok (.aload_n 0, 1) := by decide +kernel
theorem d_md_split_1 : decode prog_14_method_11_code 1 = .ok (.iconst 0, 1) := by decide +kernel
theorem d_md_split_2 : decode prog_14_method_11_code 2 = .ok (.putfield 192, 3) := by decide +kernel
theorem d_md_split_5 : decode prog_14_method_11_code 5 = .ok (.iconst 0, 1) := by decide +kernel
theorem d_md_split_6 : decode prog_14_method_11_code 6 = .ok (.istore_n 1, 1) := by decide +kernel
theorem d_md_split_7 : decode prog_14_method_11_code 7 = .ok (.iload_n 1, 1) := by decide +kernel
theorem d_md_split_8 : decode prog_14_method_11_code 8 = .ok (.aload_n 0, 1) := by decide +kernel
theorem d_md_split_9 : decode prog_14_method_11_code 9 = .ok (.getfield 174, 3) := by decide +kernel
theorem d_md_split_12 : decode prog_14_method_11_code 12 = .ok (.if_icmp .ge (180), 3) := by decide +kernel
theorem d_md_split_15 : decode prog_14_method_11_code 15 = .ok (.aload_n 0, 1) := by decide +kernel
theorem d_md_split_16 : decode prog_14_method_11_code 16 = .ok (.getfield 7, 3) := by decide +kernel
theorem d_md_split_19 : decode prog_14_method_11_code 19 = .ok (.iload_n 1, 1) := by decide +kernel
theorem d_md_split_20 : decode prog_14_method_11_code 20 = .ok (.iaload, 1) := by decide +kernel
theorem d_md_split_21 : decode prog_14_method_11_code 21 = .ok (.istore_n 2, 1) := by decide +kernel
theorem d_md_split_22 : decode prog_14_method_11_code 22 = .ok (.iload_n 1, 1) := by decide +kernel
theorem d_md_split_23 : decode prog_14_method_11_code 23 = .ok (.iconst 1, 1) := by decide +kernel
theorem d_md_split_24 : decode prog_14_method_11_code 24 = .ok (.iadd, 1) := by decide +kernel
theorem d_md_split_25 : decode prog_14_method_11_code 25 = .ok (.istore_n 3, 1) := by decide +kernel
theorem d_md_split_26 : decode prog_14_method_11_code 26 = .ok (.iload_n 2, 1) := by decide +kernel
theorem d_md_split_27 : decode prog_14_method_11_code 27 = .ok (.invokestatic 179, 3) := by decide +kernel
theorem d_md_split_30 : decode prog_14_method_11_code 30 = .ok (.ifCond .eq (78), 3) := by decide +kernel
theorem d_md_split_33 : decode prog_14_method_11_code 33 = .ok (.iload_n 2, 1) := by decide +kernel
theorem d_md_split_34 : decode prog_14_method_11_code 34 = .ok (.bipush 48, 2) := by decide +kernel
theorem d_md_split_36 : decode prog_14_method_11_code 36 = .ok (.isub, 1) := by decide +kernel
theorem d_md_split_37 : decode prog_14_method_11_code 37 = .ok (.istore 4, 2) := by decide +kernel
theorem d_md_split_39 : decode prog_14_method_11_code 39 = .ok (.aload_n 0, 1) := by decide +kernel
theorem d_md_split_40 : decode prog_14_method_11_code 40 = .ok (.iload_n 3, 1) := by decide +kernel
theorem d_md_split_41 : decode prog_14_method_11_code 41 = .ok (.invokevirtual 195, 3) := by decide +kernel
theorem d_md_split_44 : decode prog_14_method_11_code 44 = .ok (.invokestatic 179, 3) := by decide +kernel
theorem d_md_split_47 : decode prog_14_method_11_code 47 = .ok (.ifCond .eq (38), 3) := by decide +kernel
theorem d_md_split_50 : decode prog_14_method_11_code 50 = .ok (.iload 4, 2) := by decide +kernel
theorem d_md_split_52 : decode prog_14_method_11_code 52 = .ok (.sipush 10000, 3) := by decide +kernel
theorem d_md_split_55 : decode prog_14_method_11_code 55 = .ok (.if_icmp .ge (20), 3) := by decide +kernel
theorem d_md_split_58 : decode prog_14_method_11_code 58 = .ok (.bipush 10, 2) := by decide +kernel
theorem d_md_split_60 : decode prog_14_method_11_code 60 = .ok (.iload 4, 2) := by decide +kernel
theorem d_md_split_62 : decode prog_14_method_11_code 62 = .ok (.imul, 1) := by decide +kernel
theorem d_md_split_63 : decode prog_14_method_11_code 63 = .ok (.aload_n 0, 1) := by decide +kernel
theorem d_md_split_64 : decode prog_14_method_11_code 64 = .ok (.iload_n 3, 1) := by decide +kernel
theorem d_md_split_65 : decode prog_14_method_11_code 65 = .ok (.invokevirtual 195, 3) := by decide +kernel
theorem d_md_split_68 : decode prog_14_method_11_code 68 = .ok (.iadd, 1) := by decide +kernel
theorem d_md_split_69 : decode prog_14_method_11_code 69 = .ok (.bipush 48, 2) := by decide +kernel
theorem d_md_split_71 : decode prog_14_method_11_code 71 = .ok (.isub, 1) := by decide +kernel
theorem d_md_split_72 : decode prog_14_method_11_code 72 = .ok (.goto (5), 3) := by decide +kernel
theorem d_md_split_75 : decode prog_14_method_11_code 75 = .ok (.iload 4, 2) := by decide +kernel
theorem d_md_split_77 : decode prog_14_method_11_code 77 = .ok (.istore 4, 2) := by decide +kernel
theorem d_md_split_79 : decode prog_14_method_11_code 79 = .ok (.iinc 3 (1), 3) := by decide +kernel
theorem d_md_split_82 : decode prog_14_method_11_code 82 = .ok (.goto (-43), 3) := by decide +kernel
theorem d_md_split_85 : decode prog_14_method_11_code 85 = .ok (.aload_n 0, 1) := by decide +kernel
theorem d_md_split_86 : decode prog_14_method_11_code 86 = .ok (.iload_n 3, 1) := by decide +kernel
theorem d_md_split_87 : decode prog_14_method_11_code 87 = .ok (.iload_n 1, 1) := by decide +kernel
theorem d_md_split_88 : decode prog_14_method_11_code 88 = .ok (.isub, 1) := by decide +kernel
theorem d_md_split_89 : decode prog_14_method_11_code 89 = .ok (.iconst 4, 1) := by decide +kernel
theorem d_md_split_90 : decode prog_14_method_11_code 90 = .ok (.if_icmp .le (7), 3) := by decide +kernel
theorem d_md_split_93 : decode prog_14_method_11_code 93 = .ok (.iconst 3, 1) := by decide +kernel
theorem d_md_split_94 : decode prog_14_method_11_code 94 = .ok (.goto (4), 3) := by decide +kernel
theorem d_md_split_97 : decode prog_14_method_11_code 97 = .ok (.iconst 1, 1) := by decide +kernel
theorem d_md_split_98 : decode prog_14_method_11_code 98 = .ok (.iload 4, 2) := by decide +kernel
theorem d_md_split_100 : decode prog_14_method_11_code 100 = .ok (.iload_n 1, 1) := by decide +kernel
theorem d_md_split_101 : decode prog_14_method_11_code 101 = .ok (.iload_n 3, 1) := by decide +kernel
theorem d_md_split_102 : decode prog_14_method_11_code 102 = .ok (.invokevirtual 199, 3) := by decide +kernel
theorem d_md_split_105 : decode prog_14_method_11_code 105 = .ok (.goto (82), 3) := by decide +kernel
theorem d_md_split_108 : decode prog_14_method_11_code 108 = .ok (.iload_n 2, 1) := by decide +kernel
theorem d_md_split_109 : decode prog_14_method_11_code 109 = .ok (.invokestatic 183, 3) := by decide +kernel
theorem d_md_split_112 : decode prog_14_method_11_code 112 = .ok (.ifCond .eq (17), 3) := by decide +kernel
theorem d_md_split_115 : decode prog_14_method_11_code 115 = .ok (.aload_n 0, 1) := by decide +kernel
theorem d_md_split_116 : decode prog_14_method_11_code 116 = .ok (.iconst 2, 1) := by decide +kernel
theorem d_md_split_117 : decode prog_14_method_11_code 117 = .ok (.iload_n 2, 1) := by decide +kernel
theorem d_md_split_118 : decode prog_14_method_11_code 118 = .ok (.bipush 97, 2) := by decide +kernel
theorem d_md_split_120 : decode prog_14_method_11_code 120 = .ok (.isub, 1) := by decide +kernel
theorem d_md_split_121 : decode prog_14_method_11_code 121 = .ok (.iload_n 1, 1) := by decide +kernel
theorem d_md_split_122 : decode prog_14_method_11_code 122 = .ok (.iload_n 3, 1) := by decide +kernel
theorem d_md_split_123 : decode prog_14_method_11_code 123 = .ok (.invokevirtual 199, 3) := by decide +kernel
theorem d_md_split_126 : decode prog_14_method_11_code 126 = .ok (.goto (61), 3) := by decide +kernel
theorem d_md_split_129 : decode prog_14_method_11_code 129 = .ok (.iload_n 2, 1) := by decide +kernel
theorem d_md_split_130 : decode prog_14_method_11_code 130 = .ok (.bipush 32, 2) := by decide +kernel
theorem d_md_split_132 : decode prog_14_method_11_code 132 = .ok (.if_icmp .eq (55), 3) := by decide +kernel
theorem d_md_split_135 : decode prog_14_method_11_code 135 = .ok (.iload_n 2, 1) := by decide +kernel
theorem d_md_split_136 : decode prog_14_method_11_code 136 = .ok (.aload_n 0, 1) := by decide +kernel
theorem d_md_split_137 : decode prog_14_method_11_code 137 = .ok (.iload_n 3, 1) := by decide +kernel
theorem d_md_split_138 : decode prog_14_method_11_code 138 = .ok (.invokevirtual 195, 3) := by decide +kernel
theorem d_md_split_141 : decode prog_14_method_11_code 141 = .ok (.invokestatic 203, 3) := by decide +kernel
theorem d_md_split_144 : decode prog_14_method_11_code 144 = .ok (.istore 4, 2) := by decide +kernel
theorem d_md_split_146 : decode prog_14_method_11_code 146 = .ok (.iload 4, 2) := by decide +kernel
theorem d_md_split_148 : decode prog_14_method_11_code 148 = .ok (.ifCond .le (9), 3) := by decide +kernel
theorem d_md_split_151 : decode prog_14_method_11_code 151 = .ok (.iload_n 3, 1) := by decide +kernel
theorem d_md_split_152 : decode prog_14_method_11_code 152 = .ok (.iconst 1, 1) := by decide +kernel
theorem d_md_split_153 : decode prog_14_method_11_code 153 = .ok (.iadd, 1) := by decide +kernel
theorem d_md_split_154 : decode prog_14_method_11_code 154 = .ok (.goto (4), 3) := by decide +kernel
theorem d_md_split_157 : decode prog_14_method_11_code 157 = .ok (.iload_n 3, 1) := by decide +kernel
theorem d_md_split_158 : decode prog_14_method_11_code 158 = .ok (.istore_n 3, 1) := by decide +kernel
theorem d_md_split_159 : decode prog_14_method_11_code 159 = .ok (.aload_n 0, 1) := by decide +kernel
theorem d_md_split_160 : decode prog_14_method_11_code 160 = .ok (.iload 4, 2) := by decide +kernel
theorem d_md_split_162 : decode prog_14_method_11_code 162 = .ok (.ifCond .le (8), 3) := by decide +kernel
theorem d_md_split_165 : decode prog_14_method_11_code 165 = .ok (.iload 4, 2) := by decide +kernel
theorem d_md_split_167 : decode prog_14_method_11_code 167 = .ok (.goto (14), 3) := by decide +kernel
theorem d_md_split_170 : decode prog_14_method_11_code 170 = .ok (.iload_n 2, 1) := by decide +kernel
theorem d_md_split_171 : decode prog_14_method_11_code 171 = .ok (.bipush 38, 2) := by decide +kernel
theorem d_md_split_173 : decode prog_14_method_11_code 173 = .ok (.if_icmp .ne (7), 3) := by decide +kernel
theorem d_md_split_176 : decode prog_14_method_11_code 176 = .ok (.iconst 3, 1) := by decide +kernel
theorem d_md_split_177 : decode prog_14_method_11_code 177 = .ok (.goto (4), 3) := by decide +kernel
theorem d_md_split_180 : decode prog_14_method_11_code 180 = .ok (.iload_n 2, 1) := by decide +kernel
theorem d_md_split_181 : decode prog_14_method_11_code 181 = .ok (.iconst 0, 1) := by decide +kernel
theorem d_md_split_182 : decode prog_14_method_11_code 182 = .ok (.iload_n 1, 1) := by decide +kernel
theorem d_md_split_183 : decode prog_14_method_11_code 183 = .ok (.iload_n 3, 1) := by decide +kernel
theorem d_md_split_184 : decode prog_14_method_11_code 184 = .ok (.invokevirtual 199, 3) := by decide +kernel
theorem d_md_split_187 : decode prog_14_method_11_code 187 = .ok (.iload_n 3, 1) := by decide +kernel
theorem d_md_split_188 : decode prog_14_method_11_code 188 = .ok (.istore_n 1, 1) := by decide +kernel
theorem d_md_split_189 : decode prog_14_method_11_code 189 = .ok (.goto (-182), 3) := by decide +kernel
theorem d_md_split_192 : decode prog_14_method_11_code 192 = .ok (.iconst 0, 1) := by decide +kernel
theorem d_md_split_193 : decode prog_14_method_11_code 193 = .ok (.istore_n 2, 1) := by decide +kernel
theorem d_md_split_194 : decode prog_14_method_11_code 194 = .ok (.iload_n 2, 1) := by decide +kernel
theorem d_md_split_195 : decode prog_14_method_11_code 195 = .ok (.bipush 6, 2) := by decide +kernel
theorem d_md_split_197 : decode prog_14_method_11_code 197 = .ok (.if_icmp .ge (23), 3) := by decide +kernel
theorem d_md_split_200 : decode prog_14_method_11_code 200 = .ok (.aload_n 0, 1) := by decide +kernel
theorem d_md_split_201 : decode prog_14_method_11_code 201 = .ok (.iconst 0, 1) := by decide +kernel
theorem d_md_split_202 : decode prog_14_method_11_code 202 = .ok (.iconst 0, 1) := by decide +kernel
theorem d_md_split_203 : decode prog_14_method_11_code 203 = .ok (.aload_n 0, 1) := by decide +kernel
theorem d_md_split_204 : decode prog_14_method_11_code 204 = .ok (.getfield 174, 3) := by decide +kernel
theorem d_md_split_207 : decode prog_14_method_11_code 207 = .ok (.aload_n 0, 1) := by decide +kernel
theorem d_md_split_208 : decode prog_14_method_11_code 208 = .ok (.getfield 174, 3) := by decide +kernel
theorem d_md_split_211 : decode prog_14_method_11_code 211 = .ok (.invokevirtual 199, 3) := by decide +kernel
theorem d_md_split_214 : decode prog_14_method_11_code 214 = .ok (.iinc 2 (1), 3) := by decide +kernel
theorem d_md_split_217 : decode prog_14_method_11_code 217 = .ok (.goto (-23), 3) := by decide +kernel
theorem d_md_split_220 : decode prog_14_method_11_code 220 = .ok (.return_, 1) := by decide +kernel
theorem d_md_fail_0 : decode prog_14_method_12_code 0 = .ok (.aload_n 0, 1) := by decide +kernel
theorem d_md_fail_1 : decode prog_14_method_12_code 1 = .ok (.aload_n 0, 1) := by decide +kernel
theorem d_md_fail_2 : decode prog_14_method_12_code 2 = .ok (.getfield 19, 3) := by decide +kernel
theorem d_md_fail_5 : decode prog_14_method_12_code 5 = .ok (.aload_n 0, 1) := by decide +kernel
theorem d_md_fail_6 : decode prog_14_method_12_code 6 = .ok (.getfield 207, 3) := by decide +kernel
theorem d_md_fail_9 : decode prog_14_method_12_code 9 = .ok (.iaload, 1) := by decide +kernel
theorem d_md_fail_10 : decode prog_14_method_12_code 10 = .ok (.putfield 210, 3) := by decide +kernel
theorem d_md_fail_13 : decode prog_14_method_12_code 13 = .ok (.iconst 0, 1) := by decide +kernel
theorem d_md_fail_14 : decode prog_14_method_12_code 14 = .ok (.ireturn, 1) := by decide +kernel
theorem d_md_want_0 : decode prog_14_method_13_code 0 = .ok (.aload_n 0, 1) := by decide +kernel
theorem d_md_want_1 : decode prog_14_method_13_code 1 = .ok (.getfield 13, 3) := by decide +kernel
theorem d_md_want_4 : decode prog_14_method_13_code 4 = .ok (.aload_n 0, 1) := by decide +kernel
theorem d_md_want_5 : decode prog_14_method_13_code 5 = .ok (.getfield 207, 3) := by decide +kernel
theorem d_md_want_8 : decode prog_14_method_13_code 8 = .ok (.iaload, 1) := by decide +kernel
theorem d_md_want_9 : decode prog_14_method_13_code 9 = .ok (.iload_n 1, 1) := by decide +kernel
theorem d_md_want_10 : decode prog_14_method_13_code 10 = .ok (.if_icmp .eq (8), 3) := by decide +kernel
theorem d_md_want_13 : decode prog_14_method_13_code 13 = .ok (.aload_n 0, 1) := by decide +kernel
theorem d_md_want_14 : decode prog_14_method_13_code 14 = .ok (.invokevirtual 213, 3) := by decide +kernel
theorem d_md_want_17 : decode prog_14_method_13_code 17 = .ok (.ireturn, 1) := by decide +kernel
theorem d_md_want_18 : decode prog_14_method_13_code 18 = .ok (.aload_n 0, 1) := by decide +kernel
theorem d_md_want_19 : decode prog_14_method_13_code 19 = .ok (.dup, 1) := by decide +kernel
theorem d_md_want_20 : decode prog_14_method_13_code 20 = .ok (.getfield 207, 3) := by decide +kernel
theorem d_md_want_23 : decode prog_14_method_13_code 23 = .ok (.iconst 1, 1) := by decide +kernel
theorem d_md_want_24 : decode prog_14_method_13_code 24 = .ok (.iadd, 1) := by decide +kernel
theorem d_md_want_25 : decode prog_14_method_13_code 25 = .ok (.putfield 207, 3) := by decide +kernel
theorem d_md_want_28 : decode prog_14_method_13_code 28 = .ok (.iconst 1, 1) := by decide +kernel
theorem d_md_want_29 : decode prog_14_method_13_code 29 = .ok (.ireturn, 1) := by decide +kernel
theorem d_md_emit_0 : decode prog_14_method_14_code 0 = .ok (.aload_n 0, 1) := by decide +kernel
theorem d_md_emit_1 : decode prog_14_method_14_code 1 = .ok (.getfield 28, 3) := by decide +kernel
theorem d_md_emit_4 : decode prog_14_method_14_code 4 = .ok (.aload_n 0, 1) := by decide +kernel
theorem d_md_emit_5 : decode prog_14_method_14_code 5 = .ok (.getfield 217, 3) := by decide +kernel
theorem d_md_emit_8 : decode prog_14_method_14_code 8 = .ok (.iload_n 1, 1) := by decide +kernel
theorem d_md_emit_9 : decode prog_14_method_14_code 9 = .ok (.iastore, 1) := by decide +kernel
theorem d_md_emit_10 : decode prog_14_method_14_code 10 = .ok (.aload_n 0, 1) := by decide +kernel
theorem d_md_emit_11 : decode prog_14_method_14_code 11 = .ok (.getfield 31, 3) := by decide +kernel
theorem d_md_emit_14 : decode prog_14_method_14_code 14 = .ok (.aload_n 0, 1) := by decide +kernel
theorem d_md_emit_15 : decode prog_14_method_14_code 15 = .ok (.getfield 217, 3) := by decide +kernel
theorem d_md_emit_18 : decode prog_14_method_14_code 18 = .ok (.iload_n 2, 1) := by decide +kernel
theorem d_md_emit_19 : decode prog_14_method_14_code 19 = .ok (.iastore, 1) := by decide +kernel
theorem d_md_emit_20 : decode prog_14_method_14_code 20 = .ok (.aload_n 0, 1) := by decide +kernel
theorem d_md_emit_21 : decode prog_14_method_14_code 21 = .ok (.getfield 34, 3) := by decide +kernel
theorem d_md_emit_24 : decode prog_14_method_14_code 24 = .ok (.aload_n 0, 1) := by decide +kernel
theorem d_md_emit_25 : decode prog_14_method_14_code 25 = .ok (.getfield 217, 3) := by decide +kernel
theorem d_md_emit_28 : decode prog_14_method_14_code 28 = .ok (.iload_n 3, 1) := by decide +kernel
theorem d_md_emit_29 : decode prog_14_method_14_code 29 = .ok (.iastore, 1) := by decide +kernel
theorem d_md_emit_30 : decode prog_14_method_14_code 30 = .ok (.aload_n 0, 1) := by decide +kernel
theorem d_md_emit_31 : decode prog_14_method_14_code 31 = .ok (.dup, 1) := by decide +kernel
theorem d_md_emit_32 : decode prog_14_method_14_code 32 = .ok (.getfield 217, 3) := by decide +kernel
theorem d_md_emit_35 : decode prog_14_method_14_code 35 = .ok (.iconst 1, 1) := by decide +kernel
theorem d_md_emit_36 : decode prog_14_method_14_code 36 = .ok (.iadd, 1) := by decide +kernel
theorem d_md_emit_37 : decode prog_14_method_14_code 37 = .ok (.putfield 217, 3) := by decide +kernel
theorem d_md_emit_40 : decode prog_14_method_14_code 40 = .ok (.return_, 1) := by decide +kernel
theorem d_md_push_0 : decode prog_14_method_15_code 0 = .ok (.aload_n 0, 1) := by decide +kernel
theorem d_md_push_1 : decode prog_14_method_15_code 1 = .ok (.getfield 94, 3) := by decide +kernel
theorem d_md_push_4 : decode prog_14_method_15_code 4 = .ok (.aload_n 0, 1) := by decide +kernel
theorem d_md_push_5 : decode prog_14_method_15_code 5 = .ok (.getfield 220, 3) := by decide +kernel
theorem d_md_push_8 : decode prog_14_method_15_code 8 = .ok (.iload_n 1, 1) := by decide +kernel
theorem d_md_push_9 : decode prog_14_method_15_code 9 = .ok (.iastore, 1) := by decide +kernel
theorem d_md_push_10 : decode prog_14_method_15_code 10 = .ok (.aload_n 0, 1) := by decide +kernel
theorem d_md_push_11 : decode prog_14_method_15_code 11 = .ok (.getfield 97, 3) := by decide +kernel
theorem d_md_push_14 : decode prog_14_method_15_code 14 = .ok (.aload_n 0, 1) := by decide +kernel
theorem d_md_push_15 : decode prog_14_method_15_code 15 = .ok (.getfield 220, 3) := by decide +kernel
theorem d_md_push_18 : decode prog_14_method_15_code 18 = .ok (.iload_n 2, 1) := by decide +kernel
theorem d_md_push_19 : decode prog_14_method_15_code 19 = .ok (.iastore, 1) := by decide +kernel
theorem d_md_push_20 : decode prog_14_method_15_code 20 = .ok (.aload_n 0, 1) := by decide +kernel
theorem d_md_push_21 : decode prog_14_method_15_code 21 = .ok (.getfield 100, 3) := by decide +kernel
theorem d_md_push_24 : decode prog_14_method_15_code 24 = .ok (.aload_n 0, 1) := by decide +kernel
theorem d_md_push_25 : decode prog_14_method_15_code 25 = .ok (.getfield 220, 3) := by decide +kernel
theorem d_md_push_28 : decode prog_14_method_15_code 28 = .ok (.iload_n 3, 1) := by decide +kernel
theorem d_md_push_29 : decode prog_14_method_15_code 29 = .ok (.iastore, 1) := by decide +kernel
theorem d_md_push_30 : decode prog_14_method_15_code 30 = .ok (.aload_n 0, 1) := by decide +kernel
theorem d_md_push_31 : decode prog_14_method_15_code 31 = .ok (.dup, 1) := by decide +kernel
theorem d_md_push_32 : decode prog_14_method_15_code 32 = .ok (.getfield 220, 3) := by decide +kernel
theorem d_md_push_35 : decode prog_14_method_15_code 35 = .ok (.iconst 1, 1) := by decide +kernel
theorem d_md_push_36 : decode prog_14_method_15_code 36 = .ok (.iadd, 1) := by decide +kernel
theorem d_md_push_37 : decode prog_14_method_15_code 37 = .ok (.putfield 220, 3) := by decide +kernel
theorem d_md_push_40 : decode prog_14_method_15_code 40 = .ok (.return_, 1) := by decide +kernel
theorem d_md_rank_0 : decode prog_14_method_16_code 0 = .ok (.iload_n 0, 1) := by decide +kernel
theorem d_md_rank_1 : decode prog_14_method_16_code 1 = .ok (.sipush 133, 3) := by decide +kernel
theorem d_md_rank_4 : decode prog_14_method_16_code 4 = .ok (.if_icmp .ne (5), 3) := by decide +kernel
theorem d_md_rank_7 : decode prog_14_method_16_code 7 = .ok (.iconst 1, 1) := by decide +kernel
theorem d_md_rank_8 : decode prog_14_method_16_code 8 = .ok (.ireturn, 1) := by decide +kernel
theorem d_md_rank_9 : decode prog_14_method_16_code 9 = .ok (.iload_n 0, 1) := by decide +kernel
theorem d_md_rank_10 : decode prog_14_method_16_code 10 = .ok (.sipush 132, 3) := by decide +kernel
theorem d_md_rank_13 : decode prog_14_method_16_code 13 = .ok (.if_icmp .ne (5), 3) := by decide +kernel
theorem d_md_rank_16 : decode prog_14_method_16_code 16 = .ok (.iconst 2, 1) := by decide +kernel
theorem d_md_rank_17 : decode prog_14_method_16_code 17 = .ok (.ireturn, 1) := by decide +kernel
theorem d_md_rank_18 : decode prog_14_method_16_code 18 = .ok (.iload_n 0, 1) := by decide +kernel
theorem d_md_rank_19 : decode prog_14_method_16_code 19 = .ok (.sipush 128, 3) := by decide +kernel
theorem d_md_rank_22 : decode prog_14_method_16_code 22 = .ok (.if_icmp .lt (10), 3) := by decide +kernel
theorem d_md_rank_25 : decode prog_14_method_16_code 25 = .ok (.iload_n 0, 1) := by decide +kernel
theorem d_md_rank_26 : decode prog_14_method_16_code 26 = .ok (.sipush 131, 3) := by decide +kernel
theorem d_md_rank_29 : decode prog_14_method_16_code 29 = .ok (.if_icmp .le (15), 3) := by decide +kernel
theorem d_md_rank_32 : decode prog_14_method_16_code 32 = .ok (.iload_n 0, 1) := by decide +kernel
theorem d_md_rank_33 : decode prog_14_method_16_code 33 = .ok (.bipush 60, 2) := by decide +kernel
theorem d_md_rank_35 : decode prog_14_method_16_code 35 = .ok (.if_icmp .eq (9), 3) := by decide +kernel
theorem d_md_rank_38 : decode prog_14_method_16_code 38 = .ok (.iload_n 0, 1) := by decide +kernel
theorem d_md_rank_39 : decode prog_14_method_16_code 39 = .ok (.bipush 62, 2) := by decide +kernel
theorem d_md_rank_41 : decode prog_14_method_16_code 41 = .ok (.if_icmp .ne (5), 3) := by decide +kernel
theorem d_md_rank_44 : decode prog_14_method_16_code 44 = .ok (.iconst 3, 1) := by decide +kernel
theorem d_md_rank_45 : decode prog_14_method_16_code 45 = .ok (.ireturn, 1) := by decide +kernel
theorem d_md_rank_46 : decode prog_14_method_16_code 46 = .ok (.iload_n 0, 1) := by decide +kernel
theorem d_md_rank_47 : decode prog_14_method_16_code 47 = .ok (.bipush 43, 2) := by decide +kernel
theorem d_md_rank_49 : decode prog_14_method_16_code 49 = .ok (.if_icmp .eq (9), 3) := by decide +kernel
theorem d_md_rank_52 : decode prog_14_method_16_code 52 = .ok (.iload_n 0, 1) := by decide +kernel
theorem d_md_rank_53 : decode prog_14_method_16_code 53 = .ok (.bipush 45, 2) := by decide +kernel
theorem d_md_rank_55 : decode prog_14_method_16_code 55 = .ok (.if_icmp .ne (7), 3) := by decide +kernel
theorem d_md_rank_58 : decode prog_14_method_16_code 58 = .ok (.iconst 4, 1) := by decide +kernel
theorem d_md_rank_59 : decode prog_14_method_16_code 59 = .ok (.goto (26), 3) := by decide +kernel
theorem d_md_rank_62 : decode prog_14_method_16_code 62 = .ok (.iload_n 0, 1) := by decide +kernel
theorem d_md_rank_63 : decode prog_14_method_16_code 63 = .ok (.bipush 42, 2) := by decide +kernel
theorem d_md_rank_65 : decode prog_14_method_16_code 65 = .ok (.if_icmp .eq (15), 3) := by decide +kernel
theorem d_md_rank_68 : decode prog_14_method_16_code 68 = .ok (.iload_n 0, 1) := by decide +kernel
theorem d_md_rank_69 : decode prog_14_method_16_code 69 = .ok (.bipush 47, 2) := by decide +kernel
theorem d_md_rank_71 : decode prog_14_method_16_code 71 = .ok (.if_icmp .eq (9), 3) := by decide +kernel
theorem d_md_rank_74 : decode prog_14_method_16_code 74 = .ok (.iload_n 0, 1) := by decide +kernel
theorem d_md_rank_75 : decode prog_14_method_16_code 75 = .ok (.bipush 37, 2) := by decide +kernel
theorem d_md_rank_77 : decode prog_14_method_16_code 77 = .ok (.if_icmp .ne (7), 3) := by decide +kernel
theorem d_md_rank_80 : decode prog_14_method_16_code 80 = .ok (.iconst 5, 1) := by decide +kernel
theorem d_md_rank_81 : decode prog_14_method_16_code 81 = .ok (.goto (4), 3) := by decide +kernel
theorem d_md_rank_84 : decode prog_14_method_16_code 84 = .ok (.iconst 0, 1) := by decide +kernel
theorem d_md_rank_85 : decode prog_14_method_16_code 85 = .ok (.ireturn, 1) := by decide +kernel
theorem d_md_reduce_0 : decode prog_14_method_17_code 0 = .ok (.aload_n 0, 1) := by decide +kernel
theorem d_md_reduce_1 : decode prog_14_method_17_code 1 = .ok (.getfield 220, 3) := by decide +kernel
theorem d_md_reduce_4 : decode prog_14_method_17_code 4 = .ok (.ifCond .le (91), 3) := by decide +kernel
theorem d_md_reduce_7 : decode prog_14_method_17_code 7 = .ok (.aload_n 0, 1) := by decide +kernel
theorem d_md_reduce_8 : decode prog_14_method_17_code 8 = .ok (.getfield 94, 3) := by decide +kernel
theorem d_md_reduce_11 : decode prog_14_method_17_code 11 = .ok (.aload_n 0, 1) := by decide +kernel
theorem d_md_reduce_12 : decode prog_14_method_17_code 12 = .ok (.getfield 220, 3) := by decide +kernel
theorem d_md_reduce_15 : decode prog_14_method_17_code 15 = .ok (.iconst 1, 1) := by decide +kernel
theorem d_md_reduce_16 : decode prog_14_method_17_code 16 = .ok (.isub, 1) := by decide +kernel
theorem d_md_reduce_17 : decode prog_14_method_17_code 17 = .ok (.iaload, 1) := by decide +kernel
theorem d_md_reduce_18 : decode prog_14_method_17_code 18 = .ok (.invokestatic 223, 3) := by decide +kernel
theorem d_md_reduce_21 : decode prog_14_method_17_code 21 = .ok (.iload_n 1, 1) := by decide +kernel
theorem d_md_reduce_22 : decode prog_14_method_17_code 22 = .ok (.if_icmp .lt (73), 3) := by decide +kernel
theorem d_md_reduce_25 : decode prog_14_method_17_code 25 = .ok (.aload_n 0, 1) := by decide +kernel
theorem d_md_reduce_26 : decode prog_14_method_17_code 26 = .ok (.dup, 1) := by decide +kernel
theorem d_md_reduce_27 : decode prog_14_method_17_code 27 = .ok (.getfield 220, 3) := by decide +kernel
theorem d_md_reduce_30 : decode prog_14_method_17_code 30 = .ok (.iconst 1, 1) := by decide +kernel
theorem d_md_reduce_31 : decode prog_14_method_17_code 31 = .ok (.isub, 1) := by decide +kernel
theorem d_md_reduce_32 : decode prog_14_method_17_code 32 = .ok (.putfield 220, 3) := by decide +kernel
theorem d_md_reduce_35 : decode prog_14_method_17_code 35 = .ok (.aload_n 0, 1) := by decide +kernel
theorem d_md_reduce_36 : decode prog_14_method_17_code 36 = .ok (.getfield 94, 3) := by decide +kernel
theorem d_md_reduce_39 : decode prog_14_method_17_code 39 = .ok (.aload_n 0, 1) := by decide +kernel
theorem d_md_reduce_40 : decode prog_14_method_17_code 40 = .ok (.getfield 220, 3) := by decide +kernel
theorem d_md_reduce_43 : decode prog_14_method_17_code 43 = .ok (.iaload, 1) := by decide +kernel
theorem d_md_reduce_44 : decode prog_14_method_17_code 44 = .ok (.invokestatic 223, 3) := by decide +kernel
theorem d_md_reduce_47 : decode prog_14_method_17_code 47 = .ok (.iconst 3, 1) := by decide +kernel
theorem d_md_reduce_48 : decode prog_14_method_17_code 48 = .ok (.if_icmp .ge (21), 3) := by decide +kernel
theorem d_md_reduce_51 : decode prog_14_method_17_code 51 = .ok (.aload_n 0, 1) := by decide +kernel
theorem d_md_reduce_52 : decode prog_14_method_17_code 52 = .ok (.getfield 31, 3) := by decide +kernel
theorem d_md_reduce_55 : decode prog_14_method_17_code 55 = .ok (.aload_n 0, 1) := by decide +kernel
theorem d_md_reduce_56 : decode prog_14_method_17_code 56 = .ok (.getfield 100, 3) := by decide +kernel
theorem d_md_reduce_59 : decode prog_14_method_17_code 59 = .ok (.aload_n 0, 1) := by decide +kernel
theorem d_md_reduce_60 : decode prog_14_method_17_code 60 = .ok (.getfield 220, 3) := by decide +kernel
theorem d_md_reduce_63 : decode prog_14_method_17_code 63 = .ok (.iaload, 1) := by decide +kernel
theorem d_md_reduce_64 : decode prog_14_method_17_code 64 = .ok (.aload_n 0, 1) := by decide +kernel
theorem d_md_reduce_65 : decode prog_14_method_17_code 65 = .ok (.getfield 217, 3) := by decide +kernel
theorem d_md_reduce_68 : decode prog_14_method_17_code 68 = .ok (.iastore, 1) := by decide +kernel
theorem d_md_reduce_69 : decode prog_14_method_17_code 69 = .ok (.aload_n 0, 1) := by decide +kernel
theorem d_md_reduce_70 : decode prog_14_method_17_code 70 = .ok (.aload_n 0, 1) := by decide +kernel
theorem d_md_reduce_71 : decode prog_14_method_17_code 71 = .ok (.getfield 94, 3) := by decide +kernel
theorem d_md_reduce_74 : decode prog_14_method_17_code 74 = .ok (.aload_n 0, 1) := by decide +kernel
theorem d_md_reduce_75 : decode prog_14_method_17_code 75 = .ok (.getfield 220, 3) := by decide +kernel
theorem d_md_reduce_78 : decode prog_14_method_17_code 78 = .ok (.iaload, 1) := by decide +kernel
theorem d_md_reduce_79 : decode prog_14_method_17_code 79 = .ok (.iconst 0, 1) := by decide +kernel
theorem d_md_reduce_80 : decode prog_14_method_17_code 80 = .ok (.aload_n 0, 1) := by decide +kernel
theorem d_md_reduce_81 : decode prog_14_method_17_code 81 = .ok (.getfield 97, 3) := by decide +kernel
theorem d_md_reduce_84 : decode prog_14_method_17_code 84 = .ok (.aload_n 0, 1) := by decide +kernel
theorem d_md_reduce_85 : decode prog_14_method_17_code 85 = .ok (.getfield 220, 3) := by decide +kernel
theorem d_md_reduce_88 : decode prog_14_method_17_code 88 = .ok (.iaload, 1) := by decide +kernel
theorem d_md_reduce_89 : decode prog_14_method_17_code 89 = .ok (.invokevirtual 226, 3) := by decide +kernel
theorem d_md_reduce_92 : decode prog_14_method_17_code 92 = .ok (.goto (-92), 3) := by decide +kernel
theorem d_md_reduce_95 : decode prog_14_method_17_code 95 = .ok (.return_, 1) := by decide +kernel
theorem d_md_deeper_0 : decode prog_14_method_18_code 0 = .ok (.aload_n 0, 1) := by decide +kernel
theorem d_md_deeper_1 : decode prog_14_method_18_code 1 = .ok (.getfield 230, 3) := by decide +kernel
theorem d_md_deeper_4 : decode prog_14_method_18_code 4 = .ok (.iconst 4, 1) := by decide +kernel
theorem d_md_deeper_5 : decode prog_14_method_18_code 5 = .ok (.if_icmp .ne (8), 3) := by decide +kernel
theorem d_md_deeper_8 : decode prog_14_method_18_code 8 = .ok (.aload_n 0, 1) := by decide +kernel
theorem d_md_deeper_9 : decode prog_14_method_18_code 9 = .ok (.invokevirtual 213, 3) := by decide +kernel
theorem d_md_deeper_12 : decode prog_14_method_18_code 12 = .ok (.ireturn, 1) := by decide +kernel
theorem d_md_deeper_13 : decode prog_14_method_18_code 13 = .ok (.aload_n 0, 1) := by decide +kernel
theorem d_md_deeper_14 : decode prog_14_method_18_code 14 = .ok (.dup, 1) := by decide +kernel
theorem d_md_deeper_15 : decode prog_14_method_18_code 15 = .ok (.getfield 230, 3) := by decide +kernel
theorem d_md_deeper_18 : decode prog_14_method_18_code 18 = .ok (.iconst 1, 1) := by decide +kernel
theorem d_md_deeper_19 : decode prog_14_method_18_code 19 = .ok (.iadd, 1) := by decide +kernel
theorem d_md_deeper_20 : decode prog_14_method_18_code 20 = .ok (.putfield 230, 3) := by decide +kernel
theorem d_md_deeper_23 : decode prog_14_method_18_code 23 = .ok (.iconst 1, 1) := by decide +kernel
theorem d_md_deeper_24 : decode prog_14_method_18_code 24 = .ok (.ireturn, 1) := by decide +kernel
theorem d_md_operand_0 : decode prog_14_method_19_code 0 = .ok (.aload_n 0, 1) := by decide +kernel
theorem d_md_operand_1 : decode prog_14_method_19_code 1 = .ok (.getfield 13, 3) := by decide +kernel
theorem d_md_operand_4 : decode prog_14_method_19_code 4 = .ok (.aload_n 0, 1) := by decide +kernel
theorem d_md_operand_5 : decode prog_14_method_19_code 5 = .ok (.getfield 207, 3) := by decide +kernel
theorem d_md_operand_8 : decode prog_14_method_19_code 8 = .ok (.iaload, 1) := by decide +kernel
theorem d_md_operand_9 : decode prog_14_method_19_code 9 = .ok (.istore_n 2, 1) := by decide +kernel
theorem d_md_operand_10 : decode prog_14_method_19_code 10 = .ok (.aload_n 0, 1) := by decide +kernel
theorem d_md_operand_11 : decode prog_14_method_19_code 11 = .ok (.getfield 19, 3) := by decide +kernel
theorem d_md_operand_14 : decode prog_14_method_19_code 14 = .ok (.aload_n 0, 1) := by decide +kernel
theorem d_md_operand_15 : decode prog_14_method_19_code 15 = .ok (.getfield 207, 3) := by decide +kernel
theorem d_md_operand_18 : decode prog_14_method_19_code 18 = .ok (.iaload, 1) := by decide +kernel
theorem d_md_operand_19 : decode prog_14_method_19_code 19 = .ok (.istore_n 3, 1) := by decide +kernel
theorem d_md_operand_20 : decode prog_14_method_19_code 20 = .ok (.iload_n 2, 1) := by decide +kernel
theorem d_md_operand_21 : decode prog_14_method_19_code 21 = .ok (.iconst 1, 1) := by decide +kernel
theorem d_md_operand_22 : decode prog_14_method_19_code 22 = .ok (.if_icmp .eq (8), 3) := by decide +kernel
theorem d_md_operand_25 : decode prog_14_method_19_code 25 = .ok (.iload_n 2, 1) := by decide +kernel
theorem d_md_operand_26 : decode prog_14_method_19_code 26 = .ok (.iconst 2, 1) := by decide +kernel
theorem d_md_operand_27 : decode prog_14_method_19_code 27 = .ok (.if_icmp .ne (69), 3) := by decide +kernel
theorem d_md_operand_30 : decode prog_14_method_19_code 30 = .ok (.iload_n 2, 1) := by decide +kernel
theorem d_md_operand_31 : decode prog_14_method_19_code 31 = .ok (.iconst 2, 1) := by decide +kernel
theorem d_md_operand_32 : decode prog_14_method_19_code 32 = .ok (.if_icmp .ne (33), 3) := by decide +kernel
theorem d_md_operand_35 : decode prog_14_method_19_code 35 = .ok (.aload_n 0, 1) := by decide +kernel
theorem d_md_operand_36 : decode prog_14_method_19_code 36 = .ok (.aload_n 0, 1) := by decide +kernel
theorem d_md_operand_37 : decode prog_14_method_19_code 37 = .ok (.getfield 233, 3) := by decide +kernel
theorem d_md_operand_40 : decode prog_14_method_19_code 40 = .ok (.ifCond .lt (7), 3) := by decide +kernel
theorem d_md_operand_43 : decode prog_14_method_19_code 43 = .ok (.iconst 1, 1) := by decide +kernel
theorem d_md_operand_44 : decode prog_14_method_19_code 44 = .ok (.goto (4), 3) := by decide +kernel
theorem d_md_operand_47 : decode prog_14_method_19_code 47 = .ok (.iconst 0, 1) := by decide +kernel
theorem d_md_operand_48 : decode prog_14_method_19_code 48 = .ok (.iload_n 3, 1) := by decide +kernel
theorem d_md_operand_49 : decode prog_14_method_19_code 49 = .ok (.aload_n 0, 1) := by decide +kernel
theorem d_md_operand_50 : decode prog_14_method_19_code 50 = .ok (.getfield 16, 3) := by decide +kernel
theorem d_md_operand_53 : decode prog_14_method_19_code 53 = .ok (.aload_n 0, 1) := by decide +kernel
theorem d_md_operand_54 : decode prog_14_method_19_code 54 = .ok (.getfield 207, 3) := by decide +kernel
theorem d_md_operand_57 : decode prog_14_method_19_code 57 = .ok (.iaload, 1) := by decide +kernel
theorem d_md_operand_58 : decode prog_14_method_19_code 58 = .ok (.aload_n 0, 1) := by decide +kernel
theorem d_md_operand_59 : decode prog_14_method_19_code 59 = .ok (.getfield 233, 3) := by decide +kernel
theorem d_md_operand_62 : decode prog_14_method_19_code 62 = .ok (.invokevirtual 236, 3) := by decide +kernel
theorem d_md_operand_65 : decode prog_14_method_19_code 65 = .ok (.aload_n 0, 1) := by decide +kernel
theorem d_md_operand_66 : decode prog_14_method_19_code 66 = .ok (.iload_n 2, 1) := by decide +kernel
theorem d_md_operand_67 : decode prog_14_method_19_code 67 = .ok (.aload_n 0, 1) := by decide +kernel
theorem d_md_operand_68 : decode prog_14_method_19_code 68 = .ok (.getfield 16, 3) := by decide +kernel
theorem d_md_operand_71 : decode prog_14_method_19_code 71 = .ok (.aload_n 0, 1) := by decide +kernel
theorem d_md_operand_72 : decode prog_14_method_19_code 72 = .ok (.getfield 207, 3) := by decide +kernel
theorem d_md_operand_75 : decode prog_14_method_19_code 75 = .ok (.iaload, 1) := by decide +kernel
theorem d_md_operand_76 : decode prog_14_method_19_code 76 = .ok (.iload_n 3, 1) := by decide +kernel
theorem d_md_operand_77 : decode prog_14_method_19_code 77 = .ok (.invokevirtual 226, 3) := by decide +kernel
theorem d_md_operand_80 : decode prog_14_method_19_code 80 = .ok (.aload_n 0, 1) := by decide +kernel
theorem d_md_operand_81 : decode prog_14_method_19_code 81 = .ok (.dup, 1) := by decide +kernel
theorem d_md_operand_82 : decode prog_14_method_19_code 82 = .ok (.getfield 207, 3) := by decide +kernel
theorem d_md_operand_85 : decode prog_14_method_19_code 85 = .ok (.iconst 1, 1) := by decide +kernel
theorem d_md_operand_86 : decode prog_14_method_19_code 86 = .ok (.iadd, 1) := by decide +kernel
theorem d_md_operand_87 : decode prog_14_method_19_code 87 = .ok (.putfield 207, 3) := by decide +kernel
theorem d_md_operand_90 : decode prog_14_method_19_code 90 = .ok (.aload_n 0, 1) := by decide +kernel
theorem d_md_operand_91 : decode prog_14_method_19_code 91 = .ok (.invokevirtual 239, 3) := by decide +kernel
theorem d_md_operand_94 : decode prog_14_method_19_code 94 = .ok (.iconst 1, 1) := by decide +kernel
theorem d_md_operand_95 : decode prog_14_method_19_code 95 = .ok (.ireturn, 1) := by decide +kernel
theorem d_md_operand_96 : decode prog_14_method_19_code 96 = .ok (.iload_n 2, 1) := by decide +kernel
theorem d_md_operand_97 : decode prog_14_method_19_code 97 = .ok (.bipush 45, 2) := by decide +kernel
theorem d_md_operand_99 : decode prog_14_method_19_code 99 = .ok (.if_icmp .eq (9), 3) := by decide +kernel
theorem d_md_operand_102 : decode prog_14_method_19_code 102 = .ok (.iload_n 2, 1) := by decide +kernel
theorem d_md_operand_103 : decode prog_14_method_19_code 103 = .ok (.bipush 33, 2) := by decide +kernel
theorem d_md_operand_105 : decode prog_14_method_19_code 105 = .ok (.if_icmp .ne (45), 3) := by decide +kernel
theorem d_md_operand_108 : decode prog_14_method_19_code 108 = .ok (.aload_n 0, 1) := by decide +kernel
theorem d_md_operand_109 : decode prog_14_method_19_code 109 = .ok (.invokevirtual 242, 3) := by decide +kernel
theorem d_md_operand_112 : decode prog_14_method_19_code 112 = .ok (.ifCond .ne (5), 3) := by decide +kernel
theorem d_md_operand_115 : decode prog_14_method_19_code 115 = .ok (.iconst 0, 1) := by decide +kernel
theorem d_md_operand_116 : decode prog_14_method_19_code 116 = .ok (.ireturn, 1) := by decide +kernel
theorem d_md_operand_117 : decode prog_14_method_19_code 117 = .ok (.aload_n 0, 1) := by decide +kernel
theorem d_md_operand_118 : decode prog_14_method_19_code 118 = .ok (.iload_n 2, 1) := by decide +kernel
theorem d_md_operand_119 : decode prog_14_method_19_code 119 = .ok (.bipush 45, 2) := by decide +kernel
theorem d_md_operand_121 : decode prog_14_method_19_code 121 = .ok (.if_icmp .ne (9), 3) := by decide +kernel
theorem d_md_operand_124 : decode prog_14_method_19_code 124 = .ok (.sipush 203, 3) := by decide +kernel
theorem d_md_operand_127 : decode prog_14_method_19_code 127 = .ok (.goto (6), 3) := by decide +kernel
theorem d_md_operand_130 : decode prog_14_method_19_code 130 = .ok (.sipush 204, 3) := by decide +kernel
theorem d_md_operand_133 : decode prog_14_method_19_code 133 = .ok (.iload_n 3, 1) := by decide +kernel
theorem d_md_operand_134 : decode prog_14_method_19_code 134 = .ok (.iconst 0, 1) := by decide +kernel
theorem d_md_operand_135 : decode prog_14_method_19_code 135 = .ok (.invokevirtual 245, 3) := by decide +kernel
theorem d_md_operand_138 : decode prog_14_method_19_code 138 = .ok (.aload_n 0, 1) := by decide +kernel
theorem d_md_operand_139 : decode prog_14_method_19_code 139 = .ok (.dup, 1) := by decide +kernel
theorem d_md_operand_140 : decode prog_14_method_19_code 140 = .ok (.getfield 207, 3) := by decide +kernel
theorem d_md_operand_143 : decode prog_14_method_19_code 143 = .ok (.iconst 1, 1) := by decide +kernel
theorem d_md_operand_144 : decode prog_14_method_19_code 144 = .ok (.iadd, 1) := by decide +kernel
theorem d_md_operand_145 : decode prog_14_method_19_code 145 = .ok (.putfield 207, 3) := by decide +kernel
theorem d_md_operand_148 : decode prog_14_method_19_code 148 = .ok (.iconst 1, 1) := by decide +kernel
theorem d_md_operand_149 : decode prog_14_method_19_code 149 = .ok (.ireturn, 1) := by decide +kernel
theorem d_md_operand_150 : decode prog_14_method_19_code 150 = .ok (.iload_n 2, 1) := by decide +kernel
theorem d_md_operand_151 : decode prog_14_method_19_code 151 = .ok (.bipush 79, 2) := by decide +kernel
theorem d_md_operand_153 : decode prog_14_method_19_code 153 = .ok (.if_icmp .ne (18), 3) := by decide +kernel
theorem d_md_operand_156 : decode prog_14_method_19_code 156 = .ok (.iload_n 1, 1) := by decide +kernel
theorem d_md_operand_157 : decode prog_14_method_19_code 157 = .ok (.ifCond .eq (14), 3) := by decide +kernel
theorem d_md_operand_160 : decode prog_14_method_19_code 160 = .ok (.aload_n 0, 1) := by decide +kernel
theorem d_md_operand_161 : decode prog_14_method_19_code 161 = .ok (.getfield 248, 3) := by decide +kernel
theorem d_md_operand_164 : decode prog_14_method_19_code 164 = .ok (.ifCond .ne (7), 3) := by decide +kernel
theorem d_md_operand_167 : decode prog_14_method_19_code 167 = .ok (.iconst 1, 1) := by decide +kernel
theorem d_md_operand_168 : decode prog_14_method_19_code 168 = .ok (.goto (4), 3) := by decide +kernel
theorem d_md_operand_171 : decode prog_14_method_19_code 171 = .ok (.iconst 0, 1) := by decide +kernel
theorem d_md_operand_172 : decode prog_14_method_19_code 172 = .ok (.istore 4, 2) := by decide +kernel
theorem d_md_operand_174 : decode prog_14_method_19_code 174 = .ok (.iload_n 2, 1) := by decide +kernel
theorem d_md_operand_175 : decode prog_14_method_19_code 175 = .ok (.bipush 77, 2) := by decide +kernel
theorem d_md_operand_177 : decode prog_14_method_19_code 177 = .ok (.if_icmp .eq (14), 3) := by decide +kernel
theorem d_md_operand_180 : decode prog_14_method_19_code 180 = .ok (.iload_n 2, 1) := by decide +kernel
theorem d_md_operand_181 : decode prog_14_method_19_code 181 = .ok (.bipush 78, 2) := by decide +kernel
theorem d_md_operand_183 : decode prog_14_method_19_code 183 = .ok (.if_icmp .eq (8), 3) := by decide +kernel
theorem d_md_operand_186 : decode prog_14_method_19_code 186 = .ok (.iload 4, 2) := by decide +kernel
theorem d_md_operand_188 : decode prog_14_method_19_code 188 = .ok (.ifCond .eq (32), 3) := by decide +kernel
theorem d_md_operand_191 : decode prog_14_method_19_code 191 = .ok (.aload_n 0, 1) := by decide +kernel
theorem d_md_operand_192 : decode prog_14_method_19_code 192 = .ok (.dup, 1) := by decide +kernel
theorem d_md_operand_193 : decode prog_14_method_19_code 193 = .ok (.getfield 207, 3) := by decide +kernel
theorem d_md_operand_196 : decode prog_14_method_19_code 196 = .ok (.iconst 1, 1) := by decide +kernel
theorem d_md_operand_197 : decode prog_14_method_19_code 197 = .ok (.iadd, 1) := by decide +kernel
theorem d_md_operand_198 : decode prog_14_method_19_code 198 = .ok (.putfield 207, 3) := by decide +kernel
theorem d_md_operand_201 : decode prog_14_method_19_code 201 = .ok (.aload_n 0, 1) := by decide +kernel
theorem d_md_operand_202 : decode prog_14_method_19_code 202 = .ok (.getfield 13, 3) := by decide +kernel
theorem d_md_operand_205 : decode prog_14_method_19_code 205 = .ok (.aload_n 0, 1) := by decide +kernel
theorem d_md_operand_206 : decode prog_14_method_19_code 206 = .ok (.getfield 207, 3) := by decide +kernel
theorem d_md_operand_209 : decode prog_14_method_19_code 209 = .ok (.iaload, 1) := by decide +kernel
theorem d_md_operand_210 : decode prog_14_method_19_code 210 = .ok (.bipush 40, 2) := by decide +kernel
theorem d_md_operand_212 : decode prog_14_method_19_code 212 = .ok (.if_icmp .eq (19), 3) := by decide +kernel
theorem d_md_operand_215 : decode prog_14_method_19_code 215 = .ok (.aload_n 0, 1) := by decide +kernel
theorem d_md_operand_216 : decode prog_14_method_19_code 216 = .ok (.invokevirtual 213, 3) := by decide +kernel
theorem d_md_operand_219 : decode prog_14_method_19_code 219 = .ok (.ireturn, 1) := by decide +kernel
theorem d_md_operand_220 : decode prog_14_method_19_code 220 = .ok (.iload_n 2, 1) := by decide +kernel
theorem d_md_operand_221 : decode prog_14_method_19_code 221 = .ok (.bipush 40, 2) := by decide +kernel
theorem d_md_operand_223 : decode prog_14_method_19_code 223 = .ok (.if_icmp .eq (8), 3) := by decide +kernel
theorem d_md_operand_226 : decode prog_14_method_19_code 226 = .ok (.aload_n 0, 1) := by decide +kernel
theorem d_md_operand_227 : decode prog_14_method_19_code 227 = .ok (.invokevirtual 213, 3) := by decide +kernel
theorem d_md_operand_230 : decode prog_14_method_19_code 230 = .ok (.ireturn, 1) := by decide +kernel
theorem d_md_operand_231 : decode prog_14_method_19_code 231 = .ok (.aload_n 0, 1) := by decide +kernel
theorem d_md_operand_232 : decode prog_14_method_19_code 232 = .ok (.invokevirtual 242, 3) := by decide +kernel
theorem d_md_operand_235 : decode prog_14_method_19_code 235 = .ok (.ifCond .ne (5), 3) := by decide +kernel
theorem d_md_operand_238 : decode prog_14_method_19_code 238 = .ok (.iconst 0, 1) := by decide +kernel
theorem d_md_operand_239 : decode prog_14_method_19_code 239 = .ok (.ireturn, 1) := by decide +kernel
theorem d_md_operand_240 : decode prog_14_method_19_code 240 = .ok (.aload_n 0, 1) := by decide +kernel
theorem d_md_operand_241 : decode prog_14_method_19_code 241 = .ok (.dup, 1) := by decide +kernel
theorem d_md_operand_242 : decode prog_14_method_19_code 242 = .ok (.getfield 207, 3) := by decide +kernel
theorem d_md_operand_245 : decode prog_14_method_19_code 245 = .ok (.iconst 1, 1) := by decide +kernel
theorem d_md_operand_246 : decode prog_14_method_19_code 246 = .ok (.iadd, 1) := by decide +kernel
theorem d_md_operand_247 : decode prog_14_method_19_code 247 = .ok (.putfield 207, 3) := by decide +kernel
theorem d_md_operand_250 : decode prog_14_method_19_code 250 = .ok (.aload_n 0, 1) := by decide +kernel
theorem d_md_operand_251 : decode prog_14_method_19_code 251 = .ok (.dup, 1) := by decide +kernel
theorem d_md_operand_252 : decode prog_14_method_19_code 252 = .ok (.getfield 251, 3) := by decide +kernel
theorem d_md_operand_255 : decode prog_14_method_19_code 255 = .ok (.iconst 1, 1) := by decide +kernel
theorem d_md_operand_256 : decode prog_14_method_19_code 256 = .ok (.iadd, 1) := by decide +kernel
theorem d_md_operand_257 : decode prog_14_method_19_code 257 = .ok (.putfield 251, 3) := by decide +kernel
theorem d_md_operand_260 : decode prog_14_method_19_code 260 = .ok (.iload 4, 2) := by decide +kernel
theorem d_md_operand_262 : decode prog_14_method_19_code 262 = .ok (.ifCond .eq (20), 3) := by decide +kernel
theorem d_md_operand_265 : decode prog_14_method_19_code 265 = .ok (.aload_n 0, 1) := by decide +kernel
theorem d_md_operand_266 : decode prog_14_method_19_code 266 = .ok (.aload_n 0, 1) := by decide +kernel
theorem d_md_operand_267 : decode prog_14_method_19_code 267 = .ok (.getfield 251, 3) := by decide +kernel
theorem d_md_operand_270 : decode prog_14_method_19_code 270 = .ok (.putfield 248, 3) := by decide +kernel
theorem d_md_operand_273 : decode prog_14_method_19_code 273 = .ok (.aload_n 0, 1) := by decide +kernel
theorem d_md_operand_274 : decode prog_14_method_19_code 274 = .ok (.sipush 202, 3) := by decide +kernel
theorem d_md_operand_277 : decode prog_14_method_19_code 277 = .ok (.iconst 0, 1) := by decide +kernel
theorem d_md_operand_278 : decode prog_14_method_19_code 278 = .ok (.iload_n 3, 1) := by decide +kernel
theorem d_md_operand_279 : decode prog_14_method_19_code 279 = .ok (.invokevirtual 226, 3) := by decide +kernel
theorem d_md_operand_282 : decode prog_14_method_19_code 282 = .ok (.aload_n 0, 1) := by decide +kernel
theorem d_md_operand_283 : decode prog_14_method_19_code 283 = .ok (.iload 4, 2) := by decide +kernel
theorem d_md_operand_285 : decode prog_14_method_19_code 285 = .ok (.ifCond .eq (9), 3) := by decide +kernel
theorem d_md_operand_288 : decode prog_14_method_19_code 288 = .ok (.sipush 202, 3) := by decide +kernel
theorem d_md_operand_291 : decode prog_14_method_19_code 291 = .ok (.goto (18), 3) := by decide +kernel
theorem d_md_operand_294 : decode prog_14_method_19_code 294 = .ok (.iload_n 2, 1) := by decide +kernel
theorem d_md_operand_295 : decode prog_14_method_19_code 295 = .ok (.bipush 40, 2) := by decide +kernel
theorem d_md_operand_297 : decode prog_14_method_19_code 297 = .ok (.if_icmp .ne (9), 3) := by decide +kernel
theorem d_md_operand_300 : decode prog_14_method_19_code 300 = .ok (.sipush 200, 3) := by decide +kernel
theorem d_md_operand_303 : decode prog_14_method_19_code 303 = .ok (.goto (6), 3) := by decide +kernel
theorem d_md_operand_306 : decode prog_14_method_19_code 306 = .ok (.sipush 201, 3) := by decide +kernel
theorem d_md_operand_309 : decode prog_14_method_19_code 309 = .ok (.iload_n 3, 1) := by decide +kernel
theorem d_md_operand_310 : decode prog_14_method_19_code 310 = .ok (.iload 4, 2) := by decide +kernel
theorem d_md_operand_312 : decode prog_14_method_19_code 312 = .ok (.ifCond .eq (12), 3) := by decide +kernel
theorem d_md_operand_315 : decode prog_14_method_19_code 315 = .ok (.aload_n 0, 1) := by decide +kernel
theorem d_md_operand_316 : decode prog_14_method_19_code 316 = .ok (.getfield 217, 3) := by decide +kernel
theorem d_md_operand_319 : decode prog_14_method_19_code 319 = .ok (.iconst 1, 1) := by decide +kernel
theorem d_md_operand_320 : decode prog_14_method_19_code 320 = .ok (.isub, 1) := by decide +kernel
theorem d_md_operand_321 : decode prog_14_method_19_code 321 = .ok (.goto (14), 3) := by decide +kernel
theorem d_md_operand_324 : decode prog_14_method_19_code 324 = .ok (.iload_n 2, 1) := by decide +kernel
theorem d_md_operand_325 : decode prog_14_method_19_code 325 = .ok (.bipush 78, 2) := by decide +kernel
theorem d_md_operand_327 : decode prog_14_method_19_code 327 = .ok (.if_icmp .ne (7), 3) := by decide +kernel
theorem d_md_operand_330 : decode prog_14_method_19_code 330 = .ok (.iconst 1, 1) := by decide +kernel
theorem d_md_operand_331 : decode prog_14_method_19_code 331 = .ok (.goto (4), 3) := by decide +kernel
theorem d_md_operand_334 : decode prog_14_method_19_code 334 = .ok (.iconst 0, 1) := by decide +kernel
theorem d_md_operand_335 : decode prog_14_method_19_code 335 = .ok (.invokevirtual 245, 3) := by decide +kernel
theorem d_md_operand_338 : decode prog_14_method_19_code 338 = .ok (.iconst 1, 1) := by decide +kernel
theorem d_md_operand_339 : decode prog_14_method_19_code 339 = .ok (.ireturn, 1) := by decide +kernel
theorem d_md_signs_0 : decode prog_14_method_20_code 0 = .ok (.aload_n 0, 1) := by decide +kernel
theorem d_md_signs_1 : decode prog_14_method_20_code 1 = .ok (.iconst 0, 1) := by decide +kernel
theorem d_md_signs_2 : decode prog_14_method_20_code 2 = .ok (.putfield 254, 3) := by decide +kernel
theorem d_md_signs_5 : decode prog_14_method_20_code 5 = .ok (.aload_n 0, 1) := by decide +kernel
theorem d_md_signs_6 : decode prog_14_method_20_code 6 = .ok (.getfield 220, 3) := by decide +kernel
theorem d_md_signs_9 : decode prog_14_method_20_code 9 = .ok (.ifCond .le (83), 3) := by decide +kernel
theorem d_md_signs_12 : decode prog_14_method_20_code 12 = .ok (.aload_n 0, 1) := by decide +kernel
theorem d_md_signs_13 : decode prog_14_method_20_code 13 = .ok (.getfield 94, 3) := by decide +kernel
theorem d_md_signs_16 : decode prog_14_method_20_code 16 = .ok (.aload_n 0, 1) := by decide +kernel
theorem d_md_signs_17 : decode prog_14_method_20_code 17 = .ok (.getfield 220, 3) := by decide +kernel
theorem d_md_signs_20 : decode prog_14_method_20_code 20 = .ok (.iconst 1, 1) := by decide +kernel
theorem d_md_signs_21 : decode prog_14_method_20_code 21 = .ok (.isub, 1) := by decide +kernel
theorem d_md_signs_22 : decode prog_14_method_20_code 22 = .ok (.iaload, 1) := by decide +kernel
theorem d_md_signs_23 : decode prog_14_method_20_code 23 = .ok (.sipush 203, 3) := by decide +kernel
theorem d_md_signs_26 : decode prog_14_method_20_code 26 = .ok (.if_icmp .eq (20), 3) := by decide +kernel
theorem d_md_signs_29 : decode prog_14_method_20_code 29 = .ok (.aload_n 0, 1) := by decide +kernel
theorem d_md_signs_30 : decode prog_14_method_20_code 30 = .ok (.getfield 94, 3) := by decide +kernel
theorem d_md_signs_33 : decode prog_14_method_20_code 33 = .ok (.aload_n 0, 1) := by decide +kernel
theorem d_md_signs_34 : decode prog_14_method_20_code 34 = .ok (.getfield 220, 3) := by decide +kernel
theorem d_md_signs_37 : decode prog_14_method_20_code 37 = .ok (.iconst 1, 1) := by decide +kernel
theorem d_md_signs_38 : decode prog_14_method_20_code 38 = .ok (.isub, 1) := by decide +kernel
theorem d_md_signs_39 : decode prog_14_method_20_code 39 = .ok (.iaload, 1) := by decide +kernel
theorem d_md_signs_40 : decode prog_14_method_20_code 40 = .ok (.sipush 204, 3) := by decide +kernel
theorem d_md_signs_43 : decode prog_14_method_20_code 43 = .ok (.if_icmp .ne (49), 3) := by decide +kernel
theorem d_md_signs_46 : decode prog_14_method_20_code 46 = .ok (.aload_n 0, 1) := by decide +kernel
theorem d_md_signs_47 : decode prog_14_method_20_code 47 = .ok (.dup, 1) := by decide +kernel
theorem d_md_signs_48 : decode prog_14_method_20_code 48 = .ok (.getfield 220, 3) := by decide +kernel
theorem d_md_signs_51 : decode prog_14_method_20_code 51 = .ok (.iconst 1, 1) := by decide +kernel
theorem d_md_signs_52 : decode prog_14_method_20_code 52 = .ok (.isub, 1) := by decide +kernel
theorem d_md_signs_53 : decode prog_14_method_20_code 53 = .ok (.putfield 220, 3) := by decide +kernel
theorem d_md_signs_56 : decode prog_14_method_20_code 56 = .ok (.aload_n 0, 1) := by decide +kernel
theorem d_md_signs_57 : decode prog_14_method_20_code 57 = .ok (.dup, 1) := by decide +kernel
theorem d_md_signs_58 : decode prog_14_method_20_code 58 = .ok (.getfield 230, 3) := by decide +kernel
theorem d_md_signs_61 : decode prog_14_method_20_code 61 = .ok (.iconst 1, 1) := by decide +kernel
theorem d_md_signs_62 : decode prog_14_method_20_code 62 = .ok (.isub, 1) := by decide +kernel
theorem d_md_signs_63 : decode prog_14_method_20_code 63 = .ok (.putfield 230, 3) := by decide +kernel
theorem d_md_signs_66 : decode prog_14_method_20_code 66 = .ok (.aload_n 0, 1) := by decide +kernel
theorem d_md_signs_67 : decode prog_14_method_20_code 67 = .ok (.aload_n 0, 1) := by decide +kernel
theorem d_md_signs_68 : decode prog_14_method_20_code 68 = .ok (.getfield 94, 3) := by decide +kernel
theorem d_md_signs_71 : decode prog_14_method_20_code 71 = .ok (.aload_n 0, 1) := by decide +kernel
theorem d_md_signs_72 : decode prog_14_method_20_code 72 = .ok (.getfield 220, 3) := by decide +kernel
theorem d_md_signs_75 : decode prog_14_method_20_code 75 = .ok (.iaload, 1) := by decide +kernel
theorem d_md_signs_76 : decode prog_14_method_20_code 76 = .ok (.iconst 0, 1) := by decide +kernel
theorem d_md_signs_77 : decode prog_14_method_20_code 77 = .ok (.aload_n 0, 1) := by decide +kernel
theorem d_md_signs_78 : decode prog_14_method_20_code 78 = .ok (.getfield 97, 3) := by decide +kernel
theorem d_md_signs_81 : decode prog_14_method_20_code 81 = .ok (.aload_n 0, 1) := by decide +kernel
theorem d_md_signs_82 : decode prog_14_method_20_code 82 = .ok (.getfield 220, 3) := by decide +kernel
theorem d_md_signs_85 : decode prog_14_method_20_code 85 = .ok (.iaload, 1) := by decide +kernel
theorem d_md_signs_86 : decode prog_14_method_20_code 86 = .ok (.invokevirtual 226, 3) := by decide +kernel
theorem d_md_signs_89 : decode prog_14_method_20_code 89 = .ok (.goto (-84), 3) := by decide +kernel
theorem d_md_signs_92 : decode prog_14_method_20_code 92 = .ok (.return_, 1) := by decide +kernel
theorem d_md_close_0 : decode prog_14_method_21_code 0 = .ok (.aload_n 0, 1) := by decide +kernel
theorem d_md_close_1 : decode prog_14_method_21_code 1 = .ok (.iconst 1, 1) := by decide +kernel
theorem d_md_close_2 : decode prog_14_method_21_code 2 = .ok (.invokevirtual 258, 3) := by decide +kernel
theorem d_md_close_5 : decode prog_14_method_21_code 5 = .ok (.aload_n 0, 1) := by decide +kernel
theorem d_md_close_6 : decode prog_14_method_21_code 6 = .ok (.dup, 1) := by decide +kernel
theorem d_md_close_7 : decode prog_14_method_21_code 7 = .ok (.getfield 220, 3) := by decide +kernel
theorem d_md_close_10 : decode prog_14_method_21_code 10 = .ok (.iconst 1, 1) := by decide +kernel
theorem d_md_close_11 : decode prog_14_method_21_code 11 = .ok (.isub, 1) := by decide +kernel
theorem d_md_close_12 : decode prog_14_method_21_code 12 = .ok (.putfield 220, 3) := by decide +kernel
theorem d_md_close_15 : decode prog_14_method_21_code 15 = .ok (.aload_n 0, 1) := by decide +kernel
theorem d_md_close_16 : decode prog_14_method_21_code 16 = .ok (.getfield 94, 3) := by decide +kernel
theorem d_md_close_19 : decode prog_14_method_21_code 19 = .ok (.aload_n 0, 1) := by decide +kernel
theorem d_md_close_20 : decode prog_14_method_21_code 20 = .ok (.getfield 220, 3) := by decide +kernel
theorem d_md_close_23 : decode prog_14_method_21_code 23 = .ok (.iaload, 1) := by decide +kernel
theorem d_md_close_24 : decode prog_14_method_21_code 24 = .ok (.istore_n 1, 1) := by decide +kernel
theorem d_md_close_25 : decode prog_14_method_21_code 25 = .ok (.iload_n 1, 1) := by decide +kernel
theorem d_md_close_26 : decode prog_14_method_21_code 26 = .ok (.sipush 201, 3) := by decide +kernel
theorem d_md_close_29 : decode prog_14_method_21_code 29 = .ok (.if_icmp .ne (28), 3) := by decide +kernel
theorem d_md_close_32 : decode prog_14_method_21_code 32 = .ok (.aload_n 0, 1) := by decide +kernel
theorem d_md_close_33 : decode prog_14_method_21_code 33 = .ok (.sipush 201, 3) := by decide +kernel
theorem d_md_close_36 : decode prog_14_method_21_code 36 = .ok (.aload_n 0, 1) := by decide +kernel
theorem d_md_close_37 : decode prog_14_method_21_code 37 = .ok (.getfield 100, 3) := by decide +kernel
theorem d_md_close_40 : decode prog_14_method_21_code 40 = .ok (.aload_n 0, 1) := by decide +kernel
theorem d_md_close_41 : decode prog_14_method_21_code 41 = .ok (.getfield 220, 3) := by decide +kernel
theorem d_md_close_44 : decode prog_14_method_21_code 44 = .ok (.iaload, 1) := by decide +kernel
theorem d_md_close_45 : decode prog_14_method_21_code 45 = .ok (.aload_n 0, 1) := by decide +kernel
theorem d_md_close_46 : decode prog_14_method_21_code 46 = .ok (.getfield 97, 3) := by decide +kernel
theorem d_md_close_49 : decode prog_14_method_21_code 49 = .ok (.aload_n 0, 1) := by decide +kernel
theorem d_md_close_50 : decode prog_14_method_21_code 50 = .ok (.getfield 220, 3) := by decide +kernel
theorem d_md_close_53 : decode prog_14_method_21_code 53 = .ok (.iaload, 1) := by decide +kernel
theorem d_md_close_54 : decode prog_14_method_21_code 54 = .ok (.invokevirtual 226, 3) := by decide +kernel
theorem d_md_close_57 : decode prog_14_method_21_code 57 = .ok (.iload_n 1, 1) := by decide +kernel
theorem d_md_close_58 : decode prog_14_method_21_code 58 = .ok (.sipush 202, 3) := by decide +kernel
theorem d_md_close_61 : decode prog_14_method_21_code 61 = .ok (.if_icmp .ne (43), 3) := by decide +kernel
theorem d_md_close_64 : decode prog_14_method_21_code 64 = .ok (.aload_n 0, 1) := by decide +kernel
theorem d_md_close_65 : decode prog_14_method_21_code 65 = .ok (.getfield 31, 3) := by decide +kernel
theorem d_md_close_68 : decode prog_14_method_21_code 68 = .ok (.aload_n 0, 1) := by decide +kernel
theorem d_md_close_69 : decode prog_14_method_21_code 69 = .ok (.getfield 100, 3) := by decide +kernel
theorem d_md_close_72 : decode prog_14_method_21_code 72 = .ok (.aload_n 0, 1) := by decide +kernel
theorem d_md_close_73 : decode prog_14_method_21_code 73 = .ok (.getfield 220, 3) := by decide +kernel
theorem d_md_close_76 : decode prog_14_method_21_code 76 = .ok (.iaload, 1) := by decide +kernel
theorem d_md_close_77 : decode prog_14_method_21_code 77 = .ok (.aload_n 0, 1) := by decide +kernel
theorem d_md_close_78 : decode prog_14_method_21_code 78 = .ok (.getfield 217, 3) := by decide +kernel
theorem d_md_close_81 : decode prog_14_method_21_code 81 = .ok (.iastore, 1) := by decide +kernel
theorem d_md_close_82 : decode prog_14_method_21_code 82 = .ok (.aload_n 0, 1) := by decide +kernel
theorem d_md_close_83 : decode prog_14_method_21_code 83 = .ok (.sipush 206, 3) := by decide +kernel
theorem d_md_close_86 : decode prog_14_method_21_code 86 = .ok (.iconst 0, 1) := by decide +kernel
theorem d_md_close_87 : decode prog_14_method_21_code 87 = .ok (.aload_n 0, 1) := by decide +kernel
theorem d_md_close_88 : decode prog_14_method_21_code 88 = .ok (.getfield 97, 3) := by decide +kernel
theorem d_md_close_91 : decode prog_14_method_21_code 91 = .ok (.aload_n 0, 1) := by decide +kernel
theorem d_md_close_92 : decode prog_14_method_21_code 92 = .ok (.getfield 220, 3) := by decide +kernel
theorem d_md_close_95 : decode prog_14_method_21_code 95 = .ok (.iaload, 1) := by decide +kernel
theorem d_md_close_96 : decode prog_14_method_21_code 96 = .ok (.invokevirtual 226, 3) := by decide +kernel
theorem d_md_close_99 : decode prog_14_method_21_code 99 = .ok (.aload_n 0, 1) := by decide +kernel
theorem d_md_close_100 : decode prog_14_method_21_code 100 = .ok (.iconst 0, 1) := by decide +kernel
theorem d_md_close_101 : decode prog_14_method_21_code 101 = .ok (.putfield 248, 3) := by decide +kernel
theorem d_md_close_104 : decode prog_14_method_21_code 104 = .ok (.aload_n 0, 1) := by decide +kernel
theorem d_md_close_105 : decode prog_14_method_21_code 105 = .ok (.dup, 1) := by decide +kernel
theorem d_md_close_106 : decode prog_14_method_21_code 106 = .ok (.getfield 251, 3) := by decide +kernel
theorem d_md_close_109 : decode prog_14_method_21_code 109 = .ok (.iconst 1, 1) := by decide +kernel
theorem d_md_close_110 : decode prog_14_method_21_code 110 = .ok (.isub, 1) := by decide +kernel
theorem d_md_close_111 : decode prog_14_method_21_code 111 = .ok (.putfield 251, 3) := by decide +kernel
theorem d_md_close_114 : decode prog_14_method_21_code 114 = .ok (.aload_n 0, 1) := by decide +kernel
theorem d_md_close_115 : decode prog_14_method_21_code 115 = .ok (.dup, 1) := by decide +kernel
theorem d_md_close_116 : decode prog_14_method_21_code 116 = .ok (.getfield 230, 3) := by decide +kernel
theorem d_md_close_119 : decode prog_14_method_21_code 119 = .ok (.iconst 1, 1) := by decide +kernel
theorem d_md_close_120 : decode prog_14_method_21_code 120 = .ok (.isub, 1) := by decide +kernel
theorem d_md_close_121 : decode prog_14_method_21_code 121 = .ok (.putfield 230, 3) := by decide +kernel
theorem d_md_close_124 : decode prog_14_method_21_code 124 = .ok (.aload_n 0, 1) := by decide +kernel
theorem d_md_close_125 : decode prog_14_method_21_code 125 = .ok (.dup, 1) := by decide +kernel
theorem d_md_close_126 : decode prog_14_method_21_code 126 = .ok (.getfield 207, 3) := by decide +kernel
theorem d_md_close_129 : decode prog_14_method_21_code 129 = .ok (.iconst 1, 1) := by decide +kernel
theorem d_md_close_130 : decode prog_14_method_21_code 130 = .ok (.iadd, 1) := by decide +kernel
theorem d_md_close_131 : decode prog_14_method_21_code 131 = .ok (.putfield 207, 3) := by decide +kernel
theorem d_md_close_134 : decode prog_14_method_21_code 134 = .ok (.aload_n 0, 1) := by decide +kernel
theorem d_md_close_135 : decode prog_14_method_21_code 135 = .ok (.invokevirtual 239, 3) := by decide +kernel
theorem d_md_close_138 : decode prog_14_method_21_code 138 = .ok (.return_, 1) := by decide +kernel
theorem d_md_expression_0 : decode prog_14_method_22_code 0 = .ok (.aload_n 0, 1) := by decide +kernel
theorem d_md_expression_1 : decode prog_14_method_22_code 1 = .ok (.iconst 0, 1) := by decide +kernel
theorem d_md_expression_2 : decode prog_14_method_22_code 2 = .ok (.putfield 220, 3) := by decide +kernel
theorem d_md_expression_5 : decode prog_14_method_22_code 5 = .ok (.aload_n 0, 1) := by decide +kernel
theorem d_md_expression_6 : decode prog_14_method_22_code 6 = .ok (.iconst 0, 1) := by decide +kernel
theorem d_md_expression_7 : decode prog_14_method_22_code 7 = .ok (.putfield 230, 3) := by decide +kernel
theorem d_md_expression_10 : decode prog_14_method_22_code 10 = .ok (.aload_n 0, 1) := by decide +kernel
theorem d_md_expression_11 : decode prog_14_method_22_code 11 = .ok (.iconst 0, 1) := by decide +kernel
theorem d_md_expression_12 : decode prog_14_method_22_code 12 = .ok (.putfield 251, 3) := by decide +kernel
theorem d_md_expression_15 : decode prog_14_method_22_code 15 = .ok (.aload_n 0, 1) := by decide +kernel
theorem d_md_expression_16 : decode prog_14_method_22_code 16 = .ok (.iconst 0, 1) := by decide +kernel
theorem d_md_expression_17 : decode prog_14_method_22_code 17 = .ok (.putfield 248, 3) := by decide +kernel
theorem d_md_expression_20 : decode prog_14_method_22_code 20 = .ok (.aload_n 0, 1) := by decide +kernel
theorem d_md_expression_21 : decode prog_14_method_22_code 21 = .ok (.iconst 1, 1) := by decide +kernel
theorem d_md_expression_22 : decode prog_14_method_22_code 22 = .ok (.putfield 254, 3) := by decide +kernel
theorem d_md_expression_25 : decode prog_14_method_22_code 25 = .ok (.iconst 1, 1) := by decide +kernel
theorem d_md_expression_26 : decode prog_14_method_22_code 26 = .ok (.istore_n 3, 1) := by decide +kernel
theorem d_md_expression_27 : decode prog_14_method_22_code 27 = .ok (.iload_n 3, 1) := by decide +kernel
theorem d_md_expression_28 : decode prog_14_method_22_code 28 = .ok (.ifCond .eq (216), 3) := by decide +kernel
theorem d_md_expression_31 : decode prog_14_method_22_code 31 = .ok (.aload_n 0, 1) := by decide +kernel
theorem d_md_expression_32 : decode prog_14_method_22_code 32 = .ok (.getfield 13, 3) := by decide +kernel
theorem d_md_expression_35 : decode prog_14_method_22_code 35 = .ok (.aload_n 0, 1) := by decide +kernel
theorem d_md_expression_36 : decode prog_14_method_22_code 36 = .ok (.getfield 207, 3) := by decide +kernel
theorem d_md_expression_39 : decode prog_14_method_22_code 39 = .ok (.iaload, 1) := by decide +kernel
theorem d_md_expression_40 : decode prog_14_method_22_code 40 = .ok (.invokestatic 223, 3) := by decide +kernel
theorem d_md_expression_43 : decode prog_14_method_22_code 43 = .ok (.istore 4, 2) := by decide +kernel
theorem d_md_expression_45 : decode prog_14_method_22_code 45 = .ok (.aload_n 0, 1) := by decide +kernel
theorem d_md_expression_46 : decode prog_14_method_22_code 46 = .ok (.getfield 254, 3) := by decide +kernel
theorem d_md_expression_49 : decode prog_14_method_22_code 49 = .ok (.ifCond .eq (13), 3) := by decide +kernel
theorem d_md_expression_52 : decode prog_14_method_22_code 52 = .ok (.aload_n 0, 1) := by decide +kernel
theorem d_md_expression_53 : decode prog_14_method_22_code 53 = .ok (.iload_n 2, 1) := by decide +kernel
theorem d_md_expression_54 : decode prog_14_method_22_code 54 = .ok (.invokevirtual 262, 3) := by decide +kernel
theorem d_md_expression_57 : decode prog_14_method_22_code 57 = .ok (.ifCond .ne (184), 3) := by decide +kernel
theorem d_md_expression_60 : decode prog_14_method_22_code 60 = .ok (.iconst 0, 1) := by decide +kernel
theorem d_md_expression_61 : decode prog_14_method_22_code 61 = .ok (.ireturn, 1) := by decide +kernel
theorem d_md_expression_62 : decode prog_14_method_22_code 62 = .ok (.iload 4, 2) := by decide +kernel
theorem d_md_expression_64 : decode prog_14_method_22_code 64 = .ok (.ifCond .le (135), 3) := by decide +kernel
theorem d_md_expression_67 : decode prog_14_method_22_code 67 = .ok (.aload_n 0, 1) := by decide +kernel
theorem d_md_expression_68 : decode prog_14_method_22_code 68 = .ok (.getfield 251, 3) := by decide +kernel
theorem d_md_expression_71 : decode prog_14_method_22_code 71 = .ok (.ifCond .gt (9), 3) := by decide +kernel
theorem d_md_expression_74 : decode prog_14_method_22_code 74 = .ok (.iload 4, 2) := by decide +kernel
theorem d_md_expression_76 : decode prog_14_method_22_code 76 = .ok (.iload_n 1, 1) := by decide +kernel
theorem d_md_expression_77 : decode prog_14_method_22_code 77 = .ok (.if_icmp .lt (122), 3) := by decide +kernel
theorem d_md_expression_80 : decode prog_14_method_22_code 80 = .ok (.aload_n 0, 1) := by decide +kernel
theorem d_md_expression_81 : decode prog_14_method_22_code 81 = .ok (.iload 4, 2) := by decide +kernel
theorem d_md_expression_83 : decode prog_14_method_22_code 83 = .ok (.iconst 3, 1) := by decide +kernel
theorem d_md_expression_84 : decode prog_14_method_22_code 84 = .ok (.if_icmp .ne (7), 3) := by decide +kernel
theorem d_md_expression_87 : decode prog_14_method_22_code 87 = .ok (.iconst 4, 1) := by decide +kernel
theorem d_md_expression_88 : decode prog_14_method_22_code 88 = .ok (.goto (5), 3) := by decide +kernel
theorem d_md_expression_91 : decode prog_14_method_22_code 91 = .ok (.iload 4, 2) := by decide +kernel
theorem d_md_expression_93 : decode prog_14_method_22_code 93 = .ok (.invokevirtual 258, 3) := by decide +kernel
theorem d_md_expression_96 : decode prog_14_method_22_code 96 = .ok (.iload 4, 2) := by decide +kernel
theorem d_md_expression_98 : decode prog_14_method_22_code 98 = .ok (.iconst 3, 1) := by decide +kernel
theorem d_md_expression_99 : decode prog_14_method_22_code 99 = .ok (.if_icmp .ne (33), 3) := by decide +kernel
theorem d_md_expression_102 : decode prog_14_method_22_code 102 = .ok (.aload_n 0, 1) := by decide +kernel
theorem d_md_expression_103 : decode prog_14_method_22_code 103 = .ok (.getfield 220, 3) := by decide +kernel
theorem d_md_expression_106 : decode prog_14_method_22_code 106 = .ok (.ifCond .le (26), 3) := by decide +kernel
theorem d_md_expression_109 : decode prog_14_method_22_code 109 = .ok (.aload_n 0, 1) := by decide +kernel
theorem d_md_expression_110 : decode prog_14_method_22_code 110 = .ok (.getfield 94, 3) := by decide +kernel
theorem d_md_expression_113 : decode prog_14_method_22_code 113 = .ok (.aload_n 0, 1) := by decide +kernel
theorem d_md_expression_114 : decode prog_14_method_22_code 114 = .ok (.getfield 220, 3) := by decide +kernel
theorem d_md_expression_117 : decode prog_14_method_22_code 117 = .ok (.iconst 1, 1) := by decide +kernel
theorem d_md_expression_118 : decode prog_14_method_22_code 118 = .ok (.isub, 1) := by decide +kernel
theorem d_md_expression_119 : decode prog_14_method_22_code 119 = .ok (.iaload, 1) := by decide +kernel
theorem d_md_expression_120 : decode prog_14_method_22_code 120 = .ok (.invokestatic 223, 3) := by decide +kernel
theorem d_md_expression_123 : decode prog_14_method_22_code 123 = .ok (.iconst 3, 1) := by decide +kernel
theorem d_md_expression_124 : decode prog_14_method_22_code 124 = .ok (.if_icmp .ne (8), 3) := by decide +kernel
theorem d_md_expression_127 : decode prog_14_method_22_code 127 = .ok (.aload_n 0, 1) := by decide +kernel
theorem d_md_expression_128 : decode prog_14_method_22_code 128 = .ok (.invokevirtual 213, 3) := by decide +kernel
theorem d_md_expression_131 : decode prog_14_method_22_code 131 = .ok (.ireturn, 1) := by decide +kernel
theorem d_md_expression_132 : decode prog_14_method_22_code 132 = .ok (.aload_n 0, 1) := by decide +kernel
theorem d_md_expression_133 : decode prog_14_method_22_code 133 = .ok (.aload_n 0, 1) := by decide +kernel
theorem d_md_expression_134 : decode prog_14_method_22_code 134 = .ok (.getfield 13, 3) := by decide +kernel
theorem d_md_expression_137 : decode prog_14_method_22_code 137 = .ok (.aload_n 0, 1) := by decide +kernel
theorem d_md_expression_138 : decode prog_14_method_22_code 138 = .ok (.getfield 207, 3) := by decide +kernel
theorem d_md_expression_141 : decode prog_14_method_22_code 141 = .ok (.iaload, 1) := by decide +kernel
theorem d_md_expression_142 : decode prog_14_method_22_code 142 = .ok (.aload_n 0, 1) := by decide +kernel
theorem d_md_expression_143 : decode prog_14_method_22_code 143 = .ok (.getfield 19, 3) := by decide +kernel
theorem d_md_expression_146 : decode prog_14_method_22_code 146 = .ok (.aload_n 0, 1) := by decide +kernel
theorem d_md_expression_147 : decode prog_14_method_22_code 147 = .ok (.getfield 207, 3) := by decide +kernel
theorem d_md_expression_150 : decode prog_14_method_22_code 150 = .ok (.iaload, 1) := by decide +kernel
theorem d_md_expression_151 : decode prog_14_method_22_code 151 = .ok (.aload_n 0, 1) := by decide +kernel
theorem d_md_expression_152 : decode prog_14_method_22_code 152 = .ok (.getfield 217, 3) := by decide +kernel
theorem d_md_expression_155 : decode prog_14_method_22_code 155 = .ok (.invokevirtual 245, 3) := by decide +kernel
theorem d_md_expression_158 : decode prog_14_method_22_code 158 = .ok (.iload 4, 2) := by decide +kernel
theorem d_md_expression_160 : decode prog_14_method_22_code 160 = .ok (.iconst 3, 1) := by decide +kernel
theorem d_md_expression_161 : decode prog_14_method_22_code 161 = .ok (.if_icmp .ge (20), 3) := by decide +kernel
theorem d_md_expression_164 : decode prog_14_method_22_code 164 = .ok (.aload_n 0, 1) := by decide +kernel
theorem d_md_expression_165 : decode prog_14_method_22_code 165 = .ok (.sipush 205, 3) := by decide +kernel
theorem d_md_expression_168 : decode prog_14_method_22_code 168 = .ok (.iconst 0, 1) := by decide +kernel
theorem d_md_expression_169 : decode prog_14_method_22_code 169 = .ok (.aload_n 0, 1) := by decide +kernel
theorem d_md_expression_170 : decode prog_14_method_22_code 170 = .ok (.getfield 19, 3) := by decide +kernel
theorem d_md_expression_173 : decode prog_14_method_22_code 173 = .ok (.aload_n 0, 1) := by decide +kernel
theorem d_md_expression_174 : decode prog_14_method_22_code 174 = .ok (.getfield 207, 3) := by decide +kernel
theorem d_md_expression_177 : decode prog_14_method_22_code 177 = .ok (.iaload, 1) := by decide +kernel
theorem d_md_expression_178 : decode prog_14_method_22_code 178 = .ok (.invokevirtual 226, 3) := by decide +kernel
theorem d_md_expression_181 : decode prog_14_method_22_code 181 = .ok (.aload_n 0, 1) := by decide +kernel
theorem d_md_expression_182 : decode prog_14_method_22_code 182 = .ok (.iconst 1, 1) := by decide +kernel
theorem d_md_expression_183 : decode prog_14_method_22_code 183 = .ok (.putfield 254, 3) := by decide +kernel
theorem d_md_expression_186 : decode prog_14_method_22_code 186 = .ok (.aload_n 0, 1) := by decide +kernel
theorem d_md_expression_187 : decode prog_14_method_22_code 187 = .ok (.dup, 1) := by decide +kernel
theorem d_md_expression_188 : decode prog_14_method_22_code 188 = .ok (.getfield 207, 3) := by decide +kernel
theorem d_md_expression_191 : decode prog_14_method_22_code 191 = .ok (.iconst 1, 1) := by decide +kernel
theorem d_md_expression_192 : decode prog_14_method_22_code 192 = .ok (.iadd, 1) := by decide +kernel
theorem d_md_expression_193 : decode prog_14_method_22_code 193 = .ok (.putfield 207, 3) := by decide +kernel
theorem d_md_expression_196 : decode prog_14_method_22_code 196 = .ok (.goto (45), 3) := by decide +kernel
theorem d_md_expression_199 : decode prog_14_method_22_code 199 = .ok (.aload_n 0, 1) := by decide +kernel
theorem d_md_expression_200 : decode prog_14_method_22_code 200 = .ok (.getfield 251, 3) := by decide +kernel
theorem d_md_expression_203 : decode prog_14_method_22_code 203 = .ok (.ifCond .le (24), 3) := by decide +kernel
theorem d_md_expression_206 : decode prog_14_method_22_code 206 = .ok (.aload_n 0, 1) := by decide +kernel
theorem d_md_expression_207 : decode prog_14_method_22_code 207 = .ok (.getfield 13, 3) := by decide +kernel
theorem d_md_expression_210 : decode prog_14_method_22_code 210 = .ok (.aload_n 0, 1) := by decide +kernel
theorem d_md_expression_211 : decode prog_14_method_22_code 211 = .ok (.getfield 207, 3) := by decide +kernel
theorem d_md_expression_214 : decode prog_14_method_22_code 214 = .ok (.iaload, 1) := by decide +kernel
theorem d_md_expression_215 : decode prog_14_method_22_code 215 = .ok (.bipush 41, 2) := by decide +kernel
theorem d_md_expression_217 : decode prog_14_method_22_code 217 = .ok (.if_icmp .ne (10), 3) := by decide +kernel
theorem d_md_expression_220 : decode prog_14_method_22_code 220 = .ok (.aload_n 0, 1) := by decide +kernel
theorem d_md_expression_221 : decode prog_14_method_22_code 221 = .ok (.invokevirtual 266, 3) := by decide +kernel
theorem d_md_expression_224 : decode prog_14_method_22_code 224 = .ok (.goto (17), 3) := by decide +kernel
theorem d_md_expression_227 : decode prog_14_method_22_code 227 = .ok (.aload_n 0, 1) := by decide +kernel
theorem d_md_expression_228 : decode prog_14_method_22_code 228 = .ok (.getfield 251, 3) := by decide +kernel
theorem d_md_expression_231 : decode prog_14_method_22_code 231 = .ok (.ifCond .le (8), 3) := by decide +kernel
theorem d_md_expression_234 : decode prog_14_method_22_code 234 = .ok (.aload_n 0, 1) := by decide +kernel
theorem d_md_expression_235 : decode prog_14_method_22_code 235 = .ok (.invokevirtual 213, 3) := by decide +kernel
theorem d_md_expression_238 : decode prog_14_method_22_code 238 = .ok (.ireturn, 1) := by decide +kernel
theorem d_md_expression_239 : decode prog_14_method_22_code 239 = .ok (.iconst 0, 1) := by decide +kernel
theorem d_md_expression_240 : decode prog_14_method_22_code 240 = .ok (.istore_n 3, 1) := by decide +kernel
theorem d_md_expression_241 : decode prog_14_method_22_code 241 = .ok (.goto (-214), 3) := by decide +kernel
theorem d_md_expression_244 : decode prog_14_method_22_code 244 = .ok (.aload_n 0, 1) := by decide +kernel
theorem d_md_expression_245 : decode prog_14_method_22_code 245 = .ok (.iconst 1, 1) := by decide +kernel
theorem d_md_expression_246 : decode prog_14_method_22_code 246 = .ok (.invokevirtual 258, 3) := by decide +kernel
theorem d_md_expression_249 : decode prog_14_method_22_code 249 = .ok (.iconst 1, 1) := by decide +kernel
theorem d_md_expression_250 : decode prog_14_method_22_code 250 = .ok (.ireturn, 1) := by decide +kernel
theorem d_md_note_0 : decode prog_14_method_23_code 0 = .ok (.aload_n 0, 1) := by decide +kernel
theorem d_md_note_1 : decode prog_14_method_23_code 1 = .ok (.getfield 103, 3) := by decide +kernel
theorem d_md_note_4 : decode prog_14_method_23_code 4 = .ok (.aload_n 0, 1) := by decide +kernel
theorem d_md_note_5 : decode prog_14_method_23_code 5 = .ok (.getfield 269, 3) := by decide +kernel
theorem d_md_note_8 : decode prog_14_method_23_code 8 = .ok (.iload_n 1, 1) := by decide +kernel
theorem d_md_note_9 : decode prog_14_method_23_code 9 = .ok (.iastore, 1) := by decide +kernel
theorem d_md_note_10 : decode prog_14_method_23_code 10 = .ok (.aload_n 0, 1) := by decide +kernel
theorem d_md_note_11 : decode prog_14_method_23_code 11 = .ok (.getfield 106, 3) := by decide +kernel
theorem d_md_note_14 : decode prog_14_method_23_code 14 = .ok (.aload_n 0, 1) := by decide +kernel
theorem d_md_note_15 : decode prog_14_method_23_code 15 = .ok (.getfield 269, 3) := by decide +kernel
theorem d_md_note_18 : decode prog_14_method_23_code 18 = .ok (.iload_n 2, 1) := by decide +kernel
theorem d_md_note_19 : decode prog_14_method_23_code 19 = .ok (.iastore, 1) := by decide +kernel
theorem d_md_note_20 : decode prog_14_method_23_code 20 = .ok (.aload_n 0, 1) := by decide +kernel
theorem d_md_note_21 : decode prog_14_method_23_code 21 = .ok (.getfield 109, 3) := by decide +kernel
theorem d_md_note_24 : decode prog_14_method_23_code 24 = .ok (.aload_n 0, 1) := by decide +kernel
theorem d_md_note_25 : decode prog_14_method_23_code 25 = .ok (.getfield 269, 3) := by decide +kernel
theorem d_md_note_28 : decode prog_14_method_23_code 28 = .ok (.iload_n 3, 1) := by decide +kernel
theorem d_md_note_29 : decode prog_14_method_23_code 29 = .ok (.iastore, 1) := by decide +kernel
theorem d_md_note_30 : decode prog_14_method_23_code 30 = .ok (.aload_n 0, 1) := by decide +kernel
theorem d_md_note_31 : decode prog_14_method_23_code 31 = .ok (.getfield 112, 3) := by decide +kernel
theorem d_md_note_34 : decode prog_14_method_23_code 34 = .ok (.aload_n 0, 1) := by decide +kernel
theorem d_md_note_35 : decode prog_14_method_23_code 35 = .ok (.getfield 269, 3) := by decide +kernel
theorem d_md_note_38 : decode prog_14_method_23_code 38 = .ok (.iload 4, 2) := by decide +kernel
theorem d_md_note_40 : decode prog_14_method_23_code 40 = .ok (.iastore, 1) := by decide +kernel
theorem d_md_note_41 : decode prog_14_method_23_code 41 = .ok (.aload_n 0, 1) := by decide +kernel
theorem d_md_note_42 : decode prog_14_method_23_code 42 = .ok (.dup, 1) := by decide +kernel
theorem d_md_note_43 : decode prog_14_method_23_code 43 = .ok (.getfield 269, 3) := by decide +kernel
theorem d_md_note_46 : decode prog_14_method_23_code 46 = .ok (.iconst 1, 1) := by decide +kernel
theorem d_md_note_47 : decode prog_14_method_23_code 47 = .ok (.iadd, 1) := by decide +kernel
theorem d_md_note_48 : decode prog_14_method_23_code 48 = .ok (.putfield 269, 3) := by decide +kernel
theorem d_md_note_51 : decode prog_14_method_23_code 51 = .ok (.return_, 1) := by decide +kernel
theorem d_md_found_0 : decode prog_14_method_24_code 0 = .ok (.aload_n 0, 1) := by decide +kernel
theorem d_md_found_1 : decode prog_14_method_24_code 1 = .ok (.getfield 272, 3) := by decide +kernel
theorem d_md_found_4 : decode prog_14_method_24_code 4 = .ok (.ifCond .eq (27), 3) := by decide +kernel
theorem d_md_found_7 : decode prog_14_method_24_code 7 = .ok (.iload_n 2, 1) := by decide +kernel
theorem d_md_found_8 : decode prog_14_method_24_code 8 = .ok (.aload_n 0, 1) := by decide +kernel
theorem d_md_found_9 : decode prog_14_method_24_code 9 = .ok (.getfield 118, 3) := by decide +kernel
theorem d_md_found_12 : decode prog_14_method_24_code 12 = .ok (.if_icmp .lt (19), 3) := by decide +kernel
theorem d_md_found_15 : decode prog_14_method_24_code 15 = .ok (.iload_n 2, 1) := by decide +kernel
theorem d_md_found_16 : decode prog_14_method_24_code 16 = .ok (.aload_n 0, 1) := by decide +kernel
theorem d_md_found_17 : decode prog_14_method_24_code 17 = .ok (.getfield 118, 3) := by decide +kernel
theorem d_md_found_20 : decode prog_14_method_24_code 20 = .ok (.if_icmp .ne (21), 3) := by decide +kernel
theorem d_md_found_23 : decode prog_14_method_24_code 23 = .ok (.iload_n 1, 1) := by decide +kernel
theorem d_md_found_24 : decode prog_14_method_24_code 24 = .ok (.aload_n 0, 1) := by decide +kernel
theorem d_md_found_25 : decode prog_14_method_24_code 25 = .ok (.getfield 272, 3) := by decide +kernel
theorem d_md_found_28 : decode prog_14_method_24_code 28 = .ok (.if_icmp .ge (13), 3) := by decide +kernel
theorem d_md_found_31 : decode prog_14_method_24_code 31 = .ok (.aload_n 0, 1) := by decide +kernel
theorem d_md_found_32 : decode prog_14_method_24_code 32 = .ok (.iload_n 1, 1) := by decide +kernel
theorem d_md_found_33 : decode prog_14_method_24_code 33 = .ok (.putfield 272, 3) := by decide +kernel
theorem d_md_found_36 : decode prog_14_method_24_code 36 = .ok (.aload_n 0, 1) := by decide +kernel
theorem d_md_found_37 : decode prog_14_method_24_code 37 = .ok (.iload_n 2, 1) := by decide +kernel
theorem d_md_found_38 : decode prog_14_method_24_code 38 = .ok (.putfield 118, 3) := by decide +kernel
theorem d_md_found_41 : decode prog_14_method_24_code 41 = .ok (.return_, 1) := by decide +kernel
theorem d_md_begin_0 : decode prog_14_method_25_code 0 = .ok (.aload_n 0, 1) := by decide +kernel
theorem d_md_begin_1 : decode prog_14_method_25_code 1 = .ok (.getfield 37, 3) := by decide +kernel
theorem d_md_begin_4 : decode prog_14_method_25_code 4 = .ok (.aload_n 0, 1) := by decide +kernel
theorem d_md_begin_5 : decode prog_14_method_25_code 5 = .ok (.getfield 275, 3) := by decide +kernel
theorem d_md_begin_8 : decode prog_14_method_25_code 8 = .ok (.iload_n 1, 1) := by decide +kernel
theorem d_md_begin_9 : decode prog_14_method_25_code 9 = .ok (.iastore, 1) := by decide +kernel
theorem d_md_begin_10 : decode prog_14_method_25_code 10 = .ok (.aload_n 0, 1) := by decide +kernel
theorem d_md_begin_11 : decode prog_14_method_25_code 11 = .ok (.getfield 40, 3) := by decide +kernel
theorem d_md_begin_14 : decode prog_14_method_25_code 14 = .ok (.aload_n 0, 1) := by decide +kernel
theorem d_md_begin_15 : decode prog_14_method_25_code 15 = .ok (.getfield 275, 3) := by decide +kernel
theorem d_md_begin_18 : decode prog_14_method_25_code 18 = .ok (.iload_n 1, 1) := by decide +kernel
theorem d_md_begin_19 : decode prog_14_method_25_code 19 = .ok (.bipush 9, 2) := by decide +kernel
theorem d_md_begin_21 : decode prog_14_method_25_code 21 = .ok (.if_icmp .ne (10), 3) := by decide +kernel
theorem d_md_begin_24 : decode prog_14_method_25_code 24 = .ok (.aload_n 0, 1) := by decide +kernel
theorem d_md_begin_25 : decode prog_14_method_25_code 25 = .ok (.getfield 278, 3) := by decide +kernel
theorem d_md_begin_28 : decode prog_14_method_25_code 28 = .ok (.goto (7), 3) := by decide +kernel
theorem d_md_begin_31 : decode prog_14_method_25_code 31 = .ok (.aload_n 0, 1) := by decide +kernel
theorem d_md_begin_32 : decode prog_14_method_25_code 32 = .ok (.getfield 281, 3) := by decide +kernel
theorem d_md_begin_35 : decode prog_14_method_25_code 35 = .ok (.iastore, 1) := by decide +kernel
theorem d_md_begin_36 : decode prog_14_method_25_code 36 = .ok (.aload_n 0, 1) := by decide +kernel
theorem d_md_begin_37 : decode prog_14_method_25_code 37 = .ok (.getfield 43, 3) := by decide +kernel
theorem d_md_begin_40 : decode prog_14_method_25_code 40 = .ok (.aload_n 0, 1) := by decide +kernel
theorem d_md_begin_41 : decode prog_14_method_25_code 41 = .ok (.getfield 275, 3) := by decide +kernel
theorem d_md_begin_44 : decode prog_14_method_25_code 44 = .ok (.iconst (-1), 1) := by decide +kernel
theorem d_md_begin_45 : decode prog_14_method_25_code 45 = .ok (.iastore, 1) := by decide +kernel
theorem d_md_begin_46 : decode prog_14_method_25_code 46 = .ok (.aload_n 0, 1) := by decide +kernel
theorem d_md_begin_47 : decode prog_14_method_25_code 47 = .ok (.getfield 46, 3) := by decide +kernel
theorem d_md_begin_50 : decode prog_14_method_25_code 50 = .ok (.aload_n 0, 1) := by decide +kernel
theorem d_md_begin_51 : decode prog_14_method_25_code 51 = .ok (.getfield 275, 3) := by decide +kernel
theorem d_md_begin_54 : decode prog_14_method_25_code 54 = .ok (.aload_n 0, 1) := by decide +kernel
theorem d_md_begin_55 : decode prog_14_method_25_code 55 = .ok (.getfield 217, 3) := by decide +kernel
theorem d_md_begin_58 : decode prog_14_method_25_code 58 = .ok (.iastore, 1) := by decide +kernel
theorem d_md_begin_59 : decode prog_14_method_25_code 59 = .ok (.aload_n 0, 1) := by decide +kernel
theorem d_md_begin_60 : decode prog_14_method_25_code 60 = .ok (.getfield 52, 3) := by decide +kernel
theorem d_md_begin_63 : decode prog_14_method_25_code 63 = .ok (.aload_n 0, 1) := by decide +kernel
theorem d_md_begin_64 : decode prog_14_method_25_code 64 = .ok (.getfield 275, 3) := by decide +kernel
theorem d_md_begin_67 : decode prog_14_method_25_code 67 = .ok (.aload_n 0, 1) := by decide +kernel
theorem d_md_begin_68 : decode prog_14_method_25_code 68 = .ok (.getfield 19, 3) := by decide +kernel
theorem d_md_begin_71 : decode prog_14_method_25_code 71 = .ok (.aload_n 0, 1) := by decide +kernel
theorem d_md_begin_72 : decode prog_14_method_25_code 72 = .ok (.getfield 207, 3) := by decide +kernel
theorem d_md_begin_75 : decode prog_14_method_25_code 75 = .ok (.iaload, 1) := by decide +kernel
theorem d_md_begin_76 : decode prog_14_method_25_code 76 = .ok (.iastore, 1) := by decide +kernel
theorem d_md_begin_77 : decode prog_14_method_25_code 77 = .ok (.return_, 1) := by decide +kernel
theorem d_md_finish_0 : decode prog_14_method_26_code 0 = .ok (.aload_n 0, 1) := by decide +kernel
theorem d_md_finish_1 : decode prog_14_method_26_code 1 = .ok (.getfield 49, 3) := by decide +kernel
theorem d_md_finish_4 : decode prog_14_method_26_code 4 = .ok (.aload_n 0, 1) := by decide +kernel
theorem d_md_finish_5 : decode prog_14_method_26_code 5 = .ok (.getfield 275, 3) := by decide +kernel
theorem d_md_finish_8 : decode prog_14_method_26_code 8 = .ok (.aload_n 0, 1) := by decide +kernel
theorem d_md_finish_9 : decode prog_14_method_26_code 9 = .ok (.getfield 217, 3) := by decide +kernel
theorem d_md_finish_12 : decode prog_14_method_26_code 12 = .ok (.iastore, 1) := by decide +kernel
theorem d_md_finish_13 : decode prog_14_method_26_code 13 = .ok (.aload_n 0, 1) := by decide +kernel
theorem d_md_finish_14 : decode prog_14_method_26_code 14 = .ok (.getfield 55, 3) := by decide +kernel
theorem d_md_finish_17 : decode prog_14_method_26_code 17 = .ok (.aload_n 0, 1) := by decide +kernel
theorem d_md_finish_18 : decode prog_14_method_26_code 18 = .ok (.getfield 275, 3) := by decide +kernel
theorem d_md_finish_21 : decode prog_14_method_26_code 21 = .ok (.aload_n 0, 1) := by decide +kernel
theorem d_md_finish_22 : decode prog_14_method_26_code 22 = .ok (.getfield 22, 3) := by decide +kernel
theorem d_md_finish_25 : decode prog_14_method_26_code 25 = .ok (.aload_n 0, 1) := by decide +kernel
theorem d_md_finish_26 : decode prog_14_method_26_code 26 = .ok (.getfield 207, 3) := by decide +kernel
theorem d_md_finish_29 : decode prog_14_method_26_code 29 = .ok (.iconst 1, 1) := by decide +kernel
theorem d_md_finish_30 : decode prog_14_method_26_code 30 = .ok (.isub, 1) := by decide +kernel
theorem d_md_finish_31 : decode prog_14_method_26_code 31 = .ok (.iaload, 1) := by decide +kernel
theorem d_md_finish_32 : decode prog_14_method_26_code 32 = .ok (.iastore, 1) := by decide +kernel
theorem d_md_finish_33 : decode prog_14_method_26_code 33 = .ok (.aload_n 0, 1) := by decide +kernel
theorem d_md_finish_34 : decode prog_14_method_26_code 34 = .ok (.dup, 1) := by decide +kernel
theorem d_md_finish_35 : decode prog_14_method_26_code 35 = .ok (.getfield 275, 3) := by decide +kernel
theorem d_md_finish_38 : decode prog_14_method_26_code 38 = .ok (.iconst 1, 1) := by decide +kernel
theorem d_md_finish_39 : decode prog_14_method_26_code 39 = .ok (.iadd, 1) := by decide +kernel
theorem d_md_finish_40 : decode prog_14_method_26_code 40 = .ok (.putfield 275, 3) := by decide +kernel
theorem d_md_finish_43 : decode prog_14_method_26_code 43 = .ok (.return_, 1) := by decide +kernel
theorem d_md_step_0 : decode prog_14_method_27_code 0 = .ok (.aload_n 0, 1) := by decide +kernel
theorem d_md_step_1 : decode prog_14_method_27_code 1 = .ok (.getfield 13, 3) := by decide +kernel
theorem d_md_step_4 : decode prog_14_method_27_code 4 = .ok (.aload_n 0, 1) := by decide +kernel
theorem d_md_step_5 : decode prog_14_method_27_code 5 = .ok (.getfield 207, 3) := by decide +kernel
theorem d_md_step_8 : decode prog_14_method_27_code 8 = .ok (.iaload, 1) := by decide +kernel
theorem d_md_step_9 : decode prog_14_method_27_code 9 = .ok (.iconst 2, 1) := by decide +kernel
theorem d_md_step_10 : decode prog_14_method_27_code 10 = .ok (.if_icmp .ne (31), 3) := by decide +kernel
theorem d_md_step_13 : decode prog_14_method_27_code 13 = .ok (.aload_n 0, 1) := by decide +kernel
theorem d_md_step_14 : decode prog_14_method_27_code 14 = .ok (.getfield 13, 3) := by decide +kernel
theorem d_md_step_17 : decode prog_14_method_27_code 17 = .ok (.aload_n 0, 1) := by decide +kernel
theorem d_md_step_18 : decode prog_14_method_27_code 18 = .ok (.getfield 207, 3) := by decide +kernel
theorem d_md_step_21 : decode prog_14_method_27_code 21 = .ok (.iconst 1, 1) := by decide +kernel
theorem d_md_step_22 : decode prog_14_method_27_code 22 = .ok (.iadd, 1) := by decide +kernel
theorem d_md_step_23 : decode prog_14_method_27_code 23 = .ok (.iaload, 1) := by decide +kernel
theorem d_md_step_24 : decode prog_14_method_27_code 24 = .ok (.bipush 61, 2) := by decide +kernel
theorem d_md_step_26 : decode prog_14_method_27_code 26 = .ok (.if_icmp .ne (15), 3) := by decide +kernel
theorem d_md_step_29 : decode prog_14_method_27_code 29 = .ok (.aload_n 0, 1) := by decide +kernel
theorem d_md_step_30 : decode prog_14_method_27_code 30 = .ok (.getfield 16, 3) := by decide +kernel
theorem d_md_step_33 : decode prog_14_method_27_code 33 = .ok (.aload_n 0, 1) := by decide +kernel
theorem d_md_step_34 : decode prog_14_method_27_code 34 = .ok (.getfield 207, 3) := by decide +kernel
theorem d_md_step_37 : decode prog_14_method_27_code 37 = .ok (.iaload, 1) := by decide +kernel
theorem d_md_step_38 : decode prog_14_method_27_code 38 = .ok (.goto (4), 3) := by decide +kernel
theorem d_md_step_41 : decode prog_14_method_27_code 41 = .ok (.iconst (-1), 1) := by decide +kernel
theorem d_md_step_42 : decode prog_14_method_27_code 42 = .ok (.istore_n 2, 1) := by decide +kernel
theorem d_md_step_43 : decode prog_14_method_27_code 43 = .ok (.aload_n 0, 1) := by decide +kernel
theorem d_md_step_44 : decode prog_14_method_27_code 44 = .ok (.getfield 19, 3) := by decide +kernel
theorem d_md_step_47 : decode prog_14_method_27_code 47 = .ok (.aload_n 0, 1) := by decide +kernel
theorem d_md_step_48 : decode prog_14_method_27_code 48 = .ok (.getfield 207, 3) := by decide +kernel
theorem d_md_step_51 : decode prog_14_method_27_code 51 = .ok (.iaload, 1) := by decide +kernel
theorem d_md_step_52 : decode prog_14_method_27_code 52 = .ok (.istore_n 3, 1) := by decide +kernel
theorem d_md_step_53 : decode prog_14_method_27_code 53 = .ok (.aload_n 0, 1) := by decide +kernel
theorem d_md_step_54 : decode prog_14_method_27_code 54 = .ok (.iload_n 1, 1) := by decide +kernel
theorem d_md_step_55 : decode prog_14_method_27_code 55 = .ok (.invokevirtual 284, 3) := by decide +kernel
theorem d_md_step_58 : decode prog_14_method_27_code 58 = .ok (.aload_n 0, 1) := by decide +kernel
theorem d_md_step_59 : decode prog_14_method_27_code 59 = .ok (.getfield 43, 3) := by decide +kernel
theorem d_md_step_62 : decode prog_14_method_27_code 62 = .ok (.aload_n 0, 1) := by decide +kernel
theorem d_md_step_63 : decode prog_14_method_27_code 63 = .ok (.getfield 275, 3) := by decide +kernel
theorem d_md_step_66 : decode prog_14_method_27_code 66 = .ok (.iload_n 2, 1) := by decide +kernel
theorem d_md_step_67 : decode prog_14_method_27_code 67 = .ok (.iastore, 1) := by decide +kernel
theorem d_md_step_68 : decode prog_14_method_27_code 68 = .ok (.iload_n 2, 1) := by decide +kernel
theorem d_md_step_69 : decode prog_14_method_27_code 69 = .ok (.ifCond .lt (13), 3) := by decide +kernel
theorem d_md_step_72 : decode prog_14_method_27_code 72 = .ok (.aload_n 0, 1) := by decide +kernel
theorem d_md_step_73 : decode prog_14_method_27_code 73 = .ok (.dup, 1) := by decide +kernel
theorem d_md_step_74 : decode prog_14_method_27_code 74 = .ok (.getfield 207, 3) := by decide +kernel
theorem d_md_step_77 : decode prog_14_method_27_code 77 = .ok (.iconst 2, 1) := by decide +kernel
theorem d_md_step_78 : decode prog_14_method_27_code 78 = .ok (.iadd, 1) := by decide +kernel
theorem d_md_step_79 : decode prog_14_method_27_code 79 = .ok (.putfield 207, 3) := by decide +kernel
theorem d_md_step_82 : decode prog_14_method_27_code 82 = .ok (.aload_n 0, 1) := by decide +kernel
theorem d_md_step_83 : decode prog_14_method_27_code 83 = .ok (.iconst 1, 1) := by decide +kernel
theorem d_md_step_84 : decode prog_14_method_27_code 84 = .ok (.iconst 0, 1) := by decide +kernel
theorem d_md_step_85 : decode prog_14_method_27_code 85 = .ok (.invokevirtual 287, 3) := by decide +kernel
theorem d_md_step_88 : decode prog_14_method_27_code 88 = .ok (.ifCond .ne (5), 3) := by decide +kernel
theorem d_md_step_91 : decode prog_14_method_27_code 91 = .ok (.iconst 0, 1) := by decide +kernel
theorem d_md_step_92 : decode prog_14_method_27_code 92 = .ok (.ireturn, 1) := by decide +kernel
theorem d_md_step_93 : decode prog_14_method_27_code 93 = .ok (.iload_n 2, 1) := by decide +kernel
theorem d_md_step_94 : decode prog_14_method_27_code 94 = .ok (.ifCond .lt (11), 3) := by decide +kernel
theorem d_md_step_97 : decode prog_14_method_27_code 97 = .ok (.aload_n 0, 1) := by decide +kernel
theorem d_md_step_98 : decode prog_14_method_27_code 98 = .ok (.iconst 2, 1) := by decide +kernel
theorem d_md_step_99 : decode prog_14_method_27_code 99 = .ok (.iload_n 3, 1) := by decide +kernel
theorem d_md_step_100 : decode prog_14_method_27_code 100 = .ok (.iload_n 2, 1) := by decide +kernel
theorem d_md_step_101 : decode prog_14_method_27_code 101 = .ok (.iconst 0, 1) := by decide +kernel
theorem d_md_step_102 : decode prog_14_method_27_code 102 = .ok (.invokevirtual 236, 3) := by decide +kernel
theorem d_md_step_105 : decode prog_14_method_27_code 105 = .ok (.aload_n 0, 1) := by decide +kernel
theorem d_md_step_106 : decode prog_14_method_27_code 106 = .ok (.invokevirtual 291, 3) := by decide +kernel
theorem d_md_step_109 : decode prog_14_method_27_code 109 = .ok (.iconst 1, 1) := by decide +kernel
theorem d_md_step_110 : decode prog_14_method_27_code 110 = .ok (.ireturn, 1) := by decide +kernel
theorem d_md_asked_0 : decode prog_14_method_28_code 0 = .ok (.aload_n 0, 1) := by decide +kernel
theorem d_md_asked_1 : decode prog_14_method_28_code 1 = .ok (.iload_n 1, 1) := by decide +kernel
theorem d_md_asked_2 : decode prog_14_method_28_code 2 = .ok (.invokevirtual 284, 3) := by decide +kernel
theorem d_md_asked_5 : decode prog_14_method_28_code 5 = .ok (.aload_n 0, 1) := by decide +kernel
theorem d_md_asked_6 : decode prog_14_method_28_code 6 = .ok (.iconst 1, 1) := by decide +kernel
theorem d_md_asked_7 : decode prog_14_method_28_code 7 = .ok (.iload_n 1, 1) := by decide +kernel
theorem d_md_asked_8 : decode prog_14_method_28_code 8 = .ok (.iconst 4, 1) := by decide +kernel
theorem d_md_asked_9 : decode prog_14_method_28_code 9 = .ok (.if_icmp .ne (7), 3) := by decide +kernel
theorem d_md_asked_12 : decode prog_14_method_28_code 12 = .ok (.iconst 1, 1) := by decide +kernel
theorem d_md_asked_13 : decode prog_14_method_28_code 13 = .ok (.goto (4), 3) := by decide +kernel
theorem d_md_asked_16 : decode prog_14_method_28_code 16 = .ok (.iconst 0, 1) := by decide +kernel
theorem d_md_asked_17 : decode prog_14_method_28_code 17 = .ok (.invokevirtual 287, 3) := by decide +kernel
theorem d_md_asked_20 : decode prog_14_method_28_code 20 = .ok (.ifCond .ne (5), 3) := by decide +kernel
theorem d_md_asked_23 : decode prog_14_method_28_code 23 = .ok (.iconst 0, 1) := by decide +kernel
theorem d_md_asked_24 : decode prog_14_method_28_code 24 = .ok (.ireturn, 1) := by decide +kernel
theorem d_md_asked_25 : decode prog_14_method_28_code 25 = .ok (.aload_n 0, 1) := by decide +kernel
theorem d_md_asked_26 : decode prog_14_method_28_code 26 = .ok (.invokevirtual 291, 3) := by decide +kernel
theorem d_md_asked_29 : decode prog_14_method_28_code 29 = .ok (.iconst 1, 1) := by decide +kernel
theorem d_md_asked_30 : decode prog_14_method_28_code 30 = .ok (.ireturn, 1) := by decide +kernel
theorem d_md_isWhom_0 : decode prog_14_method_29_code 0 = .ok (.aload_n 0, 1) := by decide +kernel
theorem d_md_isWhom_1 : decode prog_14_method_29_code 1 = .ok (.getfield 13, 3) := by decide +kernel
theorem d_md_isWhom_4 : decode prog_14_method_29_code 4 = .ok (.iload_n 1, 1) := by decide +kernel
theorem d_md_isWhom_5 : decode prog_14_method_29_code 5 = .ok (.iaload, 1) := by decide +kernel
theorem d_md_isWhom_6 : decode prog_14_method_29_code 6 = .ok (.bipush 77, 2) := by decide +kernel
theorem d_md_isWhom_8 : decode prog_14_method_29_code 8 = .ok (.if_icmp .eq (14), 3) := by decide +kernel
theorem d_md_isWhom_11 : decode prog_14_method_29_code 11 = .ok (.aload_n 0, 1) := by decide +kernel
theorem d_md_isWhom_12 : decode prog_14_method_29_code 12 = .ok (.getfield 13, 3) := by decide +kernel
theorem d_md_isWhom_15 : decode prog_14_method_29_code 15 = .ok (.iload_n 1, 1) := by decide +kernel
theorem d_md_isWhom_16 : decode prog_14_method_29_code 16 = .ok (.iaload, 1) := by decide +kernel
theorem d_md_isWhom_17 : decode prog_14_method_29_code 17 = .ok (.bipush 78, 2) := by decide +kernel
theorem d_md_isWhom_19 : decode prog_14_method_29_code 19 = .ok (.if_icmp .ne (7), 3) := by decide +kernel
theorem d_md_isWhom_22 : decode prog_14_method_29_code 22 = .ok (.iconst 1, 1) := by decide +kernel
theorem d_md_isWhom_23 : decode prog_14_method_29_code 23 = .ok (.goto (4), 3) := by decide +kernel
