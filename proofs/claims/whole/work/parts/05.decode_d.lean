theorem dX12_init_0 : decode cX12_init 0 = .ok (.aload_n 0, 1) := by decide +kernel
theorem dX12_init_1 : decode cX12_init 1 = .ok (.invokespecial 7, 3) := by decide +kernel
theorem dX12_init_4 : decode cX12_init 4 = .ok (.aload_n 0, 1) := by decide +kernel
theorem dX12_init_5 : decode cX12_init 5 = .ok (.sipush 2000, 3) := by decide +kernel
theorem dX12_init_8 : decode cX12_init 8 = .ok (.newarray .byte, 2) := by decide +kernel
theorem dX12_init_10 : decode cX12_init 10 = .ok (.putfield 13, 3) := by decide +kernel
theorem dX12_init_13 : decode cX12_init 13 = .ok (.aload_n 0, 1) := by decide +kernel
theorem dX12_init_14 : decode cX12_init 14 = .ok (.sipush 2000, 3) := by decide +kernel
theorem dX12_init_17 : decode cX12_init 17 = .ok (.newarray .byte, 2) := by decide +kernel
theorem dX12_init_19 : decode cX12_init 19 = .ok (.putfield 17, 3) := by decide +kernel
theorem dX12_init_22 : decode cX12_init 22 = .ok (.aload_n 0, 1) := by decide +kernel
theorem dX12_init_23 : decode cX12_init 23 = .ok (.sipush 403, 3) := by decide +kernel
theorem dX12_init_26 : decode cX12_init 26 = .ok (.newarray .int, 2) := by decide +kernel
theorem dX12_init_28 : decode cX12_init 28 = .ok (.putfield 20, 3) := by decide +kernel
theorem dX12_init_31 : decode cX12_init 31 = .ok (.aload_n 0, 1) := by decide +kernel
theorem dX12_init_32 : decode cX12_init 32 = .ok (.sipush 403, 3) := by decide +kernel
theorem dX12_init_35 : decode cX12_init 35 = .ok (.newarray .int, 2) := by decide +kernel
theorem dX12_init_37 : decode cX12_init 37 = .ok (.putfield 24, 3) := by decide +kernel
theorem dX12_init_40 : decode cX12_init 40 = .ok (.aload_n 0, 1) := by decide +kernel
theorem dX12_init_41 : decode cX12_init 41 = .ok (.sipush 403, 3) := by decide +kernel
theorem dX12_init_44 : decode cX12_init 44 = .ok (.newarray .int, 2) := by decide +kernel
theorem dX12_init_46 : decode cX12_init 46 = .ok (.putfield 27, 3) := by decide +kernel
theorem dX12_init_49 : decode cX12_init 49 = .ok (.aload_n 0, 1) := by decide +kernel
theorem dX12_init_50 : decode cX12_init 50 = .ok (.sipush 403, 3) := by decide +kernel
theorem dX12_init_53 : decode cX12_init 53 = .ok (.newarray .long, 2) := by decide +kernel
theorem dX12_init_55 : decode cX12_init 55 = .ok (.putfield 30, 3) := by decide +kernel
theorem dX12_init_58 : decode cX12_init 58 = .ok (.aload_n 0, 1) := by decide +kernel
theorem dX12_init_59 : decode cX12_init 59 = .ok (.bipush 24, 2) := by decide +kernel
theorem dX12_init_61 : decode cX12_init 61 = .ok (.newarray .long, 2) := by decide +kernel
theorem dX12_init_63 : decode cX12_init 63 = .ok (.putfield 34, 3) := by decide +kernel
theorem dX12_init_66 : decode cX12_init 66 = .ok (.aload_n 0, 1) := by decide +kernel
theorem dX12_init_67 : decode cX12_init 67 = .ok (.iconst (-1), 1) := by decide +kernel
theorem dX12_init_68 : decode cX12_init 68 = .ok (.putfield 37, 3) := by decide +kernel
theorem dX12_init_71 : decode cX12_init 71 = .ok (.aload_n 0, 1) := by decide +kernel
theorem dX12_init_72 : decode cX12_init 72 = .ok (.bipush 7, 2) := by decide +kernel
theorem dX12_init_74 : decode cX12_init 74 = .ok (.newarray .int, 2) := by decide +kernel
theorem dX12_init_76 : decode cX12_init 76 = .ok (.putfield 40, 3) := by decide +kernel
theorem dX12_init_79 : decode cX12_init 79 = .ok (.aload_n 0, 1) := by decide +kernel
theorem dX12_init_80 : decode cX12_init 80 = .ok (.bipush 7, 2) := by decide +kernel
theorem dX12_init_82 : decode cX12_init 82 = .ok (.newarray .int, 2) := by decide +kernel
theorem dX12_init_84 : decode cX12_init 84 = .ok (.putfield 43, 3) := by decide +kernel
theorem dX12_init_87 : decode cX12_init 87 = .ok (.aload_n 0, 1) := by decide +kernel
theorem dX12_init_88 : decode cX12_init 88 = .ok (.sipush 168, 3) := by decide +kernel
theorem dX12_init_91 : decode cX12_init 91 = .ok (.newarray .int, 2) := by decide +kernel
theorem dX12_init_93 : decode cX12_init 93 = .ok (.putfield 46, 3) := by decide +kernel
theorem dX12_init_96 : decode cX12_init 96 = .ok (.aload_n 0, 1) := by decide +kernel
theorem dX12_init_97 : decode cX12_init 97 = .ok (.sipush 168, 3) := by decide +kernel
theorem dX12_init_100 : decode cX12_init 100 = .ok (.newarray .long, 2) := by decide +kernel
theorem dX12_init_102 : decode cX12_init 102 = .ok (.putfield 49, 3) := by decide +kernel
theorem dX12_init_105 : decode cX12_init 105 = .ok (.aload_n 0, 1) := by decide +kernel
theorem dX12_init_106 : decode cX12_init 106 = .ok (.sipush 168, 3) := by decide +kernel
theorem dX12_init_109 : decode cX12_init 109 = .ok (.newarray .int, 2) := by decide +kernel
theorem dX12_init_111 : decode cX12_init 111 = .ok (.putfield 52, 3) := by decide +kernel
theorem dX12_init_114 : decode cX12_init 114 = .ok (.aload_n 0, 1) := by decide +kernel
theorem dX12_init_115 : decode cX12_init 115 = .ok (.sipush 168, 3) := by decide +kernel
theorem dX12_init_118 : decode cX12_init 118 = .ok (.newarray .int, 2) := by decide +kernel
theorem dX12_init_120 : decode cX12_init 120 = .ok (.putfield 55, 3) := by decide +kernel
theorem dX12_init_123 : decode cX12_init 123 = .ok (.aload_n 0, 1) := by decide +kernel
theorem dX12_init_124 : decode cX12_init 124 = .ok (.sipush 168, 3) := by decide +kernel
theorem dX12_init_127 : decode cX12_init 127 = .ok (.newarray .int, 2) := by decide +kernel
theorem dX12_init_129 : decode cX12_init 129 = .ok (.putfield 58, 3) := by decide +kernel
theorem dX12_init_132 : decode cX12_init 132 = .ok (.aload_n 0, 1) := by decide +kernel
theorem dX12_init_133 : decode cX12_init 133 = .ok (.sipush 168, 3) := by decide +kernel
theorem dX12_init_136 : decode cX12_init 136 = .ok (.newarray .int, 2) := by decide +kernel
theorem dX12_init_138 : decode cX12_init 138 = .ok (.putfield 61, 3) := by decide +kernel
theorem dX12_init_141 : decode cX12_init 141 = .ok (.aload_n 0, 1) := by decide +kernel
theorem dX12_init_142 : decode cX12_init 142 = .ok (.sipush 980, 3) := by decide +kernel
theorem dX12_init_145 : decode cX12_init 145 = .ok (.newarray .int, 2) := by decide +kernel
theorem dX12_init_147 : decode cX12_init 147 = .ok (.putfield 64, 3) := by decide +kernel
theorem dX12_init_150 : decode cX12_init 150 = .ok (.aload_n 0, 1) := by decide +kernel
theorem dX12_init_151 : decode cX12_init 151 = .ok (.sipush 980, 3) := by decide +kernel
theorem dX12_init_154 : decode cX12_init 154 = .ok (.newarray .boolean, 2) := by decide +kernel
theorem dX12_init_156 : decode cX12_init 156 = .ok (.putfield 67, 3) := by decide +kernel
theorem dX12_init_159 : decode cX12_init 159 = .ok (.aload_n 0, 1) := by decide +kernel
theorem dX12_init_160 : decode cX12_init 160 = .ok (.sipush 980, 3) := by decide +kernel
theorem dX12_init_163 : decode cX12_init 163 = .ok (.newarray .boolean, 2) := by decide +kernel
theorem dX12_init_165 : decode cX12_init 165 = .ok (.putfield 71, 3) := by decide +kernel
theorem dX12_init_168 : decode cX12_init 168 = .ok (.aload_n 0, 1) := by decide +kernel
theorem dX12_init_169 : decode cX12_init 169 = .ok (.sipush 980, 3) := by decide +kernel
theorem dX12_init_172 : decode cX12_init 172 = .ok (.newarray .int, 2) := by decide +kernel
theorem dX12_init_174 : decode cX12_init 174 = .ok (.putfield 74, 3) := by decide +kernel
theorem dX12_init_177 : decode cX12_init 177 = .ok (.aload_n 0, 1) := by decide +kernel
theorem dX12_init_178 : decode cX12_init 178 = .ok (.sipush 980, 3) := by decide +kernel
theorem dX12_init_181 : decode cX12_init 181 = .ok (.newarray .int, 2) := by decide +kernel
theorem dX12_init_183 : decode cX12_init 183 = .ok (.putfield 77, 3) := by decide +kernel
theorem dX12_init_186 : decode cX12_init 186 = .ok (.aload_n 0, 1) := by decide +kernel
theorem dX12_init_187 : decode cX12_init 187 = .ok (.sipush 980, 3) := by decide +kernel
theorem dX12_init_190 : decode cX12_init 190 = .ok (.newarray .int, 2) := by decide +kernel
theorem dX12_init_192 : decode cX12_init 192 = .ok (.putfield 80, 3) := by decide +kernel
theorem dX12_init_195 : decode cX12_init 195 = .ok (.aload_n 0, 1) := by decide +kernel
theorem dX12_init_196 : decode cX12_init 196 = .ok (.sipush 2800, 3) := by decide +kernel
theorem dX12_init_199 : decode cX12_init 199 = .ok (.newarray .int, 2) := by decide +kernel
theorem dX12_init_201 : decode cX12_init 201 = .ok (.putfield 83, 3) := by decide +kernel
theorem dX12_init_204 : decode cX12_init 204 = .ok (.aload_n 0, 1) := by decide +kernel
theorem dX12_init_205 : decode cX12_init 205 = .ok (.sipush 2800, 3) := by decide +kernel
theorem dX12_init_208 : decode cX12_init 208 = .ok (.newarray .int, 2) := by decide +kernel
theorem dX12_init_210 : decode cX12_init 210 = .ok (.putfield 86, 3) := by decide +kernel
theorem dX12_init_213 : decode cX12_init 213 = .ok (.aload_n 0, 1) := by decide +kernel
theorem dX12_init_214 : decode cX12_init 214 = .ok (.bipush 64, 2) := by decide +kernel
theorem dX12_init_216 : decode cX12_init 216 = .ok (.newarray .int, 2) := by decide +kernel
theorem dX12_init_218 : decode cX12_init 218 = .ok (.putfield 89, 3) := by decide +kernel
theorem dX12_init_221 : decode cX12_init 221 = .ok (.aload_n 0, 1) := by decide +kernel
theorem dX12_init_222 : decode cX12_init 222 = .ok (.bipush 12, 2) := by decide +kernel
theorem dX12_init_224 : decode cX12_init 224 = .ok (.newarray .int, 2) := by decide +kernel
theorem dX12_init_226 : decode cX12_init 226 = .ok (.putfield 92, 3) := by decide +kernel
theorem dX12_init_229 : decode cX12_init 229 = .ok (.aload_n 0, 1) := by decide +kernel
theorem dX12_init_230 : decode cX12_init 230 = .ok (.sipush 400, 3) := by decide +kernel
theorem dX12_init_233 : decode cX12_init 233 = .ok (.newarray .int, 2) := by decide +kernel
theorem dX12_init_235 : decode cX12_init 235 = .ok (.putfield 95, 3) := by decide +kernel
theorem dX12_init_238 : decode cX12_init 238 = .ok (.aload_n 0, 1) := by decide +kernel
theorem dX12_init_239 : decode cX12_init 239 = .ok (.iconst (-1), 1) := by decide +kernel
theorem dX12_init_240 : decode cX12_init 240 = .ok (.putfield 98, 3) := by decide +kernel
theorem dX12_init_243 : decode cX12_init 243 = .ok (.aload_n 0, 1) := by decide +kernel
theorem dX12_init_244 : decode cX12_init 244 = .ok (.sipush 144, 3) := by decide +kernel
theorem dX12_init_247 : decode cX12_init 247 = .ok (.newarray .int, 2) := by decide +kernel
theorem dX12_init_249 : decode cX12_init 249 = .ok (.putfield 101, 3) := by decide +kernel
theorem dX12_init_252 : decode cX12_init 252 = .ok (.aload_n 0, 1) := by decide +kernel
theorem dX12_init_253 : decode cX12_init 253 = .ok (.sipush 180, 3) := by decide +kernel
theorem dX12_init_256 : decode cX12_init 256 = .ok (.newarray .int, 2) := by decide +kernel
theorem dX12_init_258 : decode cX12_init 258 = .ok (.putfield 104, 3) := by decide +kernel
theorem dX12_init_261 : decode cX12_init 261 = .ok (.aload_n 0, 1) := by decide +kernel
theorem dX12_init_262 : decode cX12_init 262 = .ok (.sipush 180, 3) := by decide +kernel
theorem dX12_init_265 : decode cX12_init 265 = .ok (.newarray .int, 2) := by decide +kernel
theorem dX12_init_267 : decode cX12_init 267 = .ok (.putfield 107, 3) := by decide +kernel
theorem dX12_init_270 : decode cX12_init 270 = .ok (.aload_n 0, 1) := by decide +kernel
theorem dX12_init_271 : decode cX12_init 271 = .ok (.sipush 180, 3) := by decide +kernel
theorem dX12_init_274 : decode cX12_init 274 = .ok (.newarray .int, 2) := by decide +kernel
theorem dX12_init_276 : decode cX12_init 276 = .ok (.putfield 110, 3) := by decide +kernel
theorem dX12_init_279 : decode cX12_init 279 = .ok (.aload_n 0, 1) := by decide +kernel
theorem dX12_init_280 : decode cX12_init 280 = .ok (.sipush 180, 3) := by decide +kernel
theorem dX12_init_283 : decode cX12_init 283 = .ok (.newarray .int, 2) := by decide +kernel
theorem dX12_init_285 : decode cX12_init 285 = .ok (.putfield 113, 3) := by decide +kernel
theorem dX12_init_288 : decode cX12_init 288 = .ok (.aload_n 0, 1) := by decide +kernel
theorem dX12_init_289 : decode cX12_init 289 = .ok (.sipush 180, 3) := by decide +kernel
theorem dX12_init_292 : decode cX12_init 292 = .ok (.newarray .int, 2) := by decide +kernel
theorem dX12_init_294 : decode cX12_init 294 = .ok (.putfield 116, 3) := by decide +kernel
theorem dX12_init_297 : decode cX12_init 297 = .ok (.aload_n 0, 1) := by decide +kernel
theorem dX12_init_298 : decode cX12_init 298 = .ok (.sipush 180, 3) := by decide +kernel
theorem dX12_init_301 : decode cX12_init 301 = .ok (.newarray .int, 2) := by decide +kernel
theorem dX12_init_303 : decode cX12_init 303 = .ok (.putfield 119, 3) := by decide +kernel
theorem dX12_init_306 : decode cX12_init 306 = .ok (.aload_n 0, 1) := by decide +kernel
theorem dX12_init_307 : decode cX12_init 307 = .ok (.sipush 180, 3) := by decide +kernel
theorem dX12_init_310 : decode cX12_init 310 = .ok (.newarray .int, 2) := by decide +kernel
theorem dX12_init_312 : decode cX12_init 312 = .ok (.putfield 122, 3) := by decide +kernel
theorem dX12_init_315 : decode cX12_init 315 = .ok (.aload_n 0, 1) := by decide +kernel
theorem dX12_init_316 : decode cX12_init 316 = .ok (.sipush 180, 3) := by decide +kernel
theorem dX12_init_319 : decode cX12_init 319 = .ok (.newarray .int, 2) := by decide +kernel
theorem dX12_init_321 : decode cX12_init 321 = .ok (.putfield 125, 3) := by decide +kernel
theorem dX12_init_324 : decode cX12_init 324 = .ok (.aload_n 0, 1) := by decide +kernel
theorem dX12_init_325 : decode cX12_init 325 = .ok (.sipush 180, 3) := by decide +kernel
theorem dX12_init_328 : decode cX12_init 328 = .ok (.newarray .int, 2) := by decide +kernel
theorem dX12_init_330 : decode cX12_init 330 = .ok (.putfield 128, 3) := by decide +kernel
theorem dX12_init_333 : decode cX12_init 333 = .ok (.aload_n 0, 1) := by decide +kernel
theorem dX12_init_334 : decode cX12_init 334 = .ok (.bipush 36, 2) := by decide +kernel
theorem dX12_init_336 : decode cX12_init 336 = .ok (.newarray .int, 2) := by decide +kernel
theorem dX12_init_338 : decode cX12_init 338 = .ok (.putfield 131, 3) := by decide +kernel
theorem dX12_init_341 : decode cX12_init 341 = .ok (.aload_n 0, 1) := by decide +kernel
theorem dX12_init_342 : decode cX12_init 342 = .ok (.iconst 3, 1) := by decide +kernel
theorem dX12_init_343 : decode cX12_init 343 = .ok (.newarray .int, 2) := by decide +kernel
theorem dX12_init_345 : decode cX12_init 345 = .ok (.putfield 134, 3) := by decide +kernel
theorem dX12_init_348 : decode cX12_init 348 = .ok (.aload_n 0, 1) := by decide +kernel
theorem dX12_init_349 : decode cX12_init 349 = .ok (.sipush 169, 3) := by decide +kernel
theorem dX12_init_352 : decode cX12_init 352 = .ok (.newarray .int, 2) := by decide +kernel
theorem dX12_init_354 : decode cX12_init 354 = .ok (.putfield 137, 3) := by decide +kernel
theorem dX12_init_357 : decode cX12_init 357 = .ok (.aload_n 0, 1) := by decide +kernel
theorem dX12_init_358 : decode cX12_init 358 = .ok (.iconst 4, 1) := by decide +kernel
theorem dX12_init_359 : decode cX12_init 359 = .ok (.newarray .int, 2) := by decide +kernel
theorem dX12_init_361 : decode cX12_init 361 = .ok (.putfield 140, 3) := by decide +kernel
theorem dX12_init_364 : decode cX12_init 364 = .ok (.aload_n 0, 1) := by decide +kernel
theorem dX12_init_365 : decode cX12_init 365 = .ok (.iconst 4, 1) := by decide +kernel
theorem dX12_init_366 : decode cX12_init 366 = .ok (.newarray .int, 2) := by decide +kernel
theorem dX12_init_368 : decode cX12_init 368 = .ok (.putfield 143, 3) := by decide +kernel
theorem dX12_init_371 : decode cX12_init 371 = .ok (.aload_n 0, 1) := by decide +kernel
theorem dX12_init_372 : decode cX12_init 372 = .ok (.bipush 8, 2) := by decide +kernel
theorem dX12_init_374 : decode cX12_init 374 = .ok (.newarray .int, 2) := by decide +kernel
theorem dX12_init_376 : decode cX12_init 376 = .ok (.putfield 146, 3) := by decide +kernel
theorem dX12_init_379 : decode cX12_init 379 = .ok (.aload_n 0, 1) := by decide +kernel
theorem dX12_init_380 : decode cX12_init 380 = .ok (.bipush 8, 2) := by decide +kernel
theorem dX12_init_382 : decode cX12_init 382 = .ok (.newarray .int, 2) := by decide +kernel
theorem dX12_init_384 : decode cX12_init 384 = .ok (.putfield 149, 3) := by decide +kernel
theorem dX12_init_387 : decode cX12_init 387 = .ok (.aload_n 0, 1) := by decide +kernel
theorem dX12_init_388 : decode cX12_init 388 = .ok (.sipush 1000, 3) := by decide +kernel
theorem dX12_init_391 : decode cX12_init 391 = .ok (.newarray .boolean, 2) := by decide +kernel
theorem dX12_init_393 : decode cX12_init 393 = .ok (.putfield 152, 3) := by decide +kernel
theorem dX12_init_396 : decode cX12_init 396 = .ok (.aload_n 0, 1) := by decide +kernel
theorem dX12_init_397 : decode cX12_init 397 = .ok (.getfield 34, 3) := by decide +kernel
theorem dX12_init_400 : decode cX12_init 400 = .ok (.iconst 0, 1) := by decide +kernel
theorem dX12_init_401 : decode cX12_init 401 = .ok (.bipush 102, 2) := by decide +kernel
theorem dX12_init_403 : decode cX12_init 403 = .ok (.bipush 114, 2) := by decide +kernel
theorem dX12_init_405 : decode cX12_init 405 = .ok (.bipush 111, 2) := by decide +kernel
theorem dX12_init_407 : decode cX12_init 407 = .ok (.bipush 109, 2) := by decide +kernel
theorem dX12_init_409 : decode cX12_init 409 = .ok (.iconst 0, 1) := by decide +kernel
theorem dX12_init_410 : decode cX12_init 410 = .ok (.iconst 0, 1) := by decide +kernel
theorem dX12_init_411 : decode cX12_init 411 = .ok (.iconst 0, 1) := by decide +kernel
theorem dX12_init_412 : decode cX12_init 412 = .ok (.invokestatic 155, 3) := by decide +kernel
theorem dX12_init_415 : decode cX12_init 415 = .ok (.lastore, 1) := by decide +kernel
theorem dX12_init_416 : decode cX12_init 416 = .ok (.aload_n 0, 1) := by decide +kernel
theorem dX12_init_417 : decode cX12_init 417 = .ok (.getfield 34, 3) := by decide +kernel
theorem dX12_init_420 : decode cX12_init 420 = .ok (.iconst 1, 1) := by decide +kernel
theorem dX12_init_421 : decode cX12_init 421 = .ok (.bipush 114, 2) := by decide +kernel
theorem dX12_init_423 : decode cX12_init 423 = .ok (.bipush 105, 2) := by decide +kernel
theorem dX12_init_425 : decode cX12_init 425 = .ok (.bipush 103, 2) := by decide +kernel
theorem dX12_init_427 : decode cX12_init 427 = .ok (.bipush 104, 2) := by decide +kernel
theorem dX12_init_429 : decode cX12_init 429 = .ok (.bipush 116, 2) := by decide +kernel
theorem dX12_init_431 : decode cX12_init 431 = .ok (.iconst 0, 1) := by decide +kernel
theorem dX12_init_432 : decode cX12_init 432 = .ok (.iconst 0, 1) := by decide +kernel
theorem dX12_init_433 : decode cX12_init 433 = .ok (.invokestatic 155, 3) := by decide +kernel
theorem dX12_init_436 : decode cX12_init 436 = .ok (.lastore, 1) := by decide +kernel
theorem dX12_init_437 : decode cX12_init 437 = .ok (.aload_n 0, 1) := by decide +kernel
theorem dX12_init_438 : decode cX12_init 438 = .ok (.getfield 34, 3) := by decide +kernel
theorem dX12_init_441 : decode cX12_init 441 = .ok (.iconst 2, 1) := by decide +kernel
theorem dX12_init_442 : decode cX12_init 442 = .ok (.bipush 116, 2) := by decide +kernel
theorem dX12_init_444 : decode cX12_init 444 = .ok (.bipush 111, 2) := by decide +kernel
theorem dX12_init_446 : decode cX12_init 446 = .ok (.iconst 0, 1) := by decide +kernel
theorem dX12_init_447 : decode cX12_init 447 = .ok (.iconst 0, 1) := by decide +kernel
theorem dX12_init_448 : decode cX12_init 448 = .ok (.iconst 0, 1) := by decide +kernel
theorem dX12_init_449 : decode cX12_init 449 = .ok (.iconst 0, 1) := by decide +kernel
theorem dX12_init_450 : decode cX12_init 450 = .ok (.iconst 0, 1) := by decide +kernel
theorem dX12_init_451 : decode cX12_init 451 = .ok (.invokestatic 155, 3) := by decide +kernel
theorem dX12_init_454 : decode cX12_init 454 = .ok (.lastore, 1) := by decide +kernel
theorem dX12_init_455 : decode cX12_init 455 = .ok (.aload_n 0, 1) := by decide +kernel
theorem dX12_init_456 : decode cX12_init 456 = .ok (.getfield 34, 3) := by decide +kernel
theorem dX12_init_459 : decode cX12_init 459 = .ok (.iconst 3, 1) := by decide +kernel
theorem dX12_init_460 : decode cX12_init 460 = .ok (.bipush 105, 2) := by decide +kernel
theorem dX12_init_462 : decode cX12_init 462 = .ok (.bipush 102, 2) := by decide +kernel
theorem dX12_init_464 : decode cX12_init 464 = .ok (.iconst 0, 1) := by decide +kernel
theorem dX12_init_465 : decode cX12_init 465 = .ok (.iconst 0, 1) := by decide +kernel
theorem dX12_init_466 : decode cX12_init 466 = .ok (.iconst 0, 1) := by decide +kernel
theorem dX12_init_467 : decode cX12_init 467 = .ok (.iconst 0, 1) := by decide +kernel
theorem dX12_init_468 : decode cX12_init 468 = .ok (.iconst 0, 1) := by decide +kernel
theorem dX12_init_469 : decode cX12_init 469 = .ok (.invokestatic 155, 3) := by decide +kernel
theorem dX12_init_472 : decode cX12_init 472 = .ok (.lastore, 1) := by decide +kernel
theorem dX12_init_473 : decode cX12_init 473 = .ok (.aload_n 0, 1) := by decide +kernel
theorem dX12_init_474 : decode cX12_init 474 = .ok (.getfield 34, 3) := by decide +kernel
theorem dX12_init_477 : decode cX12_init 477 = .ok (.iconst 4, 1) := by decide +kernel
theorem dX12_init_478 : decode cX12_init 478 = .ok (.bipush 109, 2) := by decide +kernel
theorem dX12_init_480 : decode cX12_init 480 = .ok (.bipush 101, 2) := by decide +kernel
theorem dX12_init_482 : decode cX12_init 482 = .ok (.bipush 110, 2) := by decide +kernel
theorem dX12_init_484 : decode cX12_init 484 = .ok (.bipush 100, 2) := by decide +kernel
theorem dX12_init_486 : decode cX12_init 486 = .ok (.iconst 0, 1) := by decide +kernel
theorem dX12_init_487 : decode cX12_init 487 = .ok (.iconst 0, 1) := by decide +kernel
theorem dX12_init_488 : decode cX12_init 488 = .ok (.iconst 0, 1) := by decide +kernel
theorem dX12_init_489 : decode cX12_init 489 = .ok (.invokestatic 155, 3) := by decide +kernel
theorem dX12_init_492 : decode cX12_init 492 = .ok (.lastore, 1) := by decide +kernel
theorem dX12_init_493 : decode cX12_init 493 = .ok (.aload_n 0, 1) := by decide +kernel
theorem dX12_init_494 : decode cX12_init 494 = .ok (.getfield 34, 3) := by decide +kernel
theorem dX12_init_497 : decode cX12_init 497 = .ok (.iconst 5, 1) := by decide +kernel
theorem dX12_init_498 : decode cX12_init 498 = .ok (.bipush 98, 2) := by decide +kernel
theorem dX12_init_500 : decode cX12_init 500 = .ok (.bipush 97, 2) := by decide +kernel
theorem dX12_init_502 : decode cX12_init 502 = .ok (.bipush 114, 2) := by decide +kernel
theorem dX12_init_504 : decode cX12_init 504 = .ok (.iconst 0, 1) := by decide +kernel
theorem dX12_init_505 : decode cX12_init 505 = .ok (.iconst 0, 1) := by decide +kernel
theorem dX12_init_506 : decode cX12_init 506 = .ok (.iconst 0, 1) := by decide +kernel
theorem dX12_init_507 : decode cX12_init 507 = .ok (.iconst 0, 1) := by decide +kernel
theorem dX12_init_508 : decode cX12_init 508 = .ok (.invokestatic 155, 3) := by decide +kernel
theorem dX12_init_511 : decode cX12_init 511 = .ok (.lastore, 1) := by decide +kernel
theorem dX12_init_512 : decode cX12_init 512 = .ok (.aload_n 0, 1) := by decide +kernel
theorem dX12_init_513 : decode cX12_init 513 = .ok (.getfield 34, 3) := by decide +kernel
theorem dX12_init_516 : decode cX12_init 516 = .ok (.bipush 6, 2) := by decide +kernel
theorem dX12_init_518 : decode cX12_init 518 = .ok (.bipush 108, 2) := by decide +kernel
theorem dX12_init_520 : decode cX12_init 520 = .ok (.bipush 101, 2) := by decide +kernel
theorem dX12_init_522 : decode cX12_init 522 = .ok (.bipush 97, 2) := by decide +kernel
theorem dX12_init_524 : decode cX12_init 524 = .ok (.bipush 118, 2) := by decide +kernel
theorem dX12_init_526 : decode cX12_init 526 = .ok (.bipush 101, 2) := by decide +kernel
theorem dX12_init_528 : decode cX12_init 528 = .ok (.iconst 0, 1) := by decide +kernel
theorem dX12_init_529 : decode cX12_init 529 = .ok (.iconst 0, 1) := by decide +kernel
theorem dX12_init_530 : decode cX12_init 530 = .ok (.invokestatic 155, 3) := by decide +kernel
theorem dX12_init_533 : decode cX12_init 533 = .ok (.lastore, 1) := by decide +kernel
theorem dX12_init_534 : decode cX12_init 534 = .ok (.aload_n 0, 1) := by decide +kernel
theorem dX12_init_535 : decode cX12_init 535 = .ok (.getfield 34, 3) := by decide +kernel
theorem dX12_init_538 : decode cX12_init 538 = .ok (.bipush 7, 2) := by decide +kernel
theorem dX12_init_540 : decode cX12_init 540 = .ok (.bipush 99, 2) := by decide +kernel
theorem dX12_init_542 : decode cX12_init 542 = .ok (.bipush 111, 2) := by decide +kernel
theorem dX12_init_544 : decode cX12_init 544 = .ok (.bipush 117, 2) := by decide +kernel
theorem dX12_init_546 : decode cX12_init 546 = .ok (.bipush 114, 2) := by decide +kernel
theorem dX12_init_548 : decode cX12_init 548 = .ok (.bipush 116, 2) := by decide +kernel
theorem dX12_init_550 : decode cX12_init 550 = .ok (.iconst 0, 1) := by decide +kernel
theorem dX12_init_551 : decode cX12_init 551 = .ok (.iconst 0, 1) := by decide +kernel
theorem dX12_init_552 : decode cX12_init 552 = .ok (.invokestatic 155, 3) := by decide +kernel
theorem dX12_init_555 : decode cX12_init 555 = .ok (.lastore, 1) := by decide +kernel
theorem dX12_init_556 : decode cX12_init 556 = .ok (.aload_n 0, 1) := by decide +kernel
theorem dX12_init_557 : decode cX12_init 557 = .ok (.getfield 34, 3) := by decide +kernel
theorem dX12_init_560 : decode cX12_init 560 = .ok (.bipush 8, 2) := by decide +kernel
theorem dX12_init_562 : decode cX12_init 562 = .ok (.bipush 115, 2) := by decide +kernel
theorem dX12_init_564 : decode cX12_init 564 = .ok (.bipush 116, 2) := by decide +kernel
theorem dX12_init_566 : decode cX12_init 566 = .ok (.bipush 114, 2) := by decide +kernel
theorem dX12_init_568 : decode cX12_init 568 = .ok (.bipush 105, 2) := by decide +kernel
theorem dX12_init_570 : decode cX12_init 570 = .ok (.bipush 107, 2) := by decide +kernel
theorem dX12_init_572 : decode cX12_init 572 = .ok (.bipush 101, 2) := by decide +kernel
theorem dX12_init_574 : decode cX12_init 574 = .ok (.iconst 0, 1) := by decide +kernel
theorem dX12_init_575 : decode cX12_init 575 = .ok (.invokestatic 155, 3) := by decide +kernel
theorem dX12_init_578 : decode cX12_init 578 = .ok (.lastore, 1) := by decide +kernel
theorem dX12_init_579 : decode cX12_init 579 = .ok (.aload_n 0, 1) := by decide +kernel
theorem dX12_init_580 : decode cX12_init 580 = .ok (.getfield 34, 3) := by decide +kernel
theorem dX12_init_583 : decode cX12_init 583 = .ok (.bipush 9, 2) := by decide +kernel
theorem dX12_init_585 : decode cX12_init 585 = .ok (.bipush 111, 2) := by decide +kernel
theorem dX12_init_587 : decode cX12_init 587 = .ok (.bipush 114, 2) := by decide +kernel
theorem dX12_init_589 : decode cX12_init 589 = .ok (.iconst 0, 1) := by decide +kernel
theorem dX12_init_590 : decode cX12_init 590 = .ok (.iconst 0, 1) := by decide +kernel
theorem dX12_init_591 : decode cX12_init 591 = .ok (.iconst 0, 1) := by decide +kernel
theorem dX12_init_592 : decode cX12_init 592 = .ok (.iconst 0, 1) := by decide +kernel
theorem dX12_init_593 : decode cX12_init 593 = .ok (.iconst 0, 1) := by decide +kernel
theorem dX12_init_594 : decode cX12_init 594 = .ok (.invokestatic 155, 3) := by decide +kernel
theorem dX12_init_597 : decode cX12_init 597 = .ok (.lastore, 1) := by decide +kernel
theorem dX12_init_598 : decode cX12_init 598 = .ok (.aload_n 0, 1) := by decide +kernel
theorem dX12_init_599 : decode cX12_init 599 = .ok (.getfield 34, 3) := by decide +kernel
theorem dX12_init_602 : decode cX12_init 602 = .ok (.bipush 10, 2) := by decide +kernel
theorem dX12_init_604 : decode cX12_init 604 = .ok (.bipush 97, 2) := by decide +kernel
theorem dX12_init_606 : decode cX12_init 606 = .ok (.bipush 110, 2) := by decide +kernel
theorem dX12_init_608 : decode cX12_init 608 = .ok (.bipush 100, 2) := by decide +kernel
theorem dX12_init_610 : decode cX12_init 610 = .ok (.iconst 0, 1) := by decide +kernel
theorem dX12_init_611 : decode cX12_init 611 = .ok (.iconst 0, 1) := by decide +kernel
theorem dX12_init_612 : decode cX12_init 612 = .ok (.iconst 0, 1) := by decide +kernel
theorem dX12_init_613 : decode cX12_init 613 = .ok (.iconst 0, 1) := by decide +kernel
theorem dX12_init_614 : decode cX12_init 614 = .ok (.invokestatic 155, 3) := by decide +kernel
theorem dX12_init_617 : decode cX12_init 617 = .ok (.lastore, 1) := by decide +kernel
theorem dX12_init_618 : decode cX12_init 618 = .ok (.aload_n 0, 1) := by decide +kernel
theorem dX12_init_619 : decode cX12_init 619 = .ok (.getfield 34, 3) := by decide +kernel
theorem dX12_init_622 : decode cX12_init 622 = .ok (.bipush 11, 2) := by decide +kernel
theorem dX12_init_624 : decode cX12_init 624 = .ok (.bipush 110, 2) := by decide +kernel
theorem dX12_init_626 : decode cX12_init 626 = .ok (.bipush 111, 2) := by decide +kernel
theorem dX12_init_628 : decode cX12_init 628 = .ok (.bipush 116, 2) := by decide +kernel
theorem dX12_init_630 : decode cX12_init 630 = .ok (.iconst 0, 1) := by decide +kernel
theorem dX12_init_631 : decode cX12_init 631 = .ok (.iconst 0, 1) := by decide +kernel
theorem dX12_init_632 : decode cX12_init 632 = .ok (.iconst 0, 1) := by decide +kernel
theorem dX12_init_633 : decode cX12_init 633 = .ok (.iconst 0, 1) := by decide +kernel
theorem dX12_init_634 : decode cX12_init 634 = .ok (.invokestatic 155, 3) := by decide +kernel
theorem dX12_init_637 : decode cX12_init 637 = .ok (.lastore, 1) := by decide +kernel
theorem dX12_init_638 : decode cX12_init 638 = .ok (.aload_n 0, 1) := by decide +kernel
theorem dX12_init_639 : decode cX12_init 639 = .ok (.getfield 34, 3) := by decide +kernel
theorem dX12_init_642 : decode cX12_init 642 = .ok (.bipush 12, 2) := by decide +kernel
theorem dX12_init_644 : decode cX12_init 644 = .ok (.bipush 119, 2) := by decide +kernel
theorem dX12_init_646 : decode cX12_init 646 = .ok (.bipush 111, 2) := by decide +kernel
theorem dX12_init_648 : decode cX12_init 648 = .ok (.bipush 114, 2) := by decide +kernel
theorem dX12_init_650 : decode cX12_init 650 = .ok (.bipush 100, 2) := by decide +kernel
theorem dX12_init_652 : decode cX12_init 652 = .ok (.iconst 0, 1) := by decide +kernel
theorem dX12_init_653 : decode cX12_init 653 = .ok (.iconst 0, 1) := by decide +kernel
theorem dX12_init_654 : decode cX12_init 654 = .ok (.iconst 0, 1) := by decide +kernel
theorem dX12_init_655 : decode cX12_init 655 = .ok (.invokestatic 155, 3) := by decide +kernel
theorem dX12_init_658 : decode cX12_init 658 = .ok (.lastore, 1) := by decide +kernel
theorem dX12_init_659 : decode cX12_init 659 = .ok (.aload_n 0, 1) := by decide +kernel
theorem dX12_init_660 : decode cX12_init 660 = .ok (.getfield 34, 3) := by decide +kernel
theorem dX12_init_663 : decode cX12_init 663 = .ok (.bipush 13, 2) := by decide +kernel
theorem dX12_init_665 : decode cX12_init 665 = .ok (.bipush 119, 2) := by decide +kernel
theorem dX12_init_667 : decode cX12_init 667 = .ok (.bipush 97, 2) := by decide +kernel
theorem dX12_init_669 : decode cX12_init 669 = .ok (.bipush 115, 2) := by decide +kernel
theorem dX12_init_671 : decode cX12_init 671 = .ok (.iconst 0, 1) := by decide +kernel
theorem dX12_init_672 : decode cX12_init 672 = .ok (.iconst 0, 1) := by decide +kernel
theorem dX12_init_673 : decode cX12_init 673 = .ok (.iconst 0, 1) := by decide +kernel
theorem dX12_init_674 : decode cX12_init 674 = .ok (.iconst 0, 1) := by decide +kernel
theorem dX12_init_675 : decode cX12_init 675 = .ok (.invokestatic 155, 3) := by decide +kernel
theorem dX12_init_678 : decode cX12_init 678 = .ok (.lastore, 1) := by decide +kernel
theorem dX12_init_679 : decode cX12_init 679 = .ok (.aload_n 0, 1) := by decide +kernel
theorem dX12_init_680 : decode cX12_init 680 = .ok (.getfield 34, 3) := by decide +kernel
theorem dX12_init_683 : decode cX12_init 683 = .ok (.bipush 14, 2) := by decide +kernel
theorem dX12_init_685 : decode cX12_init 685 = .ok (.bipush 112, 2) := by decide +kernel
theorem dX12_init_687 : decode cX12_init 687 = .ok (.bipush 97, 2) := by decide +kernel
theorem dX12_init_689 : decode cX12_init 689 = .ok (.bipush 112, 2) := by decide +kernel
theorem dX12_init_691 : decode cX12_init 691 = .ok (.bipush 101, 2) := by decide +kernel
theorem dX12_init_693 : decode cX12_init 693 = .ok (.bipush 114, 2) := by decide +kernel
theorem dX12_init_695 : decode cX12_init 695 = .ok (.iconst 0, 1) := by decide +kernel
theorem dX12_init_696 : decode cX12_init 696 = .ok (.iconst 0, 1) := by decide +kernel
theorem dX12_init_697 : decode cX12_init 697 = .ok (.invokestatic 155, 3) := by decide +kernel
theorem dX12_init_700 : decode cX12_init 700 = .ok (.lastore, 1) := by decide +kernel
theorem dX12_init_701 : decode cX12_init 701 = .ok (.aload_n 0, 1) := by decide +kernel
theorem dX12_init_702 : decode cX12_init 702 = .ok (.getfield 34, 3) := by decide +kernel
theorem dX12_init_705 : decode cX12_init 705 = .ok (.bipush 15, 2) := by decide +kernel
theorem dX12_init_707 : decode cX12_init 707 = .ok (.bipush 115, 2) := by decide +kernel
theorem dX12_init_709 : decode cX12_init 709 = .ok (.bipush 111, 2) := by decide +kernel
theorem dX12_init_711 : decode cX12_init 711 = .ok (.bipush 114, 2) := by decide +kernel
theorem dX12_init_713 : decode cX12_init 713 = .ok (.bipush 116, 2) := by decide +kernel
theorem dX12_init_715 : decode cX12_init 715 = .ok (.iconst 0, 1) := by decide +kernel
theorem dX12_init_716 : decode cX12_init 716 = .ok (.iconst 0, 1) := by decide +kernel
theorem dX12_init_717 : decode cX12_init 717 = .ok (.iconst 0, 1) := by decide +kernel
theorem dX12_init_718 : decode cX12_init 718 = .ok (.invokestatic 155, 3) := by decide +kernel
theorem dX12_init_721 : decode cX12_init 721 = .ok (.lastore, 1) := by decide +kernel
theorem dX12_init_722 : decode cX12_init 722 = .ok (.aload_n 0, 1) := by decide +kernel
theorem dX12_init_723 : decode cX12_init 723 = .ok (.getfield 34, 3) := by decide +kernel
theorem dX12_init_726 : decode cX12_init 726 = .ok (.bipush 16, 2) := by decide +kernel
theorem dX12_init_728 : decode cX12_init 728 = .ok (.bipush 109, 2) := by decide +kernel
theorem dX12_init_730 : decode cX12_init 730 = .ok (.bipush 105, 2) := by decide +kernel
theorem dX12_init_732 : decode cX12_init 732 = .ok (.bipush 110, 2) := by decide +kernel
theorem dX12_init_734 : decode cX12_init 734 = .ok (.bipush 117, 2) := by decide +kernel
theorem dX12_init_736 : decode cX12_init 736 = .ok (.bipush 116, 2) := by decide +kernel
theorem dX12_init_738 : decode cX12_init 738 = .ok (.bipush 101, 2) := by decide +kernel
theorem dX12_init_740 : decode cX12_init 740 = .ok (.iconst 0, 1) := by decide +kernel
theorem dX12_init_741 : decode cX12_init 741 = .ok (.invokestatic 155, 3) := by decide +kernel
theorem dX12_init_744 : decode cX12_init 744 = .ok (.lastore, 1) := by decide +kernel
theorem dX12_init_745 : decode cX12_init 745 = .ok (.aload_n 0, 1) := by decide +kernel
theorem dX12_init_746 : decode cX12_init 746 = .ok (.getfield 34, 3) := by decide +kernel
theorem dX12_init_749 : decode cX12_init 749 = .ok (.bipush 17, 2) := by decide +kernel
theorem dX12_init_751 : decode cX12_init 751 = .ok (.bipush 109, 2) := by decide +kernel
theorem dX12_init_753 : decode cX12_init 753 = .ok (.bipush 101, 2) := by decide +kernel
theorem dX12_init_755 : decode cX12_init 755 = .ok (.bipush 109, 2) := by decide +kernel
theorem dX12_init_757 : decode cX12_init 757 = .ok (.bipush 98, 2) := by decide +kernel
theorem dX12_init_759 : decode cX12_init 759 = .ok (.bipush 101, 2) := by decide +kernel
theorem dX12_init_761 : decode cX12_init 761 = .ok (.bipush 114, 2) := by decide +kernel
theorem dX12_init_763 : decode cX12_init 763 = .ok (.iconst 0, 1) := by decide +kernel
theorem dX12_init_764 : decode cX12_init 764 = .ok (.invokestatic 155, 3) := by decide +kernel
theorem dX12_init_767 : decode cX12_init 767 = .ok (.lastore, 1) := by decide +kernel
theorem dX12_init_768 : decode cX12_init 768 = .ok (.aload_n 0, 1) := by decide +kernel
theorem dX12_init_769 : decode cX12_init 769 = .ok (.getfield 34, 3) := by decide +kernel
theorem dX12_init_772 : decode cX12_init 772 = .ok (.bipush 18, 2) := by decide +kernel
theorem dX12_init_774 : decode cX12_init 774 = .ok (.bipush 111, 2) := by decide +kernel
theorem dX12_init_776 : decode cX12_init 776 = .ok (.bipush 102, 2) := by decide +kernel
theorem dX12_init_778 : decode cX12_init 778 = .ok (.bipush 102, 2) := by decide +kernel
theorem dX12_init_780 : decode cX12_init 780 = .ok (.bipush 105, 2) := by decide +kernel
theorem dX12_init_782 : decode cX12_init 782 = .ok (.bipush 99, 2) := by decide +kernel
theorem dX12_init_784 : decode cX12_init 784 = .ok (.bipush 101, 2) := by decide +kernel
theorem dX12_init_786 : decode cX12_init 786 = .ok (.iconst 0, 1) := by decide +kernel
theorem dX12_init_787 : decode cX12_init 787 = .ok (.invokestatic 155, 3) := by decide +kernel
theorem dX12_init_790 : decode cX12_init 790 = .ok (.lastore, 1) := by decide +kernel
theorem dX12_init_791 : decode cX12_init 791 = .ok (.aload_n 0, 1) := by decide +kernel
theorem dX12_init_792 : decode cX12_init 792 = .ok (.getfield 34, 3) := by decide +kernel
theorem dX12_init_795 : decode cX12_init 795 = .ok (.bipush 19, 2) := by decide +kernel
theorem dX12_init_797 : decode cX12_init 797 = .ok (.bipush 100, 2) := by decide +kernel
theorem dX12_init_799 : decode cX12_init 799 = .ok (.bipush 97, 2) := by decide +kernel
theorem dX12_init_801 : decode cX12_init 801 = .ok (.bipush 121, 2) := by decide +kernel
theorem dX12_init_803 : decode cX12_init 803 = .ok (.bipush 115, 2) := by decide +kernel
theorem dX12_init_805 : decode cX12_init 805 = .ok (.iconst 0, 1) := by decide +kernel
theorem dX12_init_806 : decode cX12_init 806 = .ok (.iconst 0, 1) := by decide +kernel
theorem dX12_init_807 : decode cX12_init 807 = .ok (.iconst 0, 1) := by decide +kernel
theorem dX12_init_808 : decode cX12_init 808 = .ok (.invokestatic 155, 3) := by decide +kernel
theorem dX12_init_811 : decode cX12_init 811 = .ok (.lastore, 1) := by decide +kernel
theorem dX12_init_812 : decode cX12_init 812 = .ok (.aload_n 0, 1) := by decide +kernel
theorem dX12_init_813 : decode cX12_init 813 = .ok (.getfield 34, 3) := by decide +kernel
theorem dX12_init_816 : decode cX12_init 816 = .ok (.bipush 20, 2) := by decide +kernel
theorem dX12_init_818 : decode cX12_init 818 = .ok (.bipush 116, 2) := by decide +kernel
theorem dX12_init_820 : decode cX12_init 820 = .ok (.bipush 105, 2) := by decide +kernel
theorem dX12_init_822 : decode cX12_init 822 = .ok (.bipush 109, 2) := by decide +kernel
theorem dX12_init_824 : decode cX12_init 824 = .ok (.bipush 101, 2) := by decide +kernel
theorem dX12_init_826 : decode cX12_init 826 = .ok (.bipush 115, 2) := by decide +kernel
theorem dX12_init_828 : decode cX12_init 828 = .ok (.iconst 0, 1) := by decide +kernel
theorem dX12_init_829 : decode cX12_init 829 = .ok (.iconst 0, 1) := by decide +kernel
theorem dX12_init_830 : decode cX12_init 830 = .ok (.invokestatic 155, 3) := by decide +kernel
theorem dX12_init_833 : decode cX12_init 833 = .ok (.lastore, 1) := by decide +kernel
theorem dX12_init_834 : decode cX12_init 834 = .ok (.aload_n 0, 1) := by decide +kernel
theorem dX12_init_835 : decode cX12_init 835 = .ok (.getfield 34, 3) := by decide +kernel
theorem dX12_init_838 : decode cX12_init 838 = .ok (.bipush 21, 2) := by decide +kernel
theorem dX12_init_840 : decode cX12_init 840 = .ok (.bipush 104, 2) := by decide +kernel
theorem dX12_init_842 : decode cX12_init 842 = .ok (.bipush 101, 2) := by decide +kernel
theorem dX12_init_844 : decode cX12_init 844 = .ok (.bipush 97, 2) := by decide +kernel
theorem dX12_init_846 : decode cX12_init 846 = .ok (.bipush 114, 2) := by decide +kernel
theorem dX12_init_848 : decode cX12_init 848 = .ok (.bipush 100, 2) := by decide +kernel
theorem dX12_init_850 : decode cX12_init 850 = .ok (.iconst 0, 1) := by decide +kernel
theorem dX12_init_851 : decode cX12_init 851 = .ok (.iconst 0, 1) := by decide +kernel
theorem dX12_init_852 : decode cX12_init 852 = .ok (.invokestatic 155, 3) := by decide +kernel
theorem dX12_init_855 : decode cX12_init 855 = .ok (.lastore, 1) := by decide +kernel
theorem dX12_init_856 : decode cX12_init 856 = .ok (.aload_n 0, 1) := by decide +kernel
theorem dX12_init_857 : decode cX12_init 857 = .ok (.getfield 34, 3) := by decide +kernel
theorem dX12_init_860 : decode cX12_init 860 = .ok (.bipush 22, 2) := by decide +kernel
theorem dX12_init_862 : decode cX12_init 862 = .ok (.bipush 110, 2) := by decide +kernel
theorem dX12_init_864 : decode cX12_init 864 = .ok (.bipush 101, 2) := by decide +kernel
theorem dX12_init_866 : decode cX12_init 866 = .ok (.bipush 120, 2) := by decide +kernel
theorem dX12_init_868 : decode cX12_init 868 = .ok (.bipush 116, 2) := by decide +kernel
theorem dX12_init_870 : decode cX12_init 870 = .ok (.iconst 0, 1) := by decide +kernel
theorem dX12_init_871 : decode cX12_init 871 = .ok (.iconst 0, 1) := by decide +kernel
theorem dX12_init_872 : decode cX12_init 872 = .ok (.iconst 0, 1) := by decide +kernel
theorem dX12_init_873 : decode cX12_init 873 = .ok (.invokestatic 155, 3) := by decide +kernel
theorem dX12_init_876 : decode cX12_init 876 = .ok (.lastore, 1) := by decide +kernel
theorem dX12_init_877 : decode cX12_init 877 = .ok (.aload_n 0, 1) := by decide +kernel
theorem dX12_init_878 : decode cX12_init 878 = .ok (.getfield 34, 3) := by decide +kernel
theorem dX12_init_881 : decode cX12_init 881 = .ok (.bipush 23, 2) := by decide +kernel
theorem dX12_init_883 : decode cX12_init 883 = .ok (.bipush 108, 2) := by decide +kernel
theorem dX12_init_885 : decode cX12_init 885 = .ok (.bipush 105, 2) := by decide +kernel
theorem dX12_init_887 : decode cX12_init 887 = .ok (.bipush 110, 2) := by decide +kernel
theorem dX12_init_889 : decode cX12_init 889 = .ok (.bipush 101, 2) := by decide +kernel
theorem dX12_init_891 : decode cX12_init 891 = .ok (.bipush 115, 2) := by decide +kernel
theorem dX12_init_893 : decode cX12_init 893 = .ok (.iconst 0, 1) := by decide +kernel
theorem dX12_init_894 : decode cX12_init 894 = .ok (.iconst 0, 1) := by decide +kernel
theorem dX12_init_895 : decode cX12_init 895 = .ok (.invokestatic 155, 3) := by decide +kernel
theorem dX12_init_898 : decode cX12_init 898 = .ok (.lastore, 1) := by decide +kernel
theorem dX12_init_899 : decode cX12_init 899 = .ok (.iconst 0, 1) := by decide +kernel
theorem dX12_init_900 : decode cX12_init 900 = .ok (.istore_n 1, 1) := by decide +kernel
theorem dX12_init_901 : decode cX12_init 901 = .ok (.iload_n 1, 1) := by decide +kernel
theorem dX12_init_902 : decode cX12_init 902 = .ok (.iconst 4, 1) := by decide +kernel
theorem dX12_init_903 : decode cX12_init 903 = .ok (.if_icmp .ge 16, 3) := by decide +kernel
theorem dX12_init_906 : decode cX12_init 906 = .ok (.aload_n 0, 1) := by decide +kernel
theorem dX12_init_907 : decode cX12_init 907 = .ok (.getfield 140, 3) := by decide +kernel
theorem dX12_init_910 : decode cX12_init 910 = .ok (.iload_n 1, 1) := by decide +kernel
theorem dX12_init_911 : decode cX12_init 911 = .ok (.iconst 1, 1) := by decide +kernel
theorem dX12_init_912 : decode cX12_init 912 = .ok (.iastore, 1) := by decide +kernel
theorem dX12_init_913 : decode cX12_init 913 = .ok (.iinc 1 1, 3) := by decide +kernel
theorem dX12_init_916 : decode cX12_init 916 = .ok (.goto (-15), 3) := by decide +kernel
theorem dX12_init_919 : decode cX12_init 919 = .ok (.return_, 1) := by decide +kernel
theorem dX12_feed_0 : decode cX12_feed 0 = .ok (.aload_n 0, 1) := by decide +kernel
theorem dX12_feed_1 : decode cX12_feed 1 = .ok (.getfield 159, 3) := by decide +kernel
theorem dX12_feed_4 : decode cX12_feed 4 = .ok (.bipush 20, 2) := by decide +kernel
theorem dX12_feed_6 : decode cX12_feed 6 = .ok (.iadd, 1) := by decide +kernel
theorem dX12_feed_7 : decode cX12_feed 7 = .ok (.sipush 2000, 3) := by decide +kernel
theorem dX12_feed_10 : decode cX12_feed 10 = .ok (.if_icmp .le 5, 3) := by decide +kernel
theorem dX12_feed_13 : decode cX12_feed 13 = .ok (.iconst (-1), 1) := by decide +kernel
theorem dX12_feed_14 : decode cX12_feed 14 = .ok (.ireturn, 1) := by decide +kernel
theorem dX12_feed_15 : decode cX12_feed 15 = .ok (.aload_n 0, 1) := by decide +kernel
theorem dX12_feed_16 : decode cX12_feed 16 = .ok (.iload_n 1, 1) := by decide +kernel
theorem dX12_feed_17 : decode cX12_feed 17 = .ok (.invokevirtual 162, 3) := by decide +kernel
theorem dX12_feed_20 : decode cX12_feed 20 = .ok (.aload_n 0, 1) := by decide +kernel
theorem dX12_feed_21 : decode cX12_feed 21 = .ok (.iload_n 2, 1) := by decide +kernel
theorem dX12_feed_22 : decode cX12_feed 22 = .ok (.invokevirtual 162, 3) := by decide +kernel
theorem dX12_feed_25 : decode cX12_feed 25 = .ok (.aload_n 0, 1) := by decide +kernel
theorem dX12_feed_26 : decode cX12_feed 26 = .ok (.iload_n 3, 1) := by decide +kernel
theorem dX12_feed_27 : decode cX12_feed 27 = .ok (.invokevirtual 162, 3) := by decide +kernel
theorem dX12_feed_30 : decode cX12_feed 30 = .ok (.aload_n 0, 1) := by decide +kernel
theorem dX12_feed_31 : decode cX12_feed 31 = .ok (.iload 4, 2) := by decide +kernel
theorem dX12_feed_33 : decode cX12_feed 33 = .ok (.invokevirtual 162, 3) := by decide +kernel
theorem dX12_feed_36 : decode cX12_feed 36 = .ok (.aload_n 0, 1) := by decide +kernel
theorem dX12_feed_37 : decode cX12_feed 37 = .ok (.iload 5, 2) := by decide +kernel
theorem dX12_feed_39 : decode cX12_feed 39 = .ok (.invokevirtual 162, 3) := by decide +kernel
theorem dX12_feed_42 : decode cX12_feed 42 = .ok (.aload_n 0, 1) := by decide +kernel
theorem dX12_feed_43 : decode cX12_feed 43 = .ok (.getfield 159, 3) := by decide +kernel
theorem dX12_feed_46 : decode cX12_feed 46 = .ok (.ireturn, 1) := by decide +kernel
theorem dX12_put_0 : decode cX12_put 0 = .ok (.bipush 24, 2) := by decide +kernel
theorem dX12_put_2 : decode cX12_put 2 = .ok (.istore_n 2, 1) := by decide +kernel
theorem dX12_put_3 : decode cX12_put 3 = .ok (.iload_n 2, 1) := by decide +kernel
theorem dX12_put_4 : decode cX12_put 4 = .ok (.ifCond .lt 32, 3) := by decide +kernel
theorem dX12_put_7 : decode cX12_put 7 = .ok (.aload_n 0, 1) := by decide +kernel
theorem dX12_put_8 : decode cX12_put 8 = .ok (.getfield 13, 3) := by decide +kernel
theorem dX12_put_11 : decode cX12_put 11 = .ok (.aload_n 0, 1) := by decide +kernel
theorem dX12_put_12 : decode cX12_put 12 = .ok (.getfield 159, 3) := by decide +kernel
theorem dX12_put_15 : decode cX12_put 15 = .ok (.iload_n 1, 1) := by decide +kernel
theorem dX12_put_16 : decode cX12_put 16 = .ok (.iload_n 2, 1) := by decide +kernel
theorem dX12_put_17 : decode cX12_put 17 = .ok (.ishr, 1) := by decide +kernel
theorem dX12_put_18 : decode cX12_put 18 = .ok (.i2b, 1) := by decide +kernel
theorem dX12_put_19 : decode cX12_put 19 = .ok (.bastore, 1) := by decide +kernel
theorem dX12_put_20 : decode cX12_put 20 = .ok (.aload_n 0, 1) := by decide +kernel
theorem dX12_put_21 : decode cX12_put 21 = .ok (.dup, 1) := by decide +kernel
theorem dX12_put_22 : decode cX12_put 22 = .ok (.getfield 159, 3) := by decide +kernel
theorem dX12_put_25 : decode cX12_put 25 = .ok (.iconst 1, 1) := by decide +kernel
theorem dX12_put_26 : decode cX12_put 26 = .ok (.iadd, 1) := by decide +kernel
theorem dX12_put_27 : decode cX12_put 27 = .ok (.putfield 159, 3) := by decide +kernel
theorem dX12_put_30 : decode cX12_put 30 = .ok (.iinc 2 (-8), 3) := by decide +kernel
theorem dX12_put_33 : decode cX12_put 33 = .ok (.goto (-30), 3) := by decide +kernel
theorem dX12_put_36 : decode cX12_put 36 = .ok (.return_, 1) := by decide +kernel
theorem dX12_back_0 : decode cX12_back 0 = .ok (.iload_n 1, 1) := by decide +kernel
theorem dX12_back_1 : decode cX12_back 1 = .ok (.ifCond .lt 11, 3) := by decide +kernel
theorem dX12_back_4 : decode cX12_back 4 = .ok (.iload_n 1, 1) := by decide +kernel
theorem dX12_back_5 : decode cX12_back 5 = .ok (.aload_n 0, 1) := by decide +kernel
theorem dX12_back_6 : decode cX12_back 6 = .ok (.getfield 159, 3) := by decide +kernel
theorem dX12_back_9 : decode cX12_back 9 = .ok (.if_icmp .le 5, 3) := by decide +kernel
theorem dX12_back_12 : decode cX12_back 12 = .ok (.iconst (-1), 1) := by decide +kernel
theorem dX12_back_13 : decode cX12_back 13 = .ok (.ireturn, 1) := by decide +kernel
theorem dX12_back_14 : decode cX12_back 14 = .ok (.aload_n 0, 1) := by decide +kernel
theorem dX12_back_15 : decode cX12_back 15 = .ok (.dup, 1) := by decide +kernel
theorem dX12_back_16 : decode cX12_back 16 = .ok (.getfield 159, 3) := by decide +kernel
theorem dX12_back_19 : decode cX12_back 19 = .ok (.iload_n 1, 1) := by decide +kernel
theorem dX12_back_20 : decode cX12_back 20 = .ok (.isub, 1) := by decide +kernel
theorem dX12_back_21 : decode cX12_back 21 = .ok (.putfield 159, 3) := by decide +kernel
theorem dX12_back_24 : decode cX12_back 24 = .ok (.aload_n 0, 1) := by decide +kernel
theorem dX12_back_25 : decode cX12_back 25 = .ok (.getfield 159, 3) := by decide +kernel
theorem dX12_back_28 : decode cX12_back 28 = .ok (.ireturn, 1) := by decide +kernel
theorem dX12_byteAt_0 : decode cX12_byteAt 0 = .ok (.iload_n 1, 1) := by decide +kernel
theorem dX12_byteAt_1 : decode cX12_byteAt 1 = .ok (.aload_n 0, 1) := by decide +kernel
theorem dX12_byteAt_2 : decode cX12_byteAt 2 = .ok (.getfield 166, 3) := by decide +kernel
theorem dX12_byteAt_5 : decode cX12_byteAt 5 = .ok (.if_icmp .ge 16, 3) := by decide +kernel
theorem dX12_byteAt_8 : decode cX12_byteAt 8 = .ok (.aload_n 0, 1) := by decide +kernel
theorem dX12_byteAt_9 : decode cX12_byteAt 9 = .ok (.getfield 17, 3) := by decide +kernel
theorem dX12_byteAt_12 : decode cX12_byteAt 12 = .ok (.iload_n 1, 1) := by decide +kernel
theorem dX12_byteAt_13 : decode cX12_byteAt 13 = .ok (.baload, 1) := by decide +kernel
theorem dX12_byteAt_14 : decode cX12_byteAt 14 = .ok (.sipush 255, 3) := by decide +kernel
theorem dX12_byteAt_17 : decode cX12_byteAt 17 = .ok (.iand, 1) := by decide +kernel
theorem dX12_byteAt_18 : decode cX12_byteAt 18 = .ok (.goto 4, 3) := by decide +kernel
theorem dX12_byteAt_21 : decode cX12_byteAt 21 = .ok (.iconst 0, 1) := by decide +kernel
theorem dX12_byteAt_22 : decode cX12_byteAt 22 = .ok (.ireturn, 1) := by decide +kernel
theorem dX12_isDigit_0 : decode cX12_isDigit 0 = .ok (.iload_n 0, 1) := by decide +kernel
theorem dX12_isDigit_1 : decode cX12_isDigit 1 = .ok (.bipush 48, 2) := by decide +kernel
theorem dX12_isDigit_3 : decode cX12_isDigit 3 = .ok (.if_icmp .lt 13, 3) := by decide +kernel
theorem dX12_isDigit_6 : decode cX12_isDigit 6 = .ok (.iload_n 0, 1) := by decide +kernel
theorem dX12_isDigit_7 : decode cX12_isDigit 7 = .ok (.bipush 57, 2) := by decide +kernel
theorem dX12_isDigit_9 : decode cX12_isDigit 9 = .ok (.if_icmp .gt 7, 3) := by decide +kernel
theorem dX12_isDigit_12 : decode cX12_isDigit 12 = .ok (.iconst 1, 1) := by decide +kernel
theorem dX12_isDigit_13 : decode cX12_isDigit 13 = .ok (.goto 4, 3) := by decide +kernel
theorem dX12_isDigit_16 : decode cX12_isDigit 16 = .ok (.iconst 0, 1) := by decide +kernel
theorem dX12_isDigit_17 : decode cX12_isDigit 17 = .ok (.ireturn, 1) := by decide +kernel
theorem dX12_isLetter_0 : decode cX12_isLetter 0 = .ok (.iload_n 0, 1) := by decide +kernel
theorem dX12_isLetter_1 : decode cX12_isLetter 1 = .ok (.bipush 97, 2) := by decide +kernel
theorem dX12_isLetter_3 : decode cX12_isLetter 3 = .ok (.if_icmp .lt 13, 3) := by decide +kernel
theorem dX12_isLetter_6 : decode cX12_isLetter 6 = .ok (.iload_n 0, 1) := by decide +kernel
theorem dX12_isLetter_7 : decode cX12_isLetter 7 = .ok (.bipush 122, 2) := by decide +kernel
theorem dX12_isLetter_9 : decode cX12_isLetter 9 = .ok (.if_icmp .gt 7, 3) := by decide +kernel
theorem dX12_isLetter_12 : decode cX12_isLetter 12 = .ok (.iconst 1, 1) := by decide +kernel
theorem dX12_isLetter_13 : decode cX12_isLetter 13 = .ok (.goto 4, 3) := by decide +kernel
theorem dX12_isLetter_16 : decode cX12_isLetter 16 = .ok (.iconst 0, 1) := by decide +kernel
theorem dX12_isLetter_17 : decode cX12_isLetter 17 = .ok (.ireturn, 1) := by decide +kernel
theorem dX12_more_0 : decode cX12_more 0 = .ok (.iload_n 2, 1) := by decide +kernel
theorem dX12_more_1 : decode cX12_more 1 = .ok (.ifCond .ne 7, 3) := by decide +kernel
theorem dX12_more_4 : decode cX12_more 4 = .ok (.lload_n 0, 1) := by decide +kernel
theorem dX12_more_5 : decode cX12_more 5 = .ok (.goto 16, 3) := by decide +kernel
theorem dX12_more_8 : decode cX12_more 8 = .ok (.ldc2_w 169, 3) := by decide +kernel
theorem dX12_more_11 : decode cX12_more 11 = .ok (.lload_n 0, 1) := by decide +kernel
theorem dX12_more_12 : decode cX12_more 12 = .ok (.lmul, 1) := by decide +kernel
theorem dX12_more_13 : decode cX12_more 13 = .ok (.iload_n 2, 1) := by decide +kernel
theorem dX12_more_14 : decode cX12_more 14 = .ok (.bipush 97, 2) := by decide +kernel
theorem dX12_more_16 : decode cX12_more 16 = .ok (.isub, 1) := by decide +kernel
theorem dX12_more_17 : decode cX12_more 17 = .ok (.iconst 1, 1) := by decide +kernel
theorem dX12_more_18 : decode cX12_more 18 = .ok (.iadd, 1) := by decide +kernel
theorem dX12_more_19 : decode cX12_more 19 = .ok (.i2l, 1) := by decide +kernel
theorem dX12_more_20 : decode cX12_more 20 = .ok (.ladd, 1) := by decide +kernel
theorem dX12_more_21 : decode cX12_more 21 = .ok (.lreturn, 1) := by decide +kernel
theorem dX12_word_0 : decode cX12_word 0 = .ok (.lconst 0, 1) := by decide +kernel
theorem dX12_word_1 : decode cX12_word 1 = .ok (.iload_n 0, 1) := by decide +kernel
theorem dX12_word_2 : decode cX12_word 2 = .ok (.invokestatic 171, 3) := by decide +kernel
theorem dX12_word_5 : decode cX12_word 5 = .ok (.iload_n 1, 1) := by decide +kernel
theorem dX12_word_6 : decode cX12_word 6 = .ok (.invokestatic 171, 3) := by decide +kernel
theorem dX12_word_9 : decode cX12_word 9 = .ok (.iload_n 2, 1) := by decide +kernel
theorem dX12_word_10 : decode cX12_word 10 = .ok (.invokestatic 171, 3) := by decide +kernel
theorem dX12_word_13 : decode cX12_word 13 = .ok (.iload_n 3, 1) := by decide +kernel
theorem dX12_word_14 : decode cX12_word 14 = .ok (.invokestatic 171, 3) := by decide +kernel
theorem dX12_word_17 : decode cX12_word 17 = .ok (.iload 4, 2) := by decide +kernel
theorem dX12_word_19 : decode cX12_word 19 = .ok (.invokestatic 171, 3) := by decide +kernel
theorem dX12_word_22 : decode cX12_word 22 = .ok (.iload 5, 2) := by decide +kernel
theorem dX12_word_24 : decode cX12_word 24 = .ok (.invokestatic 171, 3) := by decide +kernel
theorem dX12_word_27 : decode cX12_word 27 = .ok (.iload 6, 2) := by decide +kernel
theorem dX12_word_29 : decode cX12_word 29 = .ok (.invokestatic 171, 3) := by decide +kernel
theorem dX12_word_32 : decode cX12_word 32 = .ok (.lreturn, 1) := by decide +kernel
theorem dX12_token_0 : decode cX12_token 0 = .ok (.aload_n 0, 1) := by decide +kernel
theorem dX12_token_1 : decode cX12_token 1 = .ok (.getfield 20, 3) := by decide +kernel
theorem dX12_token_4 : decode cX12_token 4 = .ok (.aload_n 0, 1) := by decide +kernel
theorem dX12_token_5 : decode cX12_token 5 = .ok (.getfield 175, 3) := by decide +kernel
theorem dX12_token_8 : decode cX12_token 8 = .ok (.iload_n 1, 1) := by decide +kernel
theorem dX12_token_9 : decode cX12_token 9 = .ok (.iastore, 1) := by decide +kernel
theorem dX12_token_10 : decode cX12_token 10 = .ok (.aload_n 0, 1) := by decide +kernel
theorem dX12_token_11 : decode cX12_token 11 = .ok (.getfield 24, 3) := by decide +kernel
theorem dX12_token_14 : decode cX12_token 14 = .ok (.aload_n 0, 1) := by decide +kernel
theorem dX12_token_15 : decode cX12_token 15 = .ok (.getfield 175, 3) := by decide +kernel
theorem dX12_token_18 : decode cX12_token 18 = .ok (.iload_n 2, 1) := by decide +kernel
theorem dX12_token_19 : decode cX12_token 19 = .ok (.iastore, 1) := by decide +kernel
theorem dX12_token_20 : decode cX12_token 20 = .ok (.aload_n 0, 1) := by decide +kernel
theorem dX12_token_21 : decode cX12_token 21 = .ok (.getfield 27, 3) := by decide +kernel
theorem dX12_token_24 : decode cX12_token 24 = .ok (.aload_n 0, 1) := by decide +kernel
theorem dX12_token_25 : decode cX12_token 25 = .ok (.getfield 175, 3) := by decide +kernel
theorem dX12_token_28 : decode cX12_token 28 = .ok (.iload_n 3, 1) := by decide +kernel
theorem dX12_token_29 : decode cX12_token 29 = .ok (.iastore, 1) := by decide +kernel
theorem dX12_token_30 : decode cX12_token 30 = .ok (.aload_n 0, 1) := by decide +kernel
theorem dX12_token_31 : decode cX12_token 31 = .ok (.getfield 30, 3) := by decide +kernel
theorem dX12_token_34 : decode cX12_token 34 = .ok (.aload_n 0, 1) := by decide +kernel
theorem dX12_token_35 : decode cX12_token 35 = .ok (.getfield 175, 3) := by decide +kernel
theorem dX12_token_38 : decode cX12_token 38 = .ok (.lload 4, 2) := by decide +kernel
theorem dX12_token_40 : decode cX12_token 40 = .ok (.lastore, 1) := by decide +kernel
theorem dX12_token_41 : decode cX12_token 41 = .ok (.aload_n 0, 1) := by decide +kernel
theorem dX12_token_42 : decode cX12_token 42 = .ok (.dup, 1) := by decide +kernel
theorem dX12_token_43 : decode cX12_token 43 = .ok (.getfield 175, 3) := by decide +kernel
theorem dX12_token_46 : decode cX12_token 46 = .ok (.iconst 1, 1) := by decide +kernel
theorem dX12_token_47 : decode cX12_token 47 = .ok (.iadd, 1) := by decide +kernel
theorem dX12_token_48 : decode cX12_token 48 = .ok (.putfield 175, 3) := by decide +kernel
theorem dX12_token_51 : decode cX12_token 51 = .ok (.return_, 1) := by decide +kernel
theorem dX12_cut_0 : decode cX12_cut 0 = .ok (.aload_n 0, 1) := by decide +kernel
theorem dX12_cut_1 : decode cX12_cut 1 = .ok (.iconst 0, 1) := by decide +kernel
theorem dX12_cut_2 : decode cX12_cut 2 = .ok (.putfield 175, 3) := by decide +kernel
theorem dX12_cut_5 : decode cX12_cut 5 = .ok (.iconst 0, 1) := by decide +kernel
theorem dX12_cut_6 : decode cX12_cut 6 = .ok (.istore_n 1, 1) := by decide +kernel
theorem dX12_cut_7 : decode cX12_cut 7 = .ok (.aload_n 0, 1) := by decide +kernel
theorem dX12_cut_8 : decode cX12_cut 8 = .ok (.getfield 175, 3) := by decide +kernel
theorem dX12_cut_11 : decode cX12_cut 11 = .ok (.sipush 400, 3) := by decide +kernel
theorem dX12_cut_14 : decode cX12_cut 14 = .ok (.if_icmp .gt 280, 3) := by decide +kernel
theorem dX12_cut_17 : decode cX12_cut 17 = .ok (.aload_n 0, 1) := by decide +kernel
theorem dX12_cut_18 : decode cX12_cut 18 = .ok (.iload_n 1, 1) := by decide +kernel
theorem dX12_cut_19 : decode cX12_cut 19 = .ok (.invokevirtual 178, 3) := by decide +kernel
theorem dX12_cut_22 : decode cX12_cut 22 = .ok (.istore_n 2, 1) := by decide +kernel
theorem dX12_cut_23 : decode cX12_cut 23 = .ok (.iload_n 1, 1) := by decide +kernel
theorem dX12_cut_24 : decode cX12_cut 24 = .ok (.aload_n 0, 1) := by decide +kernel
theorem dX12_cut_25 : decode cX12_cut 25 = .ok (.getfield 166, 3) := by decide +kernel
theorem dX12_cut_28 : decode cX12_cut 28 = .ok (.if_icmp .lt 15, 3) := by decide +kernel
theorem dX12_cut_31 : decode cX12_cut 31 = .ok (.aload_n 0, 1) := by decide +kernel
theorem dX12_cut_32 : decode cX12_cut 32 = .ok (.iconst 0, 1) := by decide +kernel
theorem dX12_cut_33 : decode cX12_cut 33 = .ok (.aload_n 0, 1) := by decide +kernel
theorem dX12_cut_34 : decode cX12_cut 34 = .ok (.getfield 166, 3) := by decide +kernel
theorem dX12_cut_37 : decode cX12_cut 37 = .ok (.iconst 0, 1) := by decide +kernel
theorem dX12_cut_38 : decode cX12_cut 38 = .ok (.lconst 0, 1) := by decide +kernel
theorem dX12_cut_39 : decode cX12_cut 39 = .ok (.invokevirtual 182, 3) := by decide +kernel
theorem dX12_cut_42 : decode cX12_cut 42 = .ok (.return_, 1) := by decide +kernel
theorem dX12_cut_43 : decode cX12_cut 43 = .ok (.iload_n 2, 1) := by decide +kernel
theorem dX12_cut_44 : decode cX12_cut 44 = .ok (.bipush 9, 2) := by decide +kernel
theorem dX12_cut_46 : decode cX12_cut 46 = .ok (.if_icmp .eq 21, 3) := by decide +kernel
theorem dX12_cut_49 : decode cX12_cut 49 = .ok (.iload_n 2, 1) := by decide +kernel
theorem dX12_cut_50 : decode cX12_cut 50 = .ok (.bipush 10, 2) := by decide +kernel
theorem dX12_cut_52 : decode cX12_cut 52 = .ok (.if_icmp .eq 15, 3) := by decide +kernel
theorem dX12_cut_55 : decode cX12_cut 55 = .ok (.iload_n 2, 1) := by decide +kernel
theorem dX12_cut_56 : decode cX12_cut 56 = .ok (.bipush 13, 2) := by decide +kernel
theorem dX12_cut_58 : decode cX12_cut 58 = .ok (.if_icmp .eq 9, 3) := by decide +kernel
theorem dX12_cut_61 : decode cX12_cut 61 = .ok (.iload_n 2, 1) := by decide +kernel
theorem dX12_cut_62 : decode cX12_cut 62 = .ok (.bipush 32, 2) := by decide +kernel
theorem dX12_cut_64 : decode cX12_cut 64 = .ok (.if_icmp .ne 9, 3) := by decide +kernel
theorem dX12_cut_67 : decode cX12_cut 67 = .ok (.iinc 1 1, 3) := by decide +kernel
theorem dX12_cut_70 : decode cX12_cut 70 = .ok (.goto 221, 3) := by decide +kernel
theorem dX12_cut_73 : decode cX12_cut 73 = .ok (.iload_n 2, 1) := by decide +kernel
theorem dX12_cut_74 : decode cX12_cut 74 = .ok (.invokestatic 186, 3) := by decide +kernel
theorem dX12_cut_77 : decode cX12_cut 77 = .ok (.ifCond .eq 119, 3) := by decide +kernel
theorem dX12_cut_80 : decode cX12_cut 80 = .ok (.iconst 0, 1) := by decide +kernel
theorem dX12_cut_81 : decode cX12_cut 81 = .ok (.istore_n 3, 1) := by decide +kernel
theorem dX12_cut_82 : decode cX12_cut 82 = .ok (.lconst 0, 1) := by decide +kernel
theorem dX12_cut_83 : decode cX12_cut 83 = .ok (.lstore 4, 2) := by decide +kernel
theorem dX12_cut_85 : decode cX12_cut 85 = .ok (.aload_n 0, 1) := by decide +kernel
theorem dX12_cut_86 : decode cX12_cut 86 = .ok (.iload_n 1, 1) := by decide +kernel
theorem dX12_cut_87 : decode cX12_cut 87 = .ok (.iload_n 3, 1) := by decide +kernel
theorem dX12_cut_88 : decode cX12_cut 88 = .ok (.iadd, 1) := by decide +kernel
theorem dX12_cut_89 : decode cX12_cut 89 = .ok (.invokevirtual 178, 3) := by decide +kernel
theorem dX12_cut_92 : decode cX12_cut 92 = .ok (.invokestatic 186, 3) := by decide +kernel
theorem dX12_cut_95 : decode cX12_cut 95 = .ok (.ifCond .eq 29, 3) := by decide +kernel
theorem dX12_cut_98 : decode cX12_cut 98 = .ok (.iload_n 3, 1) := by decide +kernel
theorem dX12_cut_99 : decode cX12_cut 99 = .ok (.bipush 8, 2) := by decide +kernel
theorem dX12_cut_101 : decode cX12_cut 101 = .ok (.if_icmp .ge 17, 3) := by decide +kernel
theorem dX12_cut_104 : decode cX12_cut 104 = .ok (.lload 4, 2) := by decide +kernel
theorem dX12_cut_106 : decode cX12_cut 106 = .ok (.aload_n 0, 1) := by decide +kernel
theorem dX12_cut_107 : decode cX12_cut 107 = .ok (.iload_n 1, 1) := by decide +kernel
theorem dX12_cut_108 : decode cX12_cut 108 = .ok (.iload_n 3, 1) := by decide +kernel
theorem dX12_cut_109 : decode cX12_cut 109 = .ok (.iadd, 1) := by decide +kernel
theorem dX12_cut_110 : decode cX12_cut 110 = .ok (.invokevirtual 178, 3) := by decide +kernel
theorem dX12_cut_113 : decode cX12_cut 113 = .ok (.invokestatic 171, 3) := by decide +kernel
theorem dX12_cut_116 : decode cX12_cut 116 = .ok (.lstore 4, 2) := by decide +kernel
theorem dX12_cut_118 : decode cX12_cut 118 = .ok (.iinc 3 1, 3) := by decide +kernel
theorem dX12_cut_121 : decode cX12_cut 121 = .ok (.goto (-36), 3) := by decide +kernel
theorem dX12_cut_124 : decode cX12_cut 124 = .ok (.iload_n 3, 1) := by decide +kernel
theorem dX12_cut_125 : decode cX12_cut 125 = .ok (.bipush 8, 2) := by decide +kernel
theorem dX12_cut_127 : decode cX12_cut 127 = .ok (.if_icmp .le 7, 3) := by decide +kernel
theorem dX12_cut_130 : decode cX12_cut 130 = .ok (.iconst 3, 1) := by decide +kernel
theorem dX12_cut_131 : decode cX12_cut 131 = .ok (.goto 4, 3) := by decide +kernel
theorem dX12_cut_134 : decode cX12_cut 134 = .ok (.iconst 1, 1) := by decide +kernel
theorem dX12_cut_135 : decode cX12_cut 135 = .ok (.istore 6, 2) := by decide +kernel
theorem dX12_cut_137 : decode cX12_cut 137 = .ok (.iload_n 3, 1) := by decide +kernel
theorem dX12_cut_138 : decode cX12_cut 138 = .ok (.bipush 7, 2) := by decide +kernel
theorem dX12_cut_140 : decode cX12_cut 140 = .ok (.if_icmp .gt 39, 3) := by decide +kernel
theorem dX12_cut_143 : decode cX12_cut 143 = .ok (.iconst 0, 1) := by decide +kernel
theorem dX12_cut_144 : decode cX12_cut 144 = .ok (.istore 7, 2) := by decide +kernel
theorem dX12_cut_146 : decode cX12_cut 146 = .ok (.iload 7, 2) := by decide +kernel
theorem dX12_cut_148 : decode cX12_cut 148 = .ok (.bipush 24, 2) := by decide +kernel
theorem dX12_cut_150 : decode cX12_cut 150 = .ok (.if_icmp .ge 29, 3) := by decide +kernel
theorem dX12_cut_153 : decode cX12_cut 153 = .ok (.aload_n 0, 1) := by decide +kernel
theorem dX12_cut_154 : decode cX12_cut 154 = .ok (.getfield 34, 3) := by decide +kernel
theorem dX12_cut_157 : decode cX12_cut 157 = .ok (.iload 7, 2) := by decide +kernel
theorem dX12_cut_159 : decode cX12_cut 159 = .ok (.laload, 1) := by decide +kernel
theorem dX12_cut_160 : decode cX12_cut 160 = .ok (.lload 4, 2) := by decide +kernel
theorem dX12_cut_162 : decode cX12_cut 162 = .ok (.lcmp, 1) := by decide +kernel
theorem dX12_cut_163 : decode cX12_cut 163 = .ok (.ifCond .ne 10, 3) := by decide +kernel
theorem dX12_cut_166 : decode cX12_cut 166 = .ok (.bipush 20, 2) := by decide +kernel
theorem dX12_cut_168 : decode cX12_cut 168 = .ok (.iload 7, 2) := by decide +kernel
theorem dX12_cut_170 : decode cX12_cut 170 = .ok (.iadd, 1) := by decide +kernel
theorem dX12_cut_171 : decode cX12_cut 171 = .ok (.istore 6, 2) := by decide +kernel
theorem dX12_cut_173 : decode cX12_cut 173 = .ok (.iinc 7 1, 3) := by decide +kernel
theorem dX12_cut_176 : decode cX12_cut 176 = .ok (.goto (-30), 3) := by decide +kernel
theorem dX12_cut_179 : decode cX12_cut 179 = .ok (.aload_n 0, 1) := by decide +kernel
theorem dX12_cut_180 : decode cX12_cut 180 = .ok (.iload 6, 2) := by decide +kernel
theorem dX12_cut_182 : decode cX12_cut 182 = .ok (.iload_n 1, 1) := by decide +kernel
theorem dX12_cut_183 : decode cX12_cut 183 = .ok (.iconst 0, 1) := by decide +kernel
theorem dX12_cut_184 : decode cX12_cut 184 = .ok (.lload 4, 2) := by decide +kernel
theorem dX12_cut_186 : decode cX12_cut 186 = .ok (.invokevirtual 182, 3) := by decide +kernel
theorem dX12_cut_189 : decode cX12_cut 189 = .ok (.iload_n 1, 1) := by decide +kernel
theorem dX12_cut_190 : decode cX12_cut 190 = .ok (.iload_n 3, 1) := by decide +kernel
theorem dX12_cut_191 : decode cX12_cut 191 = .ok (.iadd, 1) := by decide +kernel
theorem dX12_cut_192 : decode cX12_cut 192 = .ok (.istore_n 1, 1) := by decide +kernel
theorem dX12_cut_193 : decode cX12_cut 193 = .ok (.goto 98, 3) := by decide +kernel
theorem dX12_cut_196 : decode cX12_cut 196 = .ok (.iload_n 2, 1) := by decide +kernel
theorem dX12_cut_197 : decode cX12_cut 197 = .ok (.invokestatic 190, 3) := by decide +kernel
theorem dX12_cut_200 : decode cX12_cut 200 = .ok (.ifCond .eq 75, 3) := by decide +kernel
theorem dX12_cut_203 : decode cX12_cut 203 = .ok (.iconst 0, 1) := by decide +kernel
theorem dX12_cut_204 : decode cX12_cut 204 = .ok (.istore_n 3, 1) := by decide +kernel
theorem dX12_cut_205 : decode cX12_cut 205 = .ok (.iconst 0, 1) := by decide +kernel
theorem dX12_cut_206 : decode cX12_cut 206 = .ok (.istore 4, 2) := by decide +kernel
theorem dX12_cut_208 : decode cX12_cut 208 = .ok (.aload_n 0, 1) := by decide +kernel
theorem dX12_cut_209 : decode cX12_cut 209 = .ok (.iload_n 1, 1) := by decide +kernel
theorem dX12_cut_210 : decode cX12_cut 210 = .ok (.iload_n 3, 1) := by decide +kernel
theorem dX12_cut_211 : decode cX12_cut 211 = .ok (.iadd, 1) := by decide +kernel
theorem dX12_cut_212 : decode cX12_cut 212 = .ok (.invokevirtual 178, 3) := by decide +kernel
theorem dX12_cut_215 : decode cX12_cut 215 = .ok (.invokestatic 190, 3) := by decide +kernel
theorem dX12_cut_218 : decode cX12_cut 218 = .ok (.ifCond .eq 32, 3) := by decide +kernel
theorem dX12_cut_221 : decode cX12_cut 221 = .ok (.iload_n 3, 1) := by decide +kernel
theorem dX12_cut_222 : decode cX12_cut 222 = .ok (.iconst 4, 1) := by decide +kernel
theorem dX12_cut_223 : decode cX12_cut 223 = .ok (.if_icmp .ge 21, 3) := by decide +kernel
theorem dX12_cut_226 : decode cX12_cut 226 = .ok (.bipush 10, 2) := by decide +kernel
theorem dX12_cut_228 : decode cX12_cut 228 = .ok (.iload 4, 2) := by decide +kernel
theorem dX12_cut_230 : decode cX12_cut 230 = .ok (.imul, 1) := by decide +kernel
theorem dX12_cut_231 : decode cX12_cut 231 = .ok (.aload_n 0, 1) := by decide +kernel
theorem dX12_cut_232 : decode cX12_cut 232 = .ok (.iload_n 1, 1) := by decide +kernel
theorem dX12_cut_233 : decode cX12_cut 233 = .ok (.iload_n 3, 1) := by decide +kernel
theorem dX12_cut_234 : decode cX12_cut 234 = .ok (.iadd, 1) := by decide +kernel
theorem dX12_cut_235 : decode cX12_cut 235 = .ok (.invokevirtual 178, 3) := by decide +kernel
theorem dX12_cut_238 : decode cX12_cut 238 = .ok (.iadd, 1) := by decide +kernel
theorem dX12_cut_239 : decode cX12_cut 239 = .ok (.bipush 48, 2) := by decide +kernel
theorem dX12_cut_241 : decode cX12_cut 241 = .ok (.isub, 1) := by decide +kernel
theorem dX12_cut_242 : decode cX12_cut 242 = .ok (.istore 4, 2) := by decide +kernel
theorem dX12_cut_244 : decode cX12_cut 244 = .ok (.iinc 3 1, 3) := by decide +kernel
theorem dX12_cut_247 : decode cX12_cut 247 = .ok (.goto (-39), 3) := by decide +kernel
theorem dX12_cut_250 : decode cX12_cut 250 = .ok (.aload_n 0, 1) := by decide +kernel
theorem dX12_cut_251 : decode cX12_cut 251 = .ok (.iload_n 3, 1) := by decide +kernel
theorem dX12_cut_252 : decode cX12_cut 252 = .ok (.iconst 4, 1) := by decide +kernel
theorem dX12_cut_253 : decode cX12_cut 253 = .ok (.if_icmp .le 7, 3) := by decide +kernel
theorem dX12_cut_256 : decode cX12_cut 256 = .ok (.iconst 3, 1) := by decide +kernel
theorem dX12_cut_257 : decode cX12_cut 257 = .ok (.goto 4, 3) := by decide +kernel
theorem dX12_cut_260 : decode cX12_cut 260 = .ok (.iconst 2, 1) := by decide +kernel
theorem dX12_cut_261 : decode cX12_cut 261 = .ok (.iload_n 1, 1) := by decide +kernel
theorem dX12_cut_262 : decode cX12_cut 262 = .ok (.iload 4, 2) := by decide +kernel
theorem dX12_cut_264 : decode cX12_cut 264 = .ok (.lconst 0, 1) := by decide +kernel
theorem dX12_cut_265 : decode cX12_cut 265 = .ok (.invokevirtual 182, 3) := by decide +kernel
theorem dX12_cut_268 : decode cX12_cut 268 = .ok (.iload_n 1, 1) := by decide +kernel
theorem dX12_cut_269 : decode cX12_cut 269 = .ok (.iload_n 3, 1) := by decide +kernel
theorem dX12_cut_270 : decode cX12_cut 270 = .ok (.iadd, 1) := by decide +kernel
theorem dX12_cut_271 : decode cX12_cut 271 = .ok (.istore_n 1, 1) := by decide +kernel
theorem dX12_cut_272 : decode cX12_cut 272 = .ok (.goto 19, 3) := by decide +kernel
theorem dX12_cut_275 : decode cX12_cut 275 = .ok (.iload_n 1, 1) := by decide +kernel
theorem dX12_cut_276 : decode cX12_cut 276 = .ok (.aload_n 0, 1) := by decide +kernel
theorem dX12_cut_277 : decode cX12_cut 277 = .ok (.iload_n 1, 1) := by decide +kernel
theorem dX12_cut_278 : decode cX12_cut 278 = .ok (.iload_n 2, 1) := by decide +kernel
theorem dX12_cut_279 : decode cX12_cut 279 = .ok (.aload_n 0, 1) := by decide +kernel
theorem dX12_cut_280 : decode cX12_cut 280 = .ok (.iload_n 1, 1) := by decide +kernel
theorem dX12_cut_281 : decode cX12_cut 281 = .ok (.iconst 1, 1) := by decide +kernel
theorem dX12_cut_282 : decode cX12_cut 282 = .ok (.iadd, 1) := by decide +kernel
theorem dX12_cut_283 : decode cX12_cut 283 = .ok (.invokevirtual 178, 3) := by decide +kernel
theorem dX12_cut_286 : decode cX12_cut 286 = .ok (.invokevirtual 193, 3) := by decide +kernel
theorem dX12_cut_289 : decode cX12_cut 289 = .ok (.iadd, 1) := by decide +kernel
theorem dX12_cut_290 : decode cX12_cut 290 = .ok (.istore_n 1, 1) := by decide +kernel
theorem dX12_cut_291 : decode cX12_cut 291 = .ok (.goto (-284), 3) := by decide +kernel
theorem dX12_cut_294 : decode cX12_cut 294 = .ok (.return_, 1) := by decide +kernel
theorem dX12_sign_0 : decode cX12_sign 0 = .ok (.iload_n 3, 1) := by decide +kernel
theorem dX12_sign_1 : decode cX12_sign 1 = .ok (.bipush 61, 2) := by decide +kernel
theorem dX12_sign_3 : decode cX12_sign 3 = .ok (.if_icmp .eq 7, 3) := by decide +kernel
theorem dX12_sign_6 : decode cX12_sign 6 = .ok (.iconst 0, 1) := by decide +kernel
theorem dX12_sign_7 : decode cX12_sign 7 = .ok (.goto 37, 3) := by decide +kernel
theorem dX12_sign_10 : decode cX12_sign 10 = .ok (.iload_n 2, 1) := by decide +kernel
theorem dX12_sign_11 : decode cX12_sign 11 = .ok (.bipush 61, 2) := by decide +kernel
theorem dX12_sign_13 : decode cX12_sign 13 = .ok (.if_icmp .ne 8, 3) := by decide +kernel
theorem dX12_sign_16 : decode cX12_sign 16 = .ok (.bipush 11, 2) := by decide +kernel
theorem dX12_sign_18 : decode cX12_sign 18 = .ok (.goto 26, 3) := by decide +kernel
theorem dX12_sign_21 : decode cX12_sign 21 = .ok (.iload_n 2, 1) := by decide +kernel
theorem dX12_sign_22 : decode cX12_sign 22 = .ok (.bipush 33, 2) := by decide +kernel
theorem dX12_sign_24 : decode cX12_sign 24 = .ok (.if_icmp .ne 8, 3) := by decide +kernel
theorem dX12_sign_27 : decode cX12_sign 27 = .ok (.bipush 12, 2) := by decide +kernel
theorem dX12_sign_29 : decode cX12_sign 29 = .ok (.goto 15, 3) := by decide +kernel
theorem dX12_sign_32 : decode cX12_sign 32 = .ok (.iload_n 2, 1) := by decide +kernel
theorem dX12_sign_33 : decode cX12_sign 33 = .ok (.bipush 60, 2) := by decide +kernel
theorem dX12_sign_35 : decode cX12_sign 35 = .ok (.if_icmp .ne 8, 3) := by decide +kernel
theorem dX12_sign_38 : decode cX12_sign 38 = .ok (.bipush 14, 2) := by decide +kernel
theorem dX12_sign_40 : decode cX12_sign 40 = .ok (.goto 4, 3) := by decide +kernel
theorem dX12_sign_43 : decode cX12_sign 43 = .ok (.iconst 0, 1) := by decide +kernel
theorem dX12_sign_44 : decode cX12_sign 44 = .ok (.istore 4, 2) := by decide +kernel
theorem dX12_sign_46 : decode cX12_sign 46 = .ok (.iconst 3, 1) := by decide +kernel
theorem dX12_sign_47 : decode cX12_sign 47 = .ok (.istore 5, 2) := by decide +kernel
theorem dX12_sign_49 : decode cX12_sign 49 = .ok (.iload 4, 2) := by decide +kernel
theorem dX12_sign_51 : decode cX12_sign 51 = .ok (.ifCond .le 10, 3) := by decide +kernel
theorem dX12_sign_54 : decode cX12_sign 54 = .ok (.iload 4, 2) := by decide +kernel
theorem dX12_sign_56 : decode cX12_sign 56 = .ok (.istore 5, 2) := by decide +kernel
theorem dX12_sign_58 : decode cX12_sign 58 = .ok (.goto 103, 3) := by decide +kernel
theorem dX12_sign_61 : decode cX12_sign 61 = .ok (.iload_n 2, 1) := by decide +kernel
theorem dX12_sign_62 : decode cX12_sign 62 = .ok (.bipush 59, 2) := by decide +kernel
theorem dX12_sign_64 : decode cX12_sign 64 = .ok (.if_icmp .ne 9, 3) := by decide +kernel
theorem dX12_sign_67 : decode cX12_sign 67 = .ok (.iconst 4, 1) := by decide +kernel
theorem dX12_sign_68 : decode cX12_sign 68 = .ok (.istore 5, 2) := by decide +kernel
theorem dX12_sign_70 : decode cX12_sign 70 = .ok (.goto 91, 3) := by decide +kernel
theorem dX12_sign_73 : decode cX12_sign 73 = .ok (.iload_n 2, 1) := by decide +kernel
theorem dX12_sign_74 : decode cX12_sign 74 = .ok (.bipush 40, 2) := by decide +kernel
theorem dX12_sign_76 : decode cX12_sign 76 = .ok (.if_icmp .ne 10, 3) := by decide +kernel
theorem dX12_sign_79 : decode cX12_sign 79 = .ok (.bipush 6, 2) := by decide +kernel
theorem dX12_sign_81 : decode cX12_sign 81 = .ok (.istore 5, 2) := by decide +kernel
theorem dX12_sign_83 : decode cX12_sign 83 = .ok (.goto 78, 3) := by decide +kernel
theorem dX12_sign_86 : decode cX12_sign 86 = .ok (.iload_n 2, 1) := by decide +kernel
theorem dX12_sign_87 : decode cX12_sign 87 = .ok (.bipush 41, 2) := by decide +kernel
theorem dX12_sign_89 : decode cX12_sign 89 = .ok (.if_icmp .ne 10, 3) := by decide +kernel
theorem dX12_sign_92 : decode cX12_sign 92 = .ok (.bipush 7, 2) := by decide +kernel
theorem dX12_sign_94 : decode cX12_sign 94 = .ok (.istore 5, 2) := by decide +kernel
theorem dX12_sign_96 : decode cX12_sign 96 = .ok (.goto 65, 3) := by decide +kernel
theorem dX12_sign_99 : decode cX12_sign 99 = .ok (.iload_n 2, 1) := by decide +kernel
theorem dX12_sign_100 : decode cX12_sign 100 = .ok (.bipush 43, 2) := by decide +kernel
theorem dX12_sign_102 : decode cX12_sign 102 = .ok (.if_icmp .ne 10, 3) := by decide +kernel
theorem dX12_sign_105 : decode cX12_sign 105 = .ok (.bipush 8, 2) := by decide +kernel
theorem dX12_sign_107 : decode cX12_sign 107 = .ok (.istore 5, 2) := by decide +kernel
theorem dX12_sign_109 : decode cX12_sign 109 = .ok (.goto 52, 3) := by decide +kernel
theorem dX12_sign_112 : decode cX12_sign 112 = .ok (.iload_n 2, 1) := by decide +kernel
theorem dX12_sign_113 : decode cX12_sign 113 = .ok (.bipush 45, 2) := by decide +kernel
theorem dX12_sign_115 : decode cX12_sign 115 = .ok (.if_icmp .ne 10, 3) := by decide +kernel
theorem dX12_sign_118 : decode cX12_sign 118 = .ok (.bipush 9, 2) := by decide +kernel
theorem dX12_sign_120 : decode cX12_sign 120 = .ok (.istore 5, 2) := by decide +kernel
theorem dX12_sign_122 : decode cX12_sign 122 = .ok (.goto 39, 3) := by decide +kernel
theorem dX12_sign_125 : decode cX12_sign 125 = .ok (.iload_n 2, 1) := by decide +kernel
theorem dX12_sign_126 : decode cX12_sign 126 = .ok (.bipush 42, 2) := by decide +kernel
theorem dX12_sign_128 : decode cX12_sign 128 = .ok (.if_icmp .ne 10, 3) := by decide +kernel
theorem dX12_sign_131 : decode cX12_sign 131 = .ok (.bipush 10, 2) := by decide +kernel
theorem dX12_sign_133 : decode cX12_sign 133 = .ok (.istore 5, 2) := by decide +kernel
theorem dX12_sign_135 : decode cX12_sign 135 = .ok (.goto 26, 3) := by decide +kernel
theorem dX12_sign_138 : decode cX12_sign 138 = .ok (.iload_n 2, 1) := by decide +kernel
theorem dX12_sign_139 : decode cX12_sign 139 = .ok (.bipush 60, 2) := by decide +kernel
theorem dX12_sign_141 : decode cX12_sign 141 = .ok (.if_icmp .ne 10, 3) := by decide +kernel
theorem dX12_sign_144 : decode cX12_sign 144 = .ok (.bipush 13, 2) := by decide +kernel
theorem dX12_sign_146 : decode cX12_sign 146 = .ok (.istore 5, 2) := by decide +kernel
theorem dX12_sign_148 : decode cX12_sign 148 = .ok (.goto 13, 3) := by decide +kernel
theorem dX12_sign_151 : decode cX12_sign 151 = .ok (.iload_n 2, 1) := by decide +kernel
theorem dX12_sign_152 : decode cX12_sign 152 = .ok (.bipush 47, 2) := by decide +kernel
theorem dX12_sign_154 : decode cX12_sign 154 = .ok (.if_icmp .ne 7, 3) := by decide +kernel
theorem dX12_sign_157 : decode cX12_sign 157 = .ok (.bipush 15, 2) := by decide +kernel
theorem dX12_sign_159 : decode cX12_sign 159 = .ok (.istore 5, 2) := by decide +kernel
theorem dX12_sign_161 : decode cX12_sign 161 = .ok (.aload_n 0, 1) := by decide +kernel
theorem dX12_sign_162 : decode cX12_sign 162 = .ok (.iload 5, 2) := by decide +kernel
theorem dX12_sign_164 : decode cX12_sign 164 = .ok (.iload_n 1, 1) := by decide +kernel
theorem dX12_sign_165 : decode cX12_sign 165 = .ok (.iconst 0, 1) := by decide +kernel
theorem dX12_sign_166 : decode cX12_sign 166 = .ok (.lconst 0, 1) := by decide +kernel
theorem dX12_sign_167 : decode cX12_sign 167 = .ok (.invokevirtual 182, 3) := by decide +kernel
theorem dX12_sign_170 : decode cX12_sign 170 = .ok (.iload 4, 2) := by decide +kernel
theorem dX12_sign_172 : decode cX12_sign 172 = .ok (.ifCond .le 7, 3) := by decide +kernel
theorem dX12_sign_175 : decode cX12_sign 175 = .ok (.iconst 2, 1) := by decide +kernel
theorem dX12_sign_176 : decode cX12_sign 176 = .ok (.goto 4, 3) := by decide +kernel
theorem dX12_sign_179 : decode cX12_sign 179 = .ok (.iconst 1, 1) := by decide +kernel
theorem dX12_sign_180 : decode cX12_sign 180 = .ok (.ireturn, 1) := by decide +kernel
theorem dX12_is_0 : decode cX12_is 0 = .ok (.aload_n 0, 1) := by decide +kernel
theorem dX12_is_1 : decode cX12_is 1 = .ok (.getfield 197, 3) := by decide +kernel
theorem dX12_is_4 : decode cX12_is 4 = .ok (.ifCond .ne 20, 3) := by decide +kernel
theorem dX12_is_7 : decode cX12_is 7 = .ok (.aload_n 0, 1) := by decide +kernel
theorem dX12_is_8 : decode cX12_is 8 = .ok (.getfield 20, 3) := by decide +kernel
theorem dX12_is_11 : decode cX12_is 11 = .ok (.aload_n 0, 1) := by decide +kernel
theorem dX12_is_12 : decode cX12_is 12 = .ok (.getfield 200, 3) := by decide +kernel
theorem dX12_is_15 : decode cX12_is 15 = .ok (.iaload, 1) := by decide +kernel
theorem dX12_is_16 : decode cX12_is 16 = .ok (.iload_n 1, 1) := by decide +kernel
theorem dX12_is_17 : decode cX12_is 17 = .ok (.if_icmp .ne 7, 3) := by decide +kernel
theorem dX12_is_20 : decode cX12_is 20 = .ok (.iconst 1, 1) := by decide +kernel
theorem dX12_is_21 : decode cX12_is 21 = .ok (.goto 4, 3) := by decide +kernel
theorem dX12_is_24 : decode cX12_is 24 = .ok (.iconst 0, 1) := by decide +kernel
theorem dX12_is_25 : decode cX12_is 25 = .ok (.ireturn, 1) := by decide +kernel
theorem dX12_fail_0 : decode cX12_fail 0 = .ok (.aload_n 0, 1) := by decide +kernel
theorem dX12_fail_1 : decode cX12_fail 1 = .ok (.getfield 197, 3) := by decide +kernel
theorem dX12_fail_4 : decode cX12_fail 4 = .ok (.ifCond .le 4, 3) := by decide +kernel
theorem dX12_fail_7 : decode cX12_fail 7 = .ok (.return_, 1) := by decide +kernel
theorem dX12_fail_8 : decode cX12_fail 8 = .ok (.aload_n 0, 1) := by decide +kernel
theorem dX12_fail_9 : decode cX12_fail 9 = .ok (.iload_n 1, 1) := by decide +kernel
theorem dX12_fail_10 : decode cX12_fail 10 = .ok (.putfield 197, 3) := by decide +kernel
theorem dX12_fail_13 : decode cX12_fail 13 = .ok (.aload_n 0, 1) := by decide +kernel
theorem dX12_fail_14 : decode cX12_fail 14 = .ok (.aload_n 0, 1) := by decide +kernel
theorem dX12_fail_15 : decode cX12_fail 15 = .ok (.getfield 24, 3) := by decide +kernel
theorem dX12_fail_18 : decode cX12_fail 18 = .ok (.aload_n 0, 1) := by decide +kernel
theorem dX12_fail_19 : decode cX12_fail 19 = .ok (.getfield 200, 3) := by decide +kernel
theorem dX12_fail_22 : decode cX12_fail 22 = .ok (.iaload, 1) := by decide +kernel
theorem dX12_fail_23 : decode cX12_fail 23 = .ok (.putfield 203, 3) := by decide +kernel
theorem dX12_fail_26 : decode cX12_fail 26 = .ok (.return_, 1) := by decide +kernel
theorem dX12_wrong_0 : decode cX12_wrong 0 = .ok (.aload_n 0, 1) := by decide +kernel
theorem dX12_wrong_1 : decode cX12_wrong 1 = .ok (.getfield 24, 3) := by decide +kernel
theorem dX12_wrong_4 : decode cX12_wrong 4 = .ok (.iload_n 2, 1) := by decide +kernel
theorem dX12_wrong_5 : decode cX12_wrong 5 = .ok (.iaload, 1) := by decide +kernel
theorem dX12_wrong_6 : decode cX12_wrong 6 = .ok (.istore_n 3, 1) := by decide +kernel
theorem dX12_wrong_7 : decode cX12_wrong 7 = .ok (.aload_n 0, 1) := by decide +kernel
theorem dX12_wrong_8 : decode cX12_wrong 8 = .ok (.getfield 197, 3) := by decide +kernel
theorem dX12_wrong_11 : decode cX12_wrong 11 = .ok (.ifCond .gt 34, 3) := by decide +kernel
theorem dX12_wrong_14 : decode cX12_wrong 14 = .ok (.aload_n 0, 1) := by decide +kernel
theorem dX12_wrong_15 : decode cX12_wrong 15 = .ok (.getfield 206, 3) := by decide +kernel
theorem dX12_wrong_18 : decode cX12_wrong 18 = .ok (.ifCond .eq 28, 3) := by decide +kernel
theorem dX12_wrong_21 : decode cX12_wrong 21 = .ok (.iload_n 3, 1) := by decide +kernel
theorem dX12_wrong_22 : decode cX12_wrong 22 = .ok (.aload_n 0, 1) := by decide +kernel
theorem dX12_wrong_23 : decode cX12_wrong 23 = .ok (.getfield 209, 3) := by decide +kernel
theorem dX12_wrong_26 : decode cX12_wrong 26 = .ok (.if_icmp .gt 19, 3) := by decide +kernel
theorem dX12_wrong_29 : decode cX12_wrong 29 = .ok (.iload_n 3, 1) := by decide +kernel
theorem dX12_wrong_30 : decode cX12_wrong 30 = .ok (.aload_n 0, 1) := by decide +kernel
theorem dX12_wrong_31 : decode cX12_wrong 31 = .ok (.getfield 209, 3) := by decide +kernel
theorem dX12_wrong_34 : decode cX12_wrong 34 = .ok (.if_icmp .ne 12, 3) := by decide +kernel
theorem dX12_wrong_37 : decode cX12_wrong 37 = .ok (.iload_n 1, 1) := by decide +kernel
theorem dX12_wrong_38 : decode cX12_wrong 38 = .ok (.aload_n 0, 1) := by decide +kernel
theorem dX12_wrong_39 : decode cX12_wrong 39 = .ok (.getfield 206, 3) := by decide +kernel
theorem dX12_wrong_42 : decode cX12_wrong 42 = .ok (.if_icmp .lt 4, 3) := by decide +kernel
theorem dX12_wrong_45 : decode cX12_wrong 45 = .ok (.return_, 1) := by decide +kernel
theorem dX12_wrong_46 : decode cX12_wrong 46 = .ok (.aload_n 0, 1) := by decide +kernel
theorem dX12_wrong_47 : decode cX12_wrong 47 = .ok (.iload_n 1, 1) := by decide +kernel
theorem dX12_wrong_48 : decode cX12_wrong 48 = .ok (.putfield 206, 3) := by decide +kernel
theorem dX12_wrong_51 : decode cX12_wrong 51 = .ok (.aload_n 0, 1) := by decide +kernel
theorem dX12_wrong_52 : decode cX12_wrong 52 = .ok (.iload_n 3, 1) := by decide +kernel
theorem dX12_wrong_53 : decode cX12_wrong 53 = .ok (.putfield 209, 3) := by decide +kernel
theorem dX12_wrong_56 : decode cX12_wrong 56 = .ok (.return_, 1) := by decide +kernel
theorem dX12_next_0 : decode cX12_next 0 = .ok (.aload_n 0, 1) := by decide +kernel
theorem dX12_next_1 : decode cX12_next 1 = .ok (.getfield 200, 3) := by decide +kernel
theorem dX12_next_4 : decode cX12_next 4 = .ok (.sipush 400, 3) := by decide +kernel
theorem dX12_next_7 : decode cX12_next 7 = .ok (.if_icmp .ne 11, 3) := by decide +kernel
theorem dX12_next_10 : decode cX12_next 10 = .ok (.aload_n 0, 1) := by decide +kernel
theorem dX12_next_11 : decode cX12_next 11 = .ok (.iconst 2, 1) := by decide +kernel
theorem dX12_next_12 : decode cX12_next 12 = .ok (.invokevirtual 212, 3) := by decide +kernel
theorem dX12_next_15 : decode cX12_next 15 = .ok (.goto 13, 3) := by decide +kernel
theorem dX12_next_18 : decode cX12_next 18 = .ok (.aload_n 0, 1) := by decide +kernel
theorem dX12_next_19 : decode cX12_next 19 = .ok (.dup, 1) := by decide +kernel
theorem dX12_next_20 : decode cX12_next 20 = .ok (.getfield 200, 3) := by decide +kernel
theorem dX12_next_23 : decode cX12_next 23 = .ok (.iconst 1, 1) := by decide +kernel
theorem dX12_next_24 : decode cX12_next 24 = .ok (.iadd, 1) := by decide +kernel
theorem dX12_next_25 : decode cX12_next 25 = .ok (.putfield 200, 3) := by decide +kernel
theorem dX12_next_28 : decode cX12_next 28 = .ok (.return_, 1) := by decide +kernel
theorem dX12_must_0 : decode cX12_must 0 = .ok (.aload_n 0, 1) := by decide +kernel
theorem dX12_must_1 : decode cX12_must 1 = .ok (.iload_n 1, 1) := by decide +kernel
theorem dX12_must_2 : decode cX12_must 2 = .ok (.invokevirtual 215, 3) := by decide +kernel
theorem dX12_must_5 : decode cX12_must 5 = .ok (.ifCond .eq 10, 3) := by decide +kernel
theorem dX12_must_8 : decode cX12_must 8 = .ok (.aload_n 0, 1) := by decide +kernel
theorem dX12_must_9 : decode cX12_must 9 = .ok (.invokevirtual 218, 3) := by decide +kernel
theorem dX12_must_12 : decode cX12_must 12 = .ok (.goto 8, 3) := by decide +kernel
theorem dX12_must_15 : decode cX12_must 15 = .ok (.aload_n 0, 1) := by decide +kernel
theorem dX12_must_16 : decode cX12_must 16 = .ok (.iconst 1, 1) := by decide +kernel
theorem dX12_must_17 : decode cX12_must 17 = .ok (.invokevirtual 212, 3) := by decide +kernel
theorem dX12_must_20 : decode cX12_must 20 = .ok (.return_, 1) := by decide +kernel
theorem dX12_read_0 : decode cX12_read 0 = .ok (.aload_n 0, 1) := by decide +kernel
theorem dX12_read_1 : decode cX12_read 1 = .ok (.getfield 221, 3) := by decide +kernel
theorem dX12_read_4 : decode cX12_read 4 = .ok (.bipush 6, 2) := by decide +kernel
theorem dX12_read_6 : decode cX12_read 6 = .ok (.if_icmp .ne 6, 3) := by decide +kernel
theorem dX12_read_9 : decode cX12_read 9 = .ok (.bipush (-2), 2) := by decide +kernel
theorem dX12_read_11 : decode cX12_read 11 = .ok (.ireturn, 1) := by decide +kernel
theorem dX12_read_12 : decode cX12_read 12 = .ok (.aload_n 0, 1) := by decide +kernel
theorem dX12_read_13 : decode cX12_read 13 = .ok (.aload_n 0, 1) := by decide +kernel
theorem dX12_read_14 : decode cX12_read 14 = .ok (.getfield 159, 3) := by decide +kernel
theorem dX12_read_17 : decode cX12_read 17 = .ok (.putfield 166, 3) := by decide +kernel
theorem dX12_read_20 : decode cX12_read 20 = .ok (.iconst 0, 1) := by decide +kernel
theorem dX12_read_21 : decode cX12_read 21 = .ok (.istore_n 1, 1) := by decide +kernel
theorem dX12_read_22 : decode cX12_read 22 = .ok (.iload_n 1, 1) := by decide +kernel
theorem dX12_read_23 : decode cX12_read 23 = .ok (.aload_n 0, 1) := by decide +kernel
theorem dX12_read_24 : decode cX12_read 24 = .ok (.getfield 166, 3) := by decide +kernel
theorem dX12_read_27 : decode cX12_read 27 = .ok (.if_icmp .ge 21, 3) := by decide +kernel
theorem dX12_read_30 : decode cX12_read 30 = .ok (.aload_n 0, 1) := by decide +kernel
theorem dX12_read_31 : decode cX12_read 31 = .ok (.getfield 17, 3) := by decide +kernel
theorem dX12_read_34 : decode cX12_read 34 = .ok (.iload_n 1, 1) := by decide +kernel
theorem dX12_read_35 : decode cX12_read 35 = .ok (.aload_n 0, 1) := by decide +kernel
theorem dX12_read_36 : decode cX12_read 36 = .ok (.getfield 13, 3) := by decide +kernel
theorem dX12_read_39 : decode cX12_read 39 = .ok (.iload_n 1, 1) := by decide +kernel
theorem dX12_read_40 : decode cX12_read 40 = .ok (.baload, 1) := by decide +kernel
theorem dX12_read_41 : decode cX12_read 41 = .ok (.bastore, 1) := by decide +kernel
theorem dX12_read_42 : decode cX12_read 42 = .ok (.iinc 1 1, 3) := by decide +kernel
theorem dX12_read_45 : decode cX12_read 45 = .ok (.goto (-23), 3) := by decide +kernel
theorem dX12_read_48 : decode cX12_read 48 = .ok (.aload_n 0, 1) := by decide +kernel
theorem dX12_read_49 : decode cX12_read 49 = .ok (.iconst 0, 1) := by decide +kernel
theorem dX12_read_50 : decode cX12_read 50 = .ok (.putfield 159, 3) := by decide +kernel
theorem dX12_read_53 : decode cX12_read 53 = .ok (.aload_n 0, 1) := by decide +kernel
theorem dX12_read_54 : decode cX12_read 54 = .ok (.invokevirtual 224, 3) := by decide +kernel
theorem dX12_read_57 : decode cX12_read 57 = .ok (.aload_n 0, 1) := by decide +kernel
theorem dX12_read_58 : decode cX12_read 58 = .ok (.iconst 0, 1) := by decide +kernel
theorem dX12_read_59 : decode cX12_read 59 = .ok (.putfield 200, 3) := by decide +kernel
theorem dX12_read_62 : decode cX12_read 62 = .ok (.aload_n 0, 1) := by decide +kernel
theorem dX12_read_63 : decode cX12_read 63 = .ok (.iconst 0, 1) := by decide +kernel
theorem dX12_read_64 : decode cX12_read 64 = .ok (.putfield 227, 3) := by decide +kernel
theorem dX12_read_67 : decode cX12_read 67 = .ok (.aload_n 0, 1) := by decide +kernel
theorem dX12_read_68 : decode cX12_read 68 = .ok (.iconst 0, 1) := by decide +kernel
theorem dX12_read_69 : decode cX12_read 69 = .ok (.putfield 197, 3) := by decide +kernel
theorem dX12_read_72 : decode cX12_read 72 = .ok (.aload_n 0, 1) := by decide +kernel
theorem dX12_read_73 : decode cX12_read 73 = .ok (.iconst 0, 1) := by decide +kernel
theorem dX12_read_74 : decode cX12_read 74 = .ok (.putfield 206, 3) := by decide +kernel
theorem dX12_read_77 : decode cX12_read 77 = .ok (.aload_n 0, 1) := by decide +kernel
theorem dX12_read_78 : decode cX12_read 78 = .ok (.getfield 40, 3) := by decide +kernel
theorem dX12_read_81 : decode cX12_read 81 = .ok (.aload_n 0, 1) := by decide +kernel
theorem dX12_read_82 : decode cX12_read 82 = .ok (.getfield 221, 3) := by decide +kernel
theorem dX12_read_85 : decode cX12_read 85 = .ok (.iconst 0, 1) := by decide +kernel
theorem dX12_read_86 : decode cX12_read 86 = .ok (.iastore, 1) := by decide +kernel
theorem dX12_read_87 : decode cX12_read 87 = .ok (.aload_n 0, 1) := by decide +kernel
theorem dX12_read_88 : decode cX12_read 88 = .ok (.getfield 43, 3) := by decide +kernel
theorem dX12_read_91 : decode cX12_read 91 = .ok (.aload_n 0, 1) := by decide +kernel
theorem dX12_read_92 : decode cX12_read 92 = .ok (.getfield 221, 3) := by decide +kernel
theorem dX12_read_95 : decode cX12_read 95 = .ok (.iconst 0, 1) := by decide +kernel
theorem dX12_read_96 : decode cX12_read 96 = .ok (.iastore, 1) := by decide +kernel
theorem dX12_read_97 : decode cX12_read 97 = .ok (.aload_n 0, 1) := by decide +kernel
theorem dX12_read_98 : decode cX12_read 98 = .ok (.sipush 140, 3) := by decide +kernel
theorem dX12_read_101 : decode cX12_read 101 = .ok (.aload_n 0, 1) := by decide +kernel
theorem dX12_read_102 : decode cX12_read 102 = .ok (.getfield 221, 3) := by decide +kernel
theorem dX12_read_105 : decode cX12_read 105 = .ok (.imul, 1) := by decide +kernel
theorem dX12_read_106 : decode cX12_read 106 = .ok (.putfield 230, 3) := by decide +kernel
theorem dX12_read_109 : decode cX12_read 109 = .ok (.aload_n 0, 1) := by decide +kernel
theorem dX12_read_110 : decode cX12_read 110 = .ok (.sipush 400, 3) := by decide +kernel
theorem dX12_read_113 : decode cX12_read 113 = .ok (.aload_n 0, 1) := by decide +kernel
theorem dX12_read_114 : decode cX12_read 114 = .ok (.getfield 221, 3) := by decide +kernel
theorem dX12_read_117 : decode cX12_read 117 = .ok (.imul, 1) := by decide +kernel
theorem dX12_read_118 : decode cX12_read 118 = .ok (.putfield 233, 3) := by decide +kernel
theorem dX12_read_121 : decode cX12_read 121 = .ok (.aload_n 0, 1) := by decide +kernel
theorem dX12_read_122 : decode cX12_read 122 = .ok (.bipush 20, 2) := by decide +kernel
theorem dX12_read_124 : decode cX12_read 124 = .ok (.invokevirtual 215, 3) := by decide +kernel
theorem dX12_read_127 : decode cX12_read 127 = .ok (.ifCond .eq 73, 3) := by decide +kernel
theorem dX12_read_130 : decode cX12_read 130 = .ok (.aload_n 0, 1) := by decide +kernel
theorem dX12_read_131 : decode cX12_read 131 = .ok (.invokevirtual 218, 3) := by decide +kernel
theorem dX12_read_134 : decode cX12_read 134 = .ok (.aload_n 0, 1) := by decide +kernel
theorem dX12_read_135 : decode cX12_read 135 = .ok (.getfield 200, 3) := by decide +kernel
theorem dX12_read_138 : decode cX12_read 138 = .ok (.istore_n 1, 1) := by decide +kernel
theorem dX12_read_139 : decode cX12_read 139 = .ok (.aload_n 0, 1) := by decide +kernel
theorem dX12_read_140 : decode cX12_read 140 = .ok (.iconst 2, 1) := by decide +kernel
theorem dX12_read_141 : decode cX12_read 141 = .ok (.invokevirtual 215, 3) := by decide +kernel
theorem dX12_read_144 : decode cX12_read 144 = .ok (.ifCond .eq 15, 3) := by decide +kernel
theorem dX12_read_147 : decode cX12_read 147 = .ok (.aload_n 0, 1) := by decide +kernel
theorem dX12_read_148 : decode cX12_read 148 = .ok (.getfield 27, 3) := by decide +kernel
theorem dX12_read_151 : decode cX12_read 151 = .ok (.aload_n 0, 1) := by decide +kernel
theorem dX12_read_152 : decode cX12_read 152 = .ok (.getfield 200, 3) := by decide +kernel
theorem dX12_read_155 : decode cX12_read 155 = .ok (.iaload, 1) := by decide +kernel
theorem dX12_read_156 : decode cX12_read 156 = .ok (.goto 4, 3) := by decide +kernel
theorem dX12_read_159 : decode cX12_read 159 = .ok (.iconst 0, 1) := by decide +kernel
theorem dX12_read_160 : decode cX12_read 160 = .ok (.istore_n 2, 1) := by decide +kernel
theorem dX12_read_161 : decode cX12_read 161 = .ok (.aload_n 0, 1) := by decide +kernel
theorem dX12_read_162 : decode cX12_read 162 = .ok (.iconst 2, 1) := by decide +kernel
theorem dX12_read_163 : decode cX12_read 163 = .ok (.invokevirtual 236, 3) := by decide +kernel
theorem dX12_read_166 : decode cX12_read 166 = .ok (.aload_n 0, 1) := by decide +kernel
theorem dX12_read_167 : decode cX12_read 167 = .ok (.getfield 197, 3) := by decide +kernel
theorem dX12_read_170 : decode cX12_read 170 = .ok (.ifCond .ne 15, 3) := by decide +kernel
theorem dX12_read_173 : decode cX12_read 173 = .ok (.iload_n 2, 1) := by decide +kernel
theorem dX12_read_174 : decode cX12_read 174 = .ok (.bipush 100, 2) := by decide +kernel
theorem dX12_read_176 : decode cX12_read 176 = .ok (.if_icmp .lt 9, 3) := by decide +kernel
theorem dX12_read_179 : decode cX12_read 179 = .ok (.aload_n 0, 1) := by decide +kernel
theorem dX12_read_180 : decode cX12_read 180 = .ok (.iconst 5, 1) := by decide +kernel
theorem dX12_read_181 : decode cX12_read 181 = .ok (.iload_n 1, 1) := by decide +kernel
theorem dX12_read_182 : decode cX12_read 182 = .ok (.invokevirtual 239, 3) := by decide +kernel
theorem dX12_read_185 : decode cX12_read 185 = .ok (.aload_n 0, 1) := by decide +kernel
theorem dX12_read_186 : decode cX12_read 186 = .ok (.getfield 40, 3) := by decide +kernel
theorem dX12_read_189 : decode cX12_read 189 = .ok (.aload_n 0, 1) := by decide +kernel
theorem dX12_read_190 : decode cX12_read 190 = .ok (.getfield 221, 3) := by decide +kernel
theorem dX12_read_193 : decode cX12_read 193 = .ok (.iload_n 2, 1) := by decide +kernel
theorem dX12_read_194 : decode cX12_read 194 = .ok (.iastore, 1) := by decide +kernel
theorem dX12_read_195 : decode cX12_read 195 = .ok (.aload_n 0, 1) := by decide +kernel
theorem dX12_read_196 : decode cX12_read 196 = .ok (.iconst 4, 1) := by decide +kernel
theorem dX12_read_197 : decode cX12_read 197 = .ok (.invokevirtual 236, 3) := by decide +kernel
theorem dX12_read_200 : decode cX12_read 200 = .ok (.aload_n 0, 1) := by decide +kernel
theorem dX12_read_201 : decode cX12_read 201 = .ok (.getfield 197, 3) := by decide +kernel
theorem dX12_read_204 : decode cX12_read 204 = .ok (.ifCond .ne 18, 3) := by decide +kernel
theorem dX12_read_207 : decode cX12_read 207 = .ok (.aload_n 0, 1) := by decide +kernel
theorem dX12_read_208 : decode cX12_read 208 = .ok (.iconst 0, 1) := by decide +kernel
theorem dX12_read_209 : decode cX12_read 209 = .ok (.invokevirtual 215, 3) := by decide +kernel
theorem dX12_read_212 : decode cX12_read 212 = .ok (.ifCond .ne 10, 3) := by decide +kernel
theorem dX12_read_215 : decode cX12_read 215 = .ok (.aload_n 0, 1) := by decide +kernel
theorem dX12_read_216 : decode cX12_read 216 = .ok (.invokevirtual 243, 3) := by decide +kernel
theorem dX12_read_219 : decode cX12_read 219 = .ok (.goto (-19), 3) := by decide +kernel
theorem dX12_read_222 : decode cX12_read 222 = .ok (.aload_n 0, 1) := by decide +kernel
theorem dX12_read_223 : decode cX12_read 223 = .ok (.aload_n 0, 1) := by decide +kernel
theorem dX12_read_224 : decode cX12_read 224 = .ok (.getfield 197, 3) := by decide +kernel
theorem dX12_read_227 : decode cX12_read 227 = .ok (.ifCond .le 10, 3) := by decide +kernel
theorem dX12_read_230 : decode cX12_read 230 = .ok (.aload_n 0, 1) := by decide +kernel
theorem dX12_read_231 : decode cX12_read 231 = .ok (.getfield 203, 3) := by decide +kernel
theorem dX12_read_234 : decode cX12_read 234 = .ok (.goto 18, 3) := by decide +kernel
theorem dX12_read_237 : decode cX12_read 237 = .ok (.aload_n 0, 1) := by decide +kernel
theorem dX12_read_238 : decode cX12_read 238 = .ok (.getfield 206, 3) := by decide +kernel
theorem dX12_read_241 : decode cX12_read 241 = .ok (.ifCond .le 10, 3) := by decide +kernel
theorem dX12_read_244 : decode cX12_read 244 = .ok (.aload_n 0, 1) := by decide +kernel
theorem dX12_read_245 : decode cX12_read 245 = .ok (.getfield 209, 3) := by decide +kernel
theorem dX12_read_248 : decode cX12_read 248 = .ok (.goto 4, 3) := by decide +kernel
theorem dX12_read_251 : decode cX12_read 251 = .ok (.iconst (-1), 1) := by decide +kernel
theorem dX12_read_252 : decode cX12_read 252 = .ok (.putfield 37, 3) := by decide +kernel
theorem dX12_read_255 : decode cX12_read 255 = .ok (.aload_n 0, 1) := by decide +kernel
theorem dX12_read_256 : decode cX12_read 256 = .ok (.getfield 197, 3) := by decide +kernel
theorem dX12_read_259 : decode cX12_read 259 = .ok (.ifCond .le 8, 3) := by decide +kernel
theorem dX12_read_262 : decode cX12_read 262 = .ok (.aload_n 0, 1) := by decide +kernel
theorem dX12_read_263 : decode cX12_read 263 = .ok (.getfield 197, 3) := by decide +kernel
theorem dX12_read_266 : decode cX12_read 266 = .ok (.ireturn, 1) := by decide +kernel
theorem dX12_read_267 : decode cX12_read 267 = .ok (.aload_n 0, 1) := by decide +kernel
theorem dX12_read_268 : decode cX12_read 268 = .ok (.getfield 206, 3) := by decide +kernel
theorem dX12_read_271 : decode cX12_read 271 = .ok (.ifCond .le 8, 3) := by decide +kernel
theorem dX12_read_274 : decode cX12_read 274 = .ok (.aload_n 0, 1) := by decide +kernel
theorem dX12_read_275 : decode cX12_read 275 = .ok (.getfield 206, 3) := by decide +kernel
theorem dX12_read_278 : decode cX12_read 278 = .ok (.ireturn, 1) := by decide +kernel
theorem dX12_read_279 : decode cX12_read 279 = .ok (.aload_n 0, 1) := by decide +kernel
theorem dX12_read_280 : decode cX12_read 280 = .ok (.dup, 1) := by decide +kernel
theorem dX12_read_281 : decode cX12_read 281 = .ok (.getfield 221, 3) := by decide +kernel
theorem dX12_read_284 : decode cX12_read 284 = .ok (.iconst 1, 1) := by decide +kernel
theorem dX12_read_285 : decode cX12_read 285 = .ok (.iadd, 1) := by decide +kernel
theorem dX12_read_286 : decode cX12_read 286 = .ok (.putfield 221, 3) := by decide +kernel
theorem dX12_read_289 : decode cX12_read 289 = .ok (.aload_n 0, 1) := by decide +kernel
theorem dX12_read_290 : decode cX12_read 290 = .ok (.invokevirtual 246, 3) := by decide +kernel
theorem dX12_read_293 : decode cX12_read 293 = .ok (.iconst 0, 1) := by decide +kernel
theorem dX12_read_294 : decode cX12_read 294 = .ok (.ireturn, 1) := by decide +kernel
theorem dX12_place_0 : decode cX12_place 0 = .ok (.aload_n 0, 1) := by decide +kernel
theorem dX12_place_1 : decode cX12_place 1 = .ok (.getfield 37, 3) := by decide +kernel
theorem dX12_place_4 : decode cX12_place 4 = .ok (.ireturn, 1) := by decide +kernel
theorem dX12_tellRule_0 : decode cX12_tellRule 0 = .ok (.aload_n 0, 1) := by decide +kernel
theorem dX12_tellRule_1 : decode cX12_tellRule 1 = .ok (.getfield 20, 3) := by decide +kernel
theorem dX12_tellRule_4 : decode cX12_tellRule 4 = .ok (.aload_n 0, 1) := by decide +kernel
theorem dX12_tellRule_5 : decode cX12_tellRule 5 = .ok (.getfield 200, 3) := by decide +kernel
theorem dX12_tellRule_8 : decode cX12_tellRule 8 = .ok (.iaload, 1) := by decide +kernel
theorem dX12_tellRule_9 : decode cX12_tellRule 9 = .ok (.istore_n 1, 1) := by decide +kernel
theorem dX12_tellRule_10 : decode cX12_tellRule 10 = .ok (.aload_n 0, 1) := by decide +kernel
theorem dX12_tellRule_11 : decode cX12_tellRule 11 = .ok (.bipush 28, 2) := by decide +kernel
theorem dX12_tellRule_13 : decode cX12_tellRule 13 = .ok (.invokevirtual 215, 3) := by decide +kernel
theorem dX12_tellRule_16 : decode cX12_tellRule 16 = .ok (.ifCond .eq 7, 3) := by decide +kernel
theorem dX12_tellRule_19 : decode cX12_tellRule 19 = .ok (.iconst 5, 1) := by decide +kernel
theorem dX12_tellRule_20 : decode cX12_tellRule 20 = .ok (.goto 45, 3) := by decide +kernel
theorem dX12_tellRule_23 : decode cX12_tellRule 23 = .ok (.aload_n 0, 1) := by decide +kernel
theorem dX12_tellRule_24 : decode cX12_tellRule 24 = .ok (.bipush 21, 2) := by decide +kernel
theorem dX12_tellRule_26 : decode cX12_tellRule 26 = .ok (.invokevirtual 215, 3) := by decide +kernel
theorem dX12_tellRule_29 : decode cX12_tellRule 29 = .ok (.ifCond .eq 7, 3) := by decide +kernel
theorem dX12_tellRule_32 : decode cX12_tellRule 32 = .ok (.iconst 0, 1) := by decide +kernel
theorem dX12_tellRule_33 : decode cX12_tellRule 33 = .ok (.goto 32, 3) := by decide +kernel
theorem dX12_tellRule_36 : decode cX12_tellRule 36 = .ok (.aload_n 0, 1) := by decide +kernel
theorem dX12_tellRule_37 : decode cX12_tellRule 37 = .ok (.getfield 197, 3) := by decide +kernel
theorem dX12_tellRule_40 : decode cX12_tellRule 40 = .ok (.ifCond .ne 24, 3) := by decide +kernel
theorem dX12_tellRule_43 : decode cX12_tellRule 43 = .ok (.iload_n 1, 1) := by decide +kernel
theorem dX12_tellRule_44 : decode cX12_tellRule 44 = .ok (.bipush 24, 2) := by decide +kernel
theorem dX12_tellRule_46 : decode cX12_tellRule 46 = .ok (.if_icmp .lt 18, 3) := by decide +kernel
theorem dX12_tellRule_49 : decode cX12_tellRule 49 = .ok (.iload_n 1, 1) := by decide +kernel
theorem dX12_tellRule_50 : decode cX12_tellRule 50 = .ok (.bipush 27, 2) := by decide +kernel
theorem dX12_tellRule_52 : decode cX12_tellRule 52 = .ok (.if_icmp .gt 12, 3) := by decide +kernel
theorem dX12_tellRule_55 : decode cX12_tellRule 55 = .ok (.iload_n 1, 1) := by decide +kernel
theorem dX12_tellRule_56 : decode cX12_tellRule 56 = .ok (.bipush 24, 2) := by decide +kernel
theorem dX12_tellRule_58 : decode cX12_tellRule 58 = .ok (.isub, 1) := by decide +kernel
theorem dX12_tellRule_59 : decode cX12_tellRule 59 = .ok (.iconst 1, 1) := by decide +kernel
theorem dX12_tellRule_60 : decode cX12_tellRule 60 = .ok (.iadd, 1) := by decide +kernel
theorem dX12_tellRule_61 : decode cX12_tellRule 61 = .ok (.goto 4, 3) := by decide +kernel
theorem dX12_tellRule_64 : decode cX12_tellRule 64 = .ok (.iconst (-1), 1) := by decide +kernel
theorem dX12_tellRule_65 : decode cX12_tellRule 65 = .ok (.istore_n 2, 1) := by decide +kernel
theorem dX12_tellRule_66 : decode cX12_tellRule 66 = .ok (.iload_n 2, 1) := by decide +kernel
theorem dX12_tellRule_67 : decode cX12_tellRule 67 = .ok (.iconst (-1), 1) := by decide +kernel
theorem dX12_tellRule_68 : decode cX12_tellRule 68 = .ok (.if_icmp .ne 11, 3) := by decide +kernel
theorem dX12_tellRule_71 : decode cX12_tellRule 71 = .ok (.aload_n 0, 1) := by decide +kernel
theorem dX12_tellRule_72 : decode cX12_tellRule 72 = .ok (.iconst 1, 1) := by decide +kernel
theorem dX12_tellRule_73 : decode cX12_tellRule 73 = .ok (.invokevirtual 212, 3) := by decide +kernel
theorem dX12_tellRule_76 : decode cX12_tellRule 76 = .ok (.goto 22, 3) := by decide +kernel
theorem dX12_tellRule_79 : decode cX12_tellRule 79 = .ok (.aload_n 0, 1) := by decide +kernel
theorem dX12_tellRule_80 : decode cX12_tellRule 80 = .ok (.getfield 43, 3) := by decide +kernel
theorem dX12_tellRule_83 : decode cX12_tellRule 83 = .ok (.aload_n 0, 1) := by decide +kernel
theorem dX12_tellRule_84 : decode cX12_tellRule 84 = .ok (.getfield 221, 3) := by decide +kernel
theorem dX12_tellRule_87 : decode cX12_tellRule 87 = .ok (.iaload, 1) := by decide +kernel
theorem dX12_tellRule_88 : decode cX12_tellRule 88 = .ok (.bipush 24, 2) := by decide +kernel
theorem dX12_tellRule_90 : decode cX12_tellRule 90 = .ok (.if_icmp .ne 8, 3) := by decide +kernel
theorem dX12_tellRule_93 : decode cX12_tellRule 93 = .ok (.aload_n 0, 1) := by decide +kernel
theorem dX12_tellRule_94 : decode cX12_tellRule 94 = .ok (.iconst 2, 1) := by decide +kernel
theorem dX12_tellRule_95 : decode cX12_tellRule 95 = .ok (.invokevirtual 212, 3) := by decide +kernel
theorem dX12_tellRule_98 : decode cX12_tellRule 98 = .ok (.aload_n 0, 1) := by decide +kernel
theorem dX12_tellRule_99 : decode cX12_tellRule 99 = .ok (.getfield 197, 3) := by decide +kernel
theorem dX12_tellRule_102 : decode cX12_tellRule 102 = .ok (.ifCond .le 4, 3) := by decide +kernel
theorem dX12_tellRule_105 : decode cX12_tellRule 105 = .ok (.return_, 1) := by decide +kernel
theorem dX12_tellRule_106 : decode cX12_tellRule 106 = .ok (.bipush 24, 2) := by decide +kernel
theorem dX12_tellRule_108 : decode cX12_tellRule 108 = .ok (.aload_n 0, 1) := by decide +kernel
theorem dX12_tellRule_109 : decode cX12_tellRule 109 = .ok (.getfield 221, 3) := by decide +kernel
theorem dX12_tellRule_112 : decode cX12_tellRule 112 = .ok (.imul, 1) := by decide +kernel
theorem dX12_tellRule_113 : decode cX12_tellRule 113 = .ok (.aload_n 0, 1) := by decide +kernel
theorem dX12_tellRule_114 : decode cX12_tellRule 114 = .ok (.getfield 43, 3) := by decide +kernel
theorem dX12_tellRule_117 : decode cX12_tellRule 117 = .ok (.aload_n 0, 1) := by decide +kernel
theorem dX12_tellRule_118 : decode cX12_tellRule 118 = .ok (.getfield 221, 3) := by decide +kernel
theorem dX12_tellRule_121 : decode cX12_tellRule 121 = .ok (.iaload, 1) := by decide +kernel
theorem dX12_tellRule_122 : decode cX12_tellRule 122 = .ok (.iadd, 1) := by decide +kernel
theorem dX12_tellRule_123 : decode cX12_tellRule 123 = .ok (.istore_n 3, 1) := by decide +kernel
theorem dX12_tellRule_124 : decode cX12_tellRule 124 = .ok (.aload_n 0, 1) := by decide +kernel
theorem dX12_tellRule_125 : decode cX12_tellRule 125 = .ok (.invokevirtual 218, 3) := by decide +kernel
theorem dX12_tellRule_128 : decode cX12_tellRule 128 = .ok (.aload_n 0, 1) := by decide +kernel
theorem dX12_tellRule_129 : decode cX12_tellRule 129 = .ok (.getfield 46, 3) := by decide +kernel
theorem dX12_tellRule_132 : decode cX12_tellRule 132 = .ok (.iload_n 3, 1) := by decide +kernel
theorem dX12_tellRule_133 : decode cX12_tellRule 133 = .ok (.iload_n 2, 1) := by decide +kernel
theorem dX12_tellRule_134 : decode cX12_tellRule 134 = .ok (.iastore, 1) := by decide +kernel
theorem dX12_tellRule_135 : decode cX12_tellRule 135 = .ok (.aload_n 0, 1) := by decide +kernel
theorem dX12_tellRule_136 : decode cX12_tellRule 136 = .ok (.getfield 49, 3) := by decide +kernel
theorem dX12_tellRule_139 : decode cX12_tellRule 139 = .ok (.iload_n 3, 1) := by decide +kernel
theorem dX12_tellRule_140 : decode cX12_tellRule 140 = .ok (.aload_n 0, 1) := by decide +kernel
theorem dX12_tellRule_141 : decode cX12_tellRule 141 = .ok (.getfield 30, 3) := by decide +kernel
theorem dX12_tellRule_144 : decode cX12_tellRule 144 = .ok (.aload_n 0, 1) := by decide +kernel
theorem dX12_tellRule_145 : decode cX12_tellRule 145 = .ok (.getfield 200, 3) := by decide +kernel
theorem dX12_tellRule_148 : decode cX12_tellRule 148 = .ok (.laload, 1) := by decide +kernel
theorem dX12_tellRule_149 : decode cX12_tellRule 149 = .ok (.lastore, 1) := by decide +kernel
theorem dX12_tellRule_150 : decode cX12_tellRule 150 = .ok (.aload_n 0, 1) := by decide +kernel
theorem dX12_tellRule_151 : decode cX12_tellRule 151 = .ok (.iconst 1, 1) := by decide +kernel
theorem dX12_tellRule_152 : decode cX12_tellRule 152 = .ok (.invokevirtual 236, 3) := by decide +kernel
theorem dX12_tellRule_155 : decode cX12_tellRule 155 = .ok (.aload_n 0, 1) := by decide +kernel
theorem dX12_tellRule_156 : decode cX12_tellRule 156 = .ok (.getfield 52, 3) := by decide +kernel
theorem dX12_tellRule_159 : decode cX12_tellRule 159 = .ok (.iload_n 3, 1) := by decide +kernel
theorem dX12_tellRule_160 : decode cX12_tellRule 160 = .ok (.aload_n 0, 1) := by decide +kernel
theorem dX12_tellRule_161 : decode cX12_tellRule 161 = .ok (.getfield 233, 3) := by decide +kernel
theorem dX12_tellRule_164 : decode cX12_tellRule 164 = .ok (.iastore, 1) := by decide +kernel
theorem dX12_tellRule_165 : decode cX12_tellRule 165 = .ok (.iload_n 2, 1) := by decide +kernel
theorem dX12_tellRule_166 : decode cX12_tellRule 166 = .ok (.ifCond .ne 13, 3) := by decide +kernel
theorem dX12_tellRule_169 : decode cX12_tellRule 169 = .ok (.aload_n 0, 1) := by decide +kernel
theorem dX12_tellRule_170 : decode cX12_tellRule 170 = .ok (.bipush 22, 2) := by decide +kernel
theorem dX12_tellRule_172 : decode cX12_tellRule 172 = .ok (.invokevirtual 236, 3) := by decide +kernel
theorem dX12_tellRule_175 : decode cX12_tellRule 175 = .ok (.aload_n 0, 1) := by decide +kernel
theorem dX12_tellRule_176 : decode cX12_tellRule 176 = .ok (.invokevirtual 249, 3) := by decide +kernel
theorem dX12_tellRule_179 : decode cX12_tellRule 179 = .ok (.aload_n 0, 1) := by decide +kernel
theorem dX12_tellRule_180 : decode cX12_tellRule 180 = .ok (.getfield 55, 3) := by decide +kernel
theorem dX12_tellRule_183 : decode cX12_tellRule 183 = .ok (.iload_n 3, 1) := by decide +kernel
theorem dX12_tellRule_184 : decode cX12_tellRule 184 = .ok (.aload_n 0, 1) := by decide +kernel
theorem dX12_tellRule_185 : decode cX12_tellRule 185 = .ok (.getfield 233, 3) := by decide +kernel
theorem dX12_tellRule_188 : decode cX12_tellRule 188 = .ok (.iastore, 1) := by decide +kernel
theorem dX12_tellRule_189 : decode cX12_tellRule 189 = .ok (.aload_n 0, 1) := by decide +kernel
theorem dX12_tellRule_190 : decode cX12_tellRule 190 = .ok (.getfield 58, 3) := by decide +kernel
theorem dX12_tellRule_193 : decode cX12_tellRule 193 = .ok (.iload_n 3, 1) := by decide +kernel
theorem dX12_tellRule_194 : decode cX12_tellRule 194 = .ok (.aload_n 0, 1) := by decide +kernel
theorem dX12_tellRule_195 : decode cX12_tellRule 195 = .ok (.getfield 230, 3) := by decide +kernel
theorem dX12_tellRule_198 : decode cX12_tellRule 198 = .ok (.iastore, 1) := by decide +kernel
theorem dX12_tellRule_199 : decode cX12_tellRule 199 = .ok (.aload_n 0, 1) := by decide +kernel
theorem dX12_tellRule_200 : decode cX12_tellRule 200 = .ok (.bipush 23, 2) := by decide +kernel
theorem dX12_tellRule_202 : decode cX12_tellRule 202 = .ok (.invokevirtual 215, 3) := by decide +kernel
theorem dX12_tellRule_205 : decode cX12_tellRule 205 = .ok (.ifCond .eq 12, 3) := by decide +kernel
theorem dX12_tellRule_208 : decode cX12_tellRule 208 = .ok (.iload_n 2, 1) := by decide +kernel
theorem dX12_tellRule_209 : decode cX12_tellRule 209 = .ok (.iconst 5, 1) := by decide +kernel
theorem dX12_tellRule_210 : decode cX12_tellRule 210 = .ok (.if_icmp .eq 7, 3) := by decide +kernel
theorem dX12_tellRule_213 : decode cX12_tellRule 213 = .ok (.iconst 1, 1) := by decide +kernel
theorem dX12_tellRule_214 : decode cX12_tellRule 214 = .ok (.goto 4, 3) := by decide +kernel
theorem dX12_tellRule_217 : decode cX12_tellRule 217 = .ok (.iconst 0, 1) := by decide +kernel
theorem dX12_tellRule_218 : decode cX12_tellRule 218 = .ok (.istore 4, 2) := by decide +kernel
theorem dX12_tellRule_220 : decode cX12_tellRule 220 = .ok (.iload_n 2, 1) := by decide +kernel
theorem dX12_tellRule_221 : decode cX12_tellRule 221 = .ok (.ifCond .le 17, 3) := by decide +kernel
theorem dX12_tellRule_224 : decode cX12_tellRule 224 = .ok (.iload_n 2, 1) := by decide +kernel
theorem dX12_tellRule_225 : decode cX12_tellRule 225 = .ok (.iconst 5, 1) := by decide +kernel
theorem dX12_tellRule_226 : decode cX12_tellRule 226 = .ok (.if_icmp .ge 12, 3) := by decide +kernel
theorem dX12_tellRule_229 : decode cX12_tellRule 229 = .ok (.aload_n 0, 1) := by decide +kernel
theorem dX12_tellRule_230 : decode cX12_tellRule 230 = .ok (.bipush 23, 2) := by decide +kernel
theorem dX12_tellRule_232 : decode cX12_tellRule 232 = .ok (.invokevirtual 236, 3) := by decide +kernel
theorem dX12_tellRule_235 : decode cX12_tellRule 235 = .ok (.goto 12, 3) := by decide +kernel
theorem dX12_tellRule_238 : decode cX12_tellRule 238 = .ok (.iload 4, 2) := by decide +kernel
theorem dX12_tellRule_240 : decode cX12_tellRule 240 = .ok (.ifCond .eq 7, 3) := by decide +kernel
theorem dX12_tellRule_243 : decode cX12_tellRule 243 = .ok (.aload_n 0, 1) := by decide +kernel
theorem dX12_tellRule_244 : decode cX12_tellRule 244 = .ok (.invokevirtual 218, 3) := by decide +kernel
theorem dX12_tellRule_247 : decode cX12_tellRule 247 = .ok (.iconst 1, 1) := by decide +kernel
theorem dX12_tellRule_248 : decode cX12_tellRule 248 = .ok (.istore 5, 2) := by decide +kernel
theorem dX12_tellRule_250 : decode cX12_tellRule 250 = .ok (.iload 4, 2) := by decide +kernel
theorem dX12_tellRule_252 : decode cX12_tellRule 252 = .ok (.ifCond .eq 57, 3) := by decide +kernel
theorem dX12_tellRule_255 : decode cX12_tellRule 255 = .ok (.aload_n 0, 1) := by decide +kernel
theorem dX12_tellRule_256 : decode cX12_tellRule 256 = .ok (.getfield 197, 3) := by decide +kernel
theorem dX12_tellRule_259 : decode cX12_tellRule 259 = .ok (.ifCond .ne 50, 3) := by decide +kernel
theorem dX12_tellRule_262 : decode cX12_tellRule 262 = .ok (.aload_n 0, 1) := by decide +kernel
theorem dX12_tellRule_263 : decode cX12_tellRule 263 = .ok (.iload 5, 2) := by decide +kernel
theorem dX12_tellRule_265 : decode cX12_tellRule 265 = .ok (.invokevirtual 252, 3) := by decide +kernel
theorem dX12_tellRule_268 : decode cX12_tellRule 268 = .ok (.aload_n 0, 1) := by decide +kernel
theorem dX12_tellRule_269 : decode cX12_tellRule 269 = .ok (.bipush 29, 2) := by decide +kernel
theorem dX12_tellRule_271 : decode cX12_tellRule 271 = .ok (.invokevirtual 215, 3) := by decide +kernel
theorem dX12_tellRule_274 : decode cX12_tellRule 274 = .ok (.istore 5, 2) := by decide +kernel
theorem dX12_tellRule_276 : decode cX12_tellRule 276 = .ok (.iload 5, 2) := by decide +kernel
theorem dX12_tellRule_278 : decode cX12_tellRule 278 = .ok (.ifCond .ne 12, 3) := by decide +kernel
theorem dX12_tellRule_281 : decode cX12_tellRule 281 = .ok (.aload_n 0, 1) := by decide +kernel
theorem dX12_tellRule_282 : decode cX12_tellRule 282 = .ok (.bipush 30, 2) := by decide +kernel
theorem dX12_tellRule_284 : decode cX12_tellRule 284 = .ok (.invokevirtual 215, 3) := by decide +kernel
theorem dX12_tellRule_287 : decode cX12_tellRule 287 = .ok (.ifCond .eq 7, 3) := by decide +kernel
theorem dX12_tellRule_290 : decode cX12_tellRule 290 = .ok (.iconst 1, 1) := by decide +kernel
theorem dX12_tellRule_291 : decode cX12_tellRule 291 = .ok (.goto 4, 3) := by decide +kernel
theorem dX12_tellRule_294 : decode cX12_tellRule 294 = .ok (.iconst 0, 1) := by decide +kernel
theorem dX12_tellRule_295 : decode cX12_tellRule 295 = .ok (.istore 4, 2) := by decide +kernel
theorem dX12_tellRule_297 : decode cX12_tellRule 297 = .ok (.iload 4, 2) := by decide +kernel
theorem dX12_tellRule_299 : decode cX12_tellRule 299 = .ok (.ifCond .eq (-49), 3) := by decide +kernel
theorem dX12_tellRule_302 : decode cX12_tellRule 302 = .ok (.aload_n 0, 1) := by decide +kernel
theorem dX12_tellRule_303 : decode cX12_tellRule 303 = .ok (.invokevirtual 218, 3) := by decide +kernel
theorem dX12_tellRule_306 : decode cX12_tellRule 306 = .ok (.goto (-56), 3) := by decide +kernel
theorem dX12_tellRule_309 : decode cX12_tellRule 309 = .ok (.aload_n 0, 1) := by decide +kernel
theorem dX12_tellRule_310 : decode cX12_tellRule 310 = .ok (.iconst 4, 1) := by decide +kernel
theorem dX12_tellRule_311 : decode cX12_tellRule 311 = .ok (.invokevirtual 236, 3) := by decide +kernel
theorem dX12_tellRule_314 : decode cX12_tellRule 314 = .ok (.aload_n 0, 1) := by decide +kernel
theorem dX12_tellRule_315 : decode cX12_tellRule 315 = .ok (.getfield 61, 3) := by decide +kernel
theorem dX12_tellRule_318 : decode cX12_tellRule 318 = .ok (.iload_n 3, 1) := by decide +kernel
theorem dX12_tellRule_319 : decode cX12_tellRule 319 = .ok (.aload_n 0, 1) := by decide +kernel
theorem dX12_tellRule_320 : decode cX12_tellRule 320 = .ok (.getfield 230, 3) := by decide +kernel
theorem dX12_tellRule_323 : decode cX12_tellRule 323 = .ok (.iastore, 1) := by decide +kernel
theorem dX12_tellRule_324 : decode cX12_tellRule 324 = .ok (.aload_n 0, 1) := by decide +kernel
theorem dX12_tellRule_325 : decode cX12_tellRule 325 = .ok (.getfield 197, 3) := by decide +kernel
theorem dX12_tellRule_328 : decode cX12_tellRule 328 = .ok (.ifCond .ne 16, 3) := by decide +kernel
theorem dX12_tellRule_331 : decode cX12_tellRule 331 = .ok (.aload_n 0, 1) := by decide +kernel
theorem dX12_tellRule_332 : decode cX12_tellRule 332 = .ok (.getfield 43, 3) := by decide +kernel
theorem dX12_tellRule_335 : decode cX12_tellRule 335 = .ok (.aload_n 0, 1) := by decide +kernel
theorem dX12_tellRule_336 : decode cX12_tellRule 336 = .ok (.getfield 221, 3) := by decide +kernel
theorem dX12_tellRule_339 : decode cX12_tellRule 339 = .ok (.dup2, 1) := by decide +kernel
theorem dX12_tellRule_340 : decode cX12_tellRule 340 = .ok (.iaload, 1) := by decide +kernel
theorem dX12_tellRule_341 : decode cX12_tellRule 341 = .ok (.iconst 1, 1) := by decide +kernel
theorem dX12_tellRule_342 : decode cX12_tellRule 342 = .ok (.iadd, 1) := by decide +kernel
theorem dX12_tellRule_343 : decode cX12_tellRule 343 = .ok (.iastore, 1) := by decide +kernel
theorem dX12_tellRule_344 : decode cX12_tellRule 344 = .ok (.return_, 1) := by decide +kernel
theorem dX12_literal_0 : decode cX12_literal 0 = .ok (.iconst 0, 1) := by decide +kernel
theorem dX12_literal_1 : decode cX12_literal 1 = .ok (.istore_n 2, 1) := by decide +kernel
theorem dX12_literal_2 : decode cX12_literal 2 = .ok (.aload_n 0, 1) := by decide +kernel
theorem dX12_literal_3 : decode cX12_literal 3 = .ok (.bipush 31, 2) := by decide +kernel
theorem dX12_literal_5 : decode cX12_literal 5 = .ok (.invokevirtual 215, 3) := by decide +kernel
theorem dX12_literal_8 : decode cX12_literal 8 = .ok (.ifCond .eq 20, 3) := by decide +kernel
theorem dX12_literal_11 : decode cX12_literal 11 = .ok (.iload_n 2, 1) := by decide +kernel
theorem dX12_literal_12 : decode cX12_literal 12 = .ok (.ifCond .ne 7, 3) := by decide +kernel
theorem dX12_literal_15 : decode cX12_literal 15 = .ok (.iconst 1, 1) := by decide +kernel
theorem dX12_literal_16 : decode cX12_literal 16 = .ok (.goto 4, 3) := by decide +kernel
theorem dX12_literal_19 : decode cX12_literal 19 = .ok (.iconst 0, 1) := by decide +kernel
theorem dX12_literal_20 : decode cX12_literal 20 = .ok (.istore_n 2, 1) := by decide +kernel
theorem dX12_literal_21 : decode cX12_literal 21 = .ok (.aload_n 0, 1) := by decide +kernel
theorem dX12_literal_22 : decode cX12_literal 22 = .ok (.invokevirtual 218, 3) := by decide +kernel
theorem dX12_literal_25 : decode cX12_literal 25 = .ok (.goto (-23), 3) := by decide +kernel
theorem dX12_literal_28 : decode cX12_literal 28 = .ok (.aload_n 0, 1) := by decide +kernel
theorem dX12_literal_29 : decode cX12_literal 29 = .ok (.getfield 233, 3) := by decide +kernel
theorem dX12_literal_32 : decode cX12_literal 32 = .ok (.istore_n 3, 1) := by decide +kernel
theorem dX12_literal_33 : decode cX12_literal 33 = .ok (.aload_n 0, 1) := by decide +kernel
theorem dX12_literal_34 : decode cX12_literal 34 = .ok (.invokevirtual 249, 3) := by decide +kernel
theorem dX12_literal_37 : decode cX12_literal 37 = .ok (.aload_n 0, 1) := by decide +kernel
theorem dX12_literal_38 : decode cX12_literal 38 = .ok (.getfield 197, 3) := by decide +kernel
theorem dX12_literal_41 : decode cX12_literal 41 = .ok (.ifCond .le 7, 3) := by decide +kernel
theorem dX12_literal_44 : decode cX12_literal 44 = .ok (.iconst 0, 1) := by decide +kernel
theorem dX12_literal_45 : decode cX12_literal 45 = .ok (.goto 15, 3) := by decide +kernel
theorem dX12_literal_48 : decode cX12_literal 48 = .ok (.aload_n 0, 1) := by decide +kernel
theorem dX12_literal_49 : decode cX12_literal 49 = .ok (.getfield 20, 3) := by decide +kernel
theorem dX12_literal_52 : decode cX12_literal 52 = .ok (.aload_n 0, 1) := by decide +kernel
theorem dX12_literal_53 : decode cX12_literal 53 = .ok (.getfield 200, 3) := by decide +kernel
theorem dX12_literal_56 : decode cX12_literal 56 = .ok (.iaload, 1) := by decide +kernel
theorem dX12_literal_57 : decode cX12_literal 57 = .ok (.bipush 11, 2) := by decide +kernel
theorem dX12_literal_59 : decode cX12_literal 59 = .ok (.isub, 1) := by decide +kernel
theorem dX12_literal_60 : decode cX12_literal 60 = .ok (.istore 4, 2) := by decide +kernel
theorem dX12_literal_62 : decode cX12_literal 62 = .ok (.aload_n 0, 1) := by decide +kernel
theorem dX12_literal_63 : decode cX12_literal 63 = .ok (.getfield 197, 3) := by decide +kernel
theorem dX12_literal_66 : decode cX12_literal 66 = .ok (.ifCond .ne 19, 3) := by decide +kernel
theorem dX12_literal_69 : decode cX12_literal 69 = .ok (.iload 4, 2) := by decide +kernel
theorem dX12_literal_71 : decode cX12_literal 71 = .ok (.ifCond .lt 9, 3) := by decide +kernel
theorem dX12_literal_74 : decode cX12_literal 74 = .ok (.iload 4, 2) := by decide +kernel
theorem dX12_literal_76 : decode cX12_literal 76 = .ok (.iconst 3, 1) := by decide +kernel
theorem dX12_literal_77 : decode cX12_literal 77 = .ok (.if_icmp .le 8, 3) := by decide +kernel
theorem dX12_literal_80 : decode cX12_literal 80 = .ok (.aload_n 0, 1) := by decide +kernel
theorem dX12_literal_81 : decode cX12_literal 81 = .ok (.iconst 1, 1) := by decide +kernel
theorem dX12_literal_82 : decode cX12_literal 82 = .ok (.invokevirtual 212, 3) := by decide +kernel
theorem dX12_literal_85 : decode cX12_literal 85 = .ok (.aload_n 0, 1) := by decide +kernel
theorem dX12_literal_86 : decode cX12_literal 86 = .ok (.invokevirtual 218, 3) := by decide +kernel
theorem dX12_literal_89 : decode cX12_literal 89 = .ok (.aload_n 0, 1) := by decide +kernel
theorem dX12_literal_90 : decode cX12_literal 90 = .ok (.getfield 233, 3) := by decide +kernel
theorem dX12_literal_93 : decode cX12_literal 93 = .ok (.istore 5, 2) := by decide +kernel
theorem dX12_literal_95 : decode cX12_literal 95 = .ok (.aload_n 0, 1) := by decide +kernel
theorem dX12_literal_96 : decode cX12_literal 96 = .ok (.invokevirtual 249, 3) := by decide +kernel
theorem dX12_literal_99 : decode cX12_literal 99 = .ok (.aload_n 0, 1) := by decide +kernel
theorem dX12_literal_100 : decode cX12_literal 100 = .ok (.getfield 197, 3) := by decide +kernel
theorem dX12_literal_103 : decode cX12_literal 103 = .ok (.ifCond .le 4, 3) := by decide +kernel
theorem dX12_literal_106 : decode cX12_literal 106 = .ok (.return_, 1) := by decide +kernel
theorem dX12_literal_107 : decode cX12_literal 107 = .ok (.aload_n 0, 1) := by decide +kernel
theorem dX12_literal_108 : decode cX12_literal 108 = .ok (.getfield 64, 3) := by decide +kernel
theorem dX12_literal_111 : decode cX12_literal 111 = .ok (.aload_n 0, 1) := by decide +kernel
theorem dX12_literal_112 : decode cX12_literal 112 = .ok (.getfield 230, 3) := by decide +kernel
theorem dX12_literal_115 : decode cX12_literal 115 = .ok (.iload 4, 2) := by decide +kernel
theorem dX12_literal_117 : decode cX12_literal 117 = .ok (.iastore, 1) := by decide +kernel
theorem dX12_literal_118 : decode cX12_literal 118 = .ok (.aload_n 0, 1) := by decide +kernel
theorem dX12_literal_119 : decode cX12_literal 119 = .ok (.getfield 67, 3) := by decide +kernel
theorem dX12_literal_122 : decode cX12_literal 122 = .ok (.aload_n 0, 1) := by decide +kernel
theorem dX12_literal_123 : decode cX12_literal 123 = .ok (.getfield 230, 3) := by decide +kernel
theorem dX12_literal_126 : decode cX12_literal 126 = .ok (.iload_n 2, 1) := by decide +kernel
theorem dX12_literal_127 : decode cX12_literal 127 = .ok (.bastore, 1) := by decide +kernel
theorem dX12_literal_128 : decode cX12_literal 128 = .ok (.aload_n 0, 1) := by decide +kernel
theorem dX12_literal_129 : decode cX12_literal 129 = .ok (.getfield 71, 3) := by decide +kernel
theorem dX12_literal_132 : decode cX12_literal 132 = .ok (.aload_n 0, 1) := by decide +kernel
theorem dX12_literal_133 : decode cX12_literal 133 = .ok (.getfield 230, 3) := by decide +kernel
theorem dX12_literal_136 : decode cX12_literal 136 = .ok (.iload_n 1, 1) := by decide +kernel
theorem dX12_literal_137 : decode cX12_literal 137 = .ok (.bastore, 1) := by decide +kernel
theorem dX12_literal_138 : decode cX12_literal 138 = .ok (.aload_n 0, 1) := by decide +kernel
theorem dX12_literal_139 : decode cX12_literal 139 = .ok (.getfield 74, 3) := by decide +kernel
theorem dX12_literal_142 : decode cX12_literal 142 = .ok (.aload_n 0, 1) := by decide +kernel
theorem dX12_literal_143 : decode cX12_literal 143 = .ok (.getfield 230, 3) := by decide +kernel
theorem dX12_literal_146 : decode cX12_literal 146 = .ok (.iload_n 3, 1) := by decide +kernel
theorem dX12_literal_147 : decode cX12_literal 147 = .ok (.iastore, 1) := by decide +kernel
theorem dX12_literal_148 : decode cX12_literal 148 = .ok (.aload_n 0, 1) := by decide +kernel
theorem dX12_literal_149 : decode cX12_literal 149 = .ok (.getfield 77, 3) := by decide +kernel
theorem dX12_literal_152 : decode cX12_literal 152 = .ok (.aload_n 0, 1) := by decide +kernel
theorem dX12_literal_153 : decode cX12_literal 153 = .ok (.getfield 230, 3) := by decide +kernel
theorem dX12_literal_156 : decode cX12_literal 156 = .ok (.iload 5, 2) := by decide +kernel
theorem dX12_literal_158 : decode cX12_literal 158 = .ok (.iastore, 1) := by decide +kernel
theorem dX12_literal_159 : decode cX12_literal 159 = .ok (.aload_n 0, 1) := by decide +kernel
theorem dX12_literal_160 : decode cX12_literal 160 = .ok (.getfield 80, 3) := by decide +kernel
theorem dX12_literal_163 : decode cX12_literal 163 = .ok (.aload_n 0, 1) := by decide +kernel
theorem dX12_literal_164 : decode cX12_literal 164 = .ok (.getfield 230, 3) := by decide +kernel
theorem dX12_literal_167 : decode cX12_literal 167 = .ok (.aload_n 0, 1) := by decide +kernel
theorem dX12_literal_168 : decode cX12_literal 168 = .ok (.getfield 233, 3) := by decide +kernel
theorem dX12_literal_171 : decode cX12_literal 171 = .ok (.iastore, 1) := by decide +kernel
theorem dX12_literal_172 : decode cX12_literal 172 = .ok (.aload_n 0, 1) := by decide +kernel
theorem dX12_literal_173 : decode cX12_literal 173 = .ok (.dup, 1) := by decide +kernel
theorem dX12_literal_174 : decode cX12_literal 174 = .ok (.getfield 230, 3) := by decide +kernel
theorem dX12_literal_177 : decode cX12_literal 177 = .ok (.iconst 1, 1) := by decide +kernel
theorem dX12_literal_178 : decode cX12_literal 178 = .ok (.iadd, 1) := by decide +kernel
theorem dX12_literal_179 : decode cX12_literal 179 = .ok (.putfield 230, 3) := by decide +kernel
theorem dX12_literal_182 : decode cX12_literal 182 = .ok (.return_, 1) := by decide +kernel
theorem dX12_emit_0 : decode cX12_emit 0 = .ok (.aload_n 0, 1) := by decide +kernel
theorem dX12_emit_1 : decode cX12_emit 1 = .ok (.getfield 83, 3) := by decide +kernel
theorem dX12_emit_4 : decode cX12_emit 4 = .ok (.aload_n 0, 1) := by decide +kernel
theorem dX12_emit_5 : decode cX12_emit 5 = .ok (.getfield 233, 3) := by decide +kernel
theorem dX12_emit_8 : decode cX12_emit 8 = .ok (.iload_n 1, 1) := by decide +kernel
theorem dX12_emit_9 : decode cX12_emit 9 = .ok (.iastore, 1) := by decide +kernel
theorem dX12_emit_10 : decode cX12_emit 10 = .ok (.aload_n 0, 1) := by decide +kernel
theorem dX12_emit_11 : decode cX12_emit 11 = .ok (.getfield 86, 3) := by decide +kernel
theorem dX12_emit_14 : decode cX12_emit 14 = .ok (.aload_n 0, 1) := by decide +kernel
theorem dX12_emit_15 : decode cX12_emit 15 = .ok (.getfield 233, 3) := by decide +kernel
theorem dX12_emit_18 : decode cX12_emit 18 = .ok (.iload_n 2, 1) := by decide +kernel
theorem dX12_emit_19 : decode cX12_emit 19 = .ok (.iastore, 1) := by decide +kernel
theorem dX12_emit_20 : decode cX12_emit 20 = .ok (.aload_n 0, 1) := by decide +kernel
theorem dX12_emit_21 : decode cX12_emit 21 = .ok (.dup, 1) := by decide +kernel
theorem dX12_emit_22 : decode cX12_emit 22 = .ok (.getfield 233, 3) := by decide +kernel
theorem dX12_emit_25 : decode cX12_emit 25 = .ok (.iconst 1, 1) := by decide +kernel
theorem dX12_emit_26 : decode cX12_emit 26 = .ok (.iadd, 1) := by decide +kernel
theorem dX12_emit_27 : decode cX12_emit 27 = .ok (.putfield 233, 3) := by decide +kernel
theorem dX12_emit_30 : decode cX12_emit 30 = .ok (.return_, 1) := by decide +kernel
theorem dX12_comesOut_0 : decode cX12_comesOut 0 = .ok (.aload_n 0, 1) := by decide +kernel
theorem dX12_comesOut_1 : decode cX12_comesOut 1 = .ok (.getfield 256, 3) := by decide +kernel
theorem dX12_comesOut_4 : decode cX12_comesOut 4 = .ok (.ifCond .le 87, 3) := by decide +kernel
theorem dX12_comesOut_7 : decode cX12_comesOut 7 = .ok (.aload_n 0, 1) := by decide +kernel
theorem dX12_comesOut_8 : decode cX12_comesOut 8 = .ok (.getfield 89, 3) := by decide +kernel
theorem dX12_comesOut_11 : decode cX12_comesOut 11 = .ok (.aload_n 0, 1) := by decide +kernel
theorem dX12_comesOut_12 : decode cX12_comesOut 12 = .ok (.getfield 256, 3) := by decide +kernel
theorem dX12_comesOut_15 : decode cX12_comesOut 15 = .ok (.iconst 1, 1) := by decide +kernel
theorem dX12_comesOut_16 : decode cX12_comesOut 16 = .ok (.isub, 1) := by decide +kernel
theorem dX12_comesOut_17 : decode cX12_comesOut 17 = .ok (.iaload, 1) := by decide +kernel
theorem dX12_comesOut_18 : decode cX12_comesOut 18 = .ok (.istore_n 2, 1) := by decide +kernel
theorem dX12_comesOut_19 : decode cX12_comesOut 19 = .ok (.iload_n 2, 1) := by decide +kernel
theorem dX12_comesOut_20 : decode cX12_comesOut 20 = .ok (.bipush 6, 2) := by decide +kernel
theorem dX12_comesOut_22 : decode cX12_comesOut 22 = .ok (.if_icmp .eq 19, 3) := by decide +kernel
theorem dX12_comesOut_25 : decode cX12_comesOut 25 = .ok (.iload_n 1, 1) := by decide +kernel
theorem dX12_comesOut_26 : decode cX12_comesOut 26 = .ok (.ifCond .eq 16, 3) := by decide +kernel
theorem dX12_comesOut_29 : decode cX12_comesOut 29 = .ok (.iload_n 2, 1) := by decide +kernel
theorem dX12_comesOut_30 : decode cX12_comesOut 30 = .ok (.bipush 8, 2) := by decide +kernel
theorem dX12_comesOut_32 : decode cX12_comesOut 32 = .ok (.if_icmp .eq 9, 3) := by decide +kernel
theorem dX12_comesOut_35 : decode cX12_comesOut 35 = .ok (.iload_n 2, 1) := by decide +kernel
theorem dX12_comesOut_36 : decode cX12_comesOut 36 = .ok (.bipush 9, 2) := by decide +kernel
theorem dX12_comesOut_38 : decode cX12_comesOut 38 = .ok (.if_icmp .ne 4, 3) := by decide +kernel
theorem dX12_comesOut_41 : decode cX12_comesOut 41 = .ok (.return_, 1) := by decide +kernel
theorem dX12_comesOut_42 : decode cX12_comesOut 42 = .ok (.aload_n 0, 1) := by decide +kernel
theorem dX12_comesOut_43 : decode cX12_comesOut 43 = .ok (.dup, 1) := by decide +kernel
theorem dX12_comesOut_44 : decode cX12_comesOut 44 = .ok (.getfield 256, 3) := by decide +kernel
theorem dX12_comesOut_47 : decode cX12_comesOut 47 = .ok (.iconst 1, 1) := by decide +kernel
theorem dX12_comesOut_48 : decode cX12_comesOut 48 = .ok (.isub, 1) := by decide +kernel
theorem dX12_comesOut_49 : decode cX12_comesOut 49 = .ok (.putfield 256, 3) := by decide +kernel
theorem dX12_comesOut_52 : decode cX12_comesOut 52 = .ok (.aload_n 0, 1) := by decide +kernel
theorem dX12_comesOut_53 : decode cX12_comesOut 53 = .ok (.iload_n 2, 1) := by decide +kernel
theorem dX12_comesOut_54 : decode cX12_comesOut 54 = .ok (.bipush 8, 2) := by decide +kernel
theorem dX12_comesOut_56 : decode cX12_comesOut 56 = .ok (.if_icmp .ne 7, 3) := by decide +kernel
theorem dX12_comesOut_59 : decode cX12_comesOut 59 = .ok (.iconst 2, 1) := by decide +kernel
theorem dX12_comesOut_60 : decode cX12_comesOut 60 = .ok (.goto 24, 3) := by decide +kernel
theorem dX12_comesOut_63 : decode cX12_comesOut 63 = .ok (.iload_n 2, 1) := by decide +kernel
theorem dX12_comesOut_64 : decode cX12_comesOut 64 = .ok (.bipush 9, 2) := by decide +kernel
theorem dX12_comesOut_66 : decode cX12_comesOut 66 = .ok (.if_icmp .ne 7, 3) := by decide +kernel
theorem dX12_comesOut_69 : decode cX12_comesOut 69 = .ok (.iconst 3, 1) := by decide +kernel
theorem dX12_comesOut_70 : decode cX12_comesOut 70 = .ok (.goto 14, 3) := by decide +kernel
theorem dX12_comesOut_73 : decode cX12_comesOut 73 = .ok (.iload_n 2, 1) := by decide +kernel
theorem dX12_comesOut_74 : decode cX12_comesOut 74 = .ok (.bipush 10, 2) := by decide +kernel
theorem dX12_comesOut_76 : decode cX12_comesOut 76 = .ok (.if_icmp .ne 7, 3) := by decide +kernel
theorem dX12_comesOut_79 : decode cX12_comesOut 79 = .ok (.iconst 4, 1) := by decide +kernel
theorem dX12_comesOut_80 : decode cX12_comesOut 80 = .ok (.goto 4, 3) := by decide +kernel
theorem dX12_comesOut_83 : decode cX12_comesOut 83 = .ok (.iconst 5, 1) := by decide +kernel
theorem dX12_comesOut_84 : decode cX12_comesOut 84 = .ok (.iconst 0, 1) := by decide +kernel
theorem dX12_comesOut_85 : decode cX12_comesOut 85 = .ok (.invokevirtual 259, 3) := by decide +kernel
theorem dX12_comesOut_88 : decode cX12_comesOut 88 = .ok (.goto (-88), 3) := by decide +kernel
theorem dX12_comesOut_91 : decode cX12_comesOut 91 = .ok (.return_, 1) := by decide +kernel
theorem dX12_expression_0 : decode cX12_expression 0 = .ok (.aload_n 0, 1) := by decide +kernel
theorem dX12_expression_1 : decode cX12_expression 1 = .ok (.iconst 0, 1) := by decide +kernel
theorem dX12_expression_2 : decode cX12_expression 2 = .ok (.putfield 256, 3) := by decide +kernel
theorem dX12_expression_5 : decode cX12_expression 5 = .ok (.aload_n 0, 1) := by decide +kernel
theorem dX12_expression_6 : decode cX12_expression 6 = .ok (.getfield 227, 3) := by decide +kernel
theorem dX12_expression_9 : decode cX12_expression 9 = .ok (.istore_n 1, 1) := by decide +kernel
theorem dX12_expression_10 : decode cX12_expression 10 = .ok (.iconst 1, 1) := by decide +kernel
theorem dX12_expression_11 : decode cX12_expression 11 = .ok (.istore_n 2, 1) := by decide +kernel
theorem dX12_expression_12 : decode cX12_expression 12 = .ok (.iload_n 2, 1) := by decide +kernel
theorem dX12_expression_13 : decode cX12_expression 13 = .ok (.ifCond .eq 259, 3) := by decide +kernel
theorem dX12_expression_16 : decode cX12_expression 16 = .ok (.aload_n 0, 1) := by decide +kernel
theorem dX12_expression_17 : decode cX12_expression 17 = .ok (.getfield 197, 3) := by decide +kernel
theorem dX12_expression_20 : decode cX12_expression 20 = .ok (.ifCond .ne 252, 3) := by decide +kernel
theorem dX12_expression_23 : decode cX12_expression 23 = .ok (.aload_n 0, 1) := by decide +kernel
theorem dX12_expression_24 : decode cX12_expression 24 = .ok (.bipush 6, 2) := by decide +kernel
theorem dX12_expression_26 : decode cX12_expression 26 = .ok (.invokevirtual 215, 3) := by decide +kernel
theorem dX12_expression_29 : decode cX12_expression 29 = .ok (.ifCond .eq 55, 3) := by decide +kernel
theorem dX12_expression_32 : decode cX12_expression 32 = .ok (.aload_n 0, 1) := by decide +kernel
theorem dX12_expression_33 : decode cX12_expression 33 = .ok (.getfield 227, 3) := by decide +kernel
theorem dX12_expression_36 : decode cX12_expression 36 = .ok (.bipush 6, 2) := by decide +kernel
theorem dX12_expression_38 : decode cX12_expression 38 = .ok (.if_icmp .ne 8, 3) := by decide +kernel
theorem dX12_expression_41 : decode cX12_expression 41 = .ok (.aload_n 0, 1) := by decide +kernel
theorem dX12_expression_42 : decode cX12_expression 42 = .ok (.iconst 2, 1) := by decide +kernel
theorem dX12_expression_43 : decode cX12_expression 43 = .ok (.invokevirtual 212, 3) := by decide +kernel
theorem dX12_expression_46 : decode cX12_expression 46 = .ok (.aload_n 0, 1) := by decide +kernel
theorem dX12_expression_47 : decode cX12_expression 47 = .ok (.dup, 1) := by decide +kernel
theorem dX12_expression_48 : decode cX12_expression 48 = .ok (.getfield 227, 3) := by decide +kernel
theorem dX12_expression_51 : decode cX12_expression 51 = .ok (.iconst 1, 1) := by decide +kernel
theorem dX12_expression_52 : decode cX12_expression 52 = .ok (.iadd, 1) := by decide +kernel
theorem dX12_expression_53 : decode cX12_expression 53 = .ok (.putfield 227, 3) := by decide +kernel
theorem dX12_expression_56 : decode cX12_expression 56 = .ok (.aload_n 0, 1) := by decide +kernel
theorem dX12_expression_57 : decode cX12_expression 57 = .ok (.invokevirtual 218, 3) := by decide +kernel
theorem dX12_expression_60 : decode cX12_expression 60 = .ok (.aload_n 0, 1) := by decide +kernel
theorem dX12_expression_61 : decode cX12_expression 61 = .ok (.getfield 89, 3) := by decide +kernel
theorem dX12_expression_64 : decode cX12_expression 64 = .ok (.aload_n 0, 1) := by decide +kernel
theorem dX12_expression_65 : decode cX12_expression 65 = .ok (.getfield 256, 3) := by decide +kernel
theorem dX12_expression_68 : decode cX12_expression 68 = .ok (.bipush 6, 2) := by decide +kernel
theorem dX12_expression_70 : decode cX12_expression 70 = .ok (.iastore, 1) := by decide +kernel
theorem dX12_expression_71 : decode cX12_expression 71 = .ok (.aload_n 0, 1) := by decide +kernel
theorem dX12_expression_72 : decode cX12_expression 72 = .ok (.dup, 1) := by decide +kernel
theorem dX12_expression_73 : decode cX12_expression 73 = .ok (.getfield 256, 3) := by decide +kernel
theorem dX12_expression_76 : decode cX12_expression 76 = .ok (.iconst 1, 1) := by decide +kernel
theorem dX12_expression_77 : decode cX12_expression 77 = .ok (.iadd, 1) := by decide +kernel
theorem dX12_expression_78 : decode cX12_expression 78 = .ok (.putfield 256, 3) := by decide +kernel
theorem dX12_expression_81 : decode cX12_expression 81 = .ok (.goto (-58), 3) := by decide +kernel
theorem dX12_expression_84 : decode cX12_expression 84 = .ok (.aload_n 0, 1) := by decide +kernel
theorem dX12_expression_85 : decode cX12_expression 85 = .ok (.invokevirtual 262, 3) := by decide +kernel
theorem dX12_expression_88 : decode cX12_expression 88 = .ok (.aload_n 0, 1) := by decide +kernel
theorem dX12_expression_89 : decode cX12_expression 89 = .ok (.getfield 197, 3) := by decide +kernel
theorem dX12_expression_92 : decode cX12_expression 92 = .ok (.ifCond .le 4, 3) := by decide +kernel
theorem dX12_expression_95 : decode cX12_expression 95 = .ok (.return_, 1) := by decide +kernel
theorem dX12_expression_96 : decode cX12_expression 96 = .ok (.aload_n 0, 1) := by decide +kernel
theorem dX12_expression_97 : decode cX12_expression 97 = .ok (.bipush 7, 2) := by decide +kernel
theorem dX12_expression_99 : decode cX12_expression 99 = .ok (.invokevirtual 215, 3) := by decide +kernel
theorem dX12_expression_102 : decode cX12_expression 102 = .ok (.ifCond .eq 43, 3) := by decide +kernel
theorem dX12_expression_105 : decode cX12_expression 105 = .ok (.aload_n 0, 1) := by decide +kernel
theorem dX12_expression_106 : decode cX12_expression 106 = .ok (.getfield 227, 3) := by decide +kernel
theorem dX12_expression_109 : decode cX12_expression 109 = .ok (.iload_n 1, 1) := by decide +kernel
theorem dX12_expression_110 : decode cX12_expression 110 = .ok (.if_icmp .le 35, 3) := by decide +kernel
theorem dX12_expression_113 : decode cX12_expression 113 = .ok (.aload_n 0, 1) := by decide +kernel
theorem dX12_expression_114 : decode cX12_expression 114 = .ok (.iconst 0, 1) := by decide +kernel
theorem dX12_expression_115 : decode cX12_expression 115 = .ok (.invokevirtual 265, 3) := by decide +kernel
theorem dX12_expression_118 : decode cX12_expression 118 = .ok (.aload_n 0, 1) := by decide +kernel
theorem dX12_expression_119 : decode cX12_expression 119 = .ok (.dup, 1) := by decide +kernel
theorem dX12_expression_120 : decode cX12_expression 120 = .ok (.getfield 256, 3) := by decide +kernel
theorem dX12_expression_123 : decode cX12_expression 123 = .ok (.iconst 1, 1) := by decide +kernel
theorem dX12_expression_124 : decode cX12_expression 124 = .ok (.isub, 1) := by decide +kernel
theorem dX12_expression_125 : decode cX12_expression 125 = .ok (.putfield 256, 3) := by decide +kernel
theorem dX12_expression_128 : decode cX12_expression 128 = .ok (.aload_n 0, 1) := by decide +kernel
theorem dX12_expression_129 : decode cX12_expression 129 = .ok (.dup, 1) := by decide +kernel
theorem dX12_expression_130 : decode cX12_expression 130 = .ok (.getfield 227, 3) := by decide +kernel
theorem dX12_expression_133 : decode cX12_expression 133 = .ok (.iconst 1, 1) := by decide +kernel
theorem dX12_expression_134 : decode cX12_expression 134 = .ok (.isub, 1) := by decide +kernel
theorem dX12_expression_135 : decode cX12_expression 135 = .ok (.putfield 227, 3) := by decide +kernel
theorem dX12_expression_138 : decode cX12_expression 138 = .ok (.aload_n 0, 1) := by decide +kernel
theorem dX12_expression_139 : decode cX12_expression 139 = .ok (.invokevirtual 218, 3) := by decide +kernel
theorem dX12_expression_142 : decode cX12_expression 142 = .ok (.goto (-46), 3) := by decide +kernel
theorem dX12_expression_145 : decode cX12_expression 145 = .ok (.aload_n 0, 1) := by decide +kernel
theorem dX12_expression_146 : decode cX12_expression 146 = .ok (.bipush 8, 2) := by decide +kernel
theorem dX12_expression_148 : decode cX12_expression 148 = .ok (.invokevirtual 215, 3) := by decide +kernel
theorem dX12_expression_151 : decode cX12_expression 151 = .ok (.ifCond .ne 30, 3) := by decide +kernel
theorem dX12_expression_154 : decode cX12_expression 154 = .ok (.aload_n 0, 1) := by decide +kernel
theorem dX12_expression_155 : decode cX12_expression 155 = .ok (.bipush 9, 2) := by decide +kernel
theorem dX12_expression_157 : decode cX12_expression 157 = .ok (.invokevirtual 215, 3) := by decide +kernel
theorem dX12_expression_160 : decode cX12_expression 160 = .ok (.ifCond .ne 21, 3) := by decide +kernel
theorem dX12_expression_163 : decode cX12_expression 163 = .ok (.aload_n 0, 1) := by decide +kernel
theorem dX12_expression_164 : decode cX12_expression 164 = .ok (.bipush 10, 2) := by decide +kernel
theorem dX12_expression_166 : decode cX12_expression 166 = .ok (.invokevirtual 215, 3) := by decide +kernel
theorem dX12_expression_169 : decode cX12_expression 169 = .ok (.ifCond .ne 12, 3) := by decide +kernel
theorem dX12_expression_172 : decode cX12_expression 172 = .ok (.aload_n 0, 1) := by decide +kernel
theorem dX12_expression_173 : decode cX12_expression 173 = .ok (.bipush 15, 2) := by decide +kernel
theorem dX12_expression_175 : decode cX12_expression 175 = .ok (.invokevirtual 215, 3) := by decide +kernel
theorem dX12_expression_178 : decode cX12_expression 178 = .ok (.ifCond .eq 7, 3) := by decide +kernel
theorem dX12_expression_181 : decode cX12_expression 181 = .ok (.iconst 1, 1) := by decide +kernel
theorem dX12_expression_182 : decode cX12_expression 182 = .ok (.goto 4, 3) := by decide +kernel
theorem dX12_expression_185 : decode cX12_expression 185 = .ok (.iconst 0, 1) := by decide +kernel
theorem dX12_expression_186 : decode cX12_expression 186 = .ok (.istore_n 2, 1) := by decide +kernel
theorem dX12_expression_187 : decode cX12_expression 187 = .ok (.iload_n 2, 1) := by decide +kernel
theorem dX12_expression_188 : decode cX12_expression 188 = .ok (.ifCond .ne 22, 3) := by decide +kernel
theorem dX12_expression_191 : decode cX12_expression 191 = .ok (.aload_n 0, 1) := by decide +kernel
theorem dX12_expression_192 : decode cX12_expression 192 = .ok (.getfield 227, 3) := by decide +kernel
theorem dX12_expression_195 : decode cX12_expression 195 = .ok (.iload_n 1, 1) := by decide +kernel
theorem dX12_expression_196 : decode cX12_expression 196 = .ok (.if_icmp .le 8, 3) := by decide +kernel
theorem dX12_expression_199 : decode cX12_expression 199 = .ok (.aload_n 0, 1) := by decide +kernel
theorem dX12_expression_200 : decode cX12_expression 200 = .ok (.iconst 1, 1) := by decide +kernel
theorem dX12_expression_201 : decode cX12_expression 201 = .ok (.invokevirtual 212, 3) := by decide +kernel
theorem dX12_expression_204 : decode cX12_expression 204 = .ok (.aload_n 0, 1) := by decide +kernel
theorem dX12_expression_205 : decode cX12_expression 205 = .ok (.iconst 0, 1) := by decide +kernel
theorem dX12_expression_206 : decode cX12_expression 206 = .ok (.invokevirtual 265, 3) := by decide +kernel
theorem dX12_expression_209 : decode cX12_expression 209 = .ok (.return_, 1) := by decide +kernel
theorem dX12_expression_210 : decode cX12_expression 210 = .ok (.aload_n 0, 1) := by decide +kernel
theorem dX12_expression_211 : decode cX12_expression 211 = .ok (.aload_n 0, 1) := by decide +kernel
theorem dX12_expression_212 : decode cX12_expression 212 = .ok (.bipush 10, 2) := by decide +kernel
theorem dX12_expression_214 : decode cX12_expression 214 = .ok (.invokevirtual 215, 3) := by decide +kernel
theorem dX12_expression_217 : decode cX12_expression 217 = .ok (.ifCond .ne 12, 3) := by decide +kernel
theorem dX12_expression_220 : decode cX12_expression 220 = .ok (.aload_n 0, 1) := by decide +kernel
theorem dX12_expression_221 : decode cX12_expression 221 = .ok (.bipush 15, 2) := by decide +kernel
theorem dX12_expression_223 : decode cX12_expression 223 = .ok (.invokevirtual 215, 3) := by decide +kernel
theorem dX12_expression_226 : decode cX12_expression 226 = .ok (.ifCond .eq 7, 3) := by decide +kernel
theorem dX12_expression_229 : decode cX12_expression 229 = .ok (.iconst 1, 1) := by decide +kernel
theorem dX12_expression_230 : decode cX12_expression 230 = .ok (.goto 4, 3) := by decide +kernel
theorem dX12_expression_233 : decode cX12_expression 233 = .ok (.iconst 0, 1) := by decide +kernel
theorem dX12_expression_234 : decode cX12_expression 234 = .ok (.invokevirtual 265, 3) := by decide +kernel
theorem dX12_expression_237 : decode cX12_expression 237 = .ok (.aload_n 0, 1) := by decide +kernel
theorem dX12_expression_238 : decode cX12_expression 238 = .ok (.getfield 89, 3) := by decide +kernel
theorem dX12_expression_241 : decode cX12_expression 241 = .ok (.aload_n 0, 1) := by decide +kernel
theorem dX12_expression_242 : decode cX12_expression 242 = .ok (.getfield 256, 3) := by decide +kernel
theorem dX12_expression_245 : decode cX12_expression 245 = .ok (.aload_n 0, 1) := by decide +kernel
theorem dX12_expression_246 : decode cX12_expression 246 = .ok (.getfield 20, 3) := by decide +kernel
theorem dX12_expression_249 : decode cX12_expression 249 = .ok (.aload_n 0, 1) := by decide +kernel
theorem dX12_expression_250 : decode cX12_expression 250 = .ok (.getfield 200, 3) := by decide +kernel
theorem dX12_expression_253 : decode cX12_expression 253 = .ok (.iaload, 1) := by decide +kernel
theorem dX12_expression_254 : decode cX12_expression 254 = .ok (.iastore, 1) := by decide +kernel
theorem dX12_expression_255 : decode cX12_expression 255 = .ok (.aload_n 0, 1) := by decide +kernel
theorem dX12_expression_256 : decode cX12_expression 256 = .ok (.dup, 1) := by decide +kernel
theorem dX12_expression_257 : decode cX12_expression 257 = .ok (.getfield 256, 3) := by decide +kernel
theorem dX12_expression_260 : decode cX12_expression 260 = .ok (.iconst 1, 1) := by decide +kernel
theorem dX12_expression_261 : decode cX12_expression 261 = .ok (.iadd, 1) := by decide +kernel
theorem dX12_expression_262 : decode cX12_expression 262 = .ok (.putfield 256, 3) := by decide +kernel
theorem dX12_expression_265 : decode cX12_expression 265 = .ok (.aload_n 0, 1) := by decide +kernel
theorem dX12_expression_266 : decode cX12_expression 266 = .ok (.invokevirtual 218, 3) := by decide +kernel
theorem dX12_expression_269 : decode cX12_expression 269 = .ok (.goto (-257), 3) := by decide +kernel
theorem dX12_expression_272 : decode cX12_expression 272 = .ok (.return_, 1) := by decide +kernel
theorem dX12_unit_0 : decode cX12_unit 0 = .ok (.aload_n 0, 1) := by decide +kernel
theorem dX12_unit_1 : decode cX12_unit 1 = .ok (.iconst 2, 1) := by decide +kernel
theorem dX12_unit_2 : decode cX12_unit 2 = .ok (.invokevirtual 215, 3) := by decide +kernel
theorem dX12_unit_5 : decode cX12_unit 5 = .ok (.ifCond .eq 24, 3) := by decide +kernel
theorem dX12_unit_8 : decode cX12_unit 8 = .ok (.aload_n 0, 1) := by decide +kernel
theorem dX12_unit_9 : decode cX12_unit 9 = .ok (.iconst 0, 1) := by decide +kernel
theorem dX12_unit_10 : decode cX12_unit 10 = .ok (.aload_n 0, 1) := by decide +kernel
theorem dX12_unit_11 : decode cX12_unit 11 = .ok (.getfield 27, 3) := by decide +kernel
theorem dX12_unit_14 : decode cX12_unit 14 = .ok (.aload_n 0, 1) := by decide +kernel
theorem dX12_unit_15 : decode cX12_unit 15 = .ok (.getfield 200, 3) := by decide +kernel
theorem dX12_unit_18 : decode cX12_unit 18 = .ok (.iaload, 1) := by decide +kernel
theorem dX12_unit_19 : decode cX12_unit 19 = .ok (.invokevirtual 259, 3) := by decide +kernel
theorem dX12_unit_22 : decode cX12_unit 22 = .ok (.aload_n 0, 1) := by decide +kernel
theorem dX12_unit_23 : decode cX12_unit 23 = .ok (.invokevirtual 218, 3) := by decide +kernel
theorem dX12_unit_26 : decode cX12_unit 26 = .ok (.goto 67, 3) := by decide +kernel
theorem dX12_unit_29 : decode cX12_unit 29 = .ok (.aload_n 0, 1) := by decide +kernel
theorem dX12_unit_30 : decode cX12_unit 30 = .ok (.getfield 197, 3) := by decide +kernel
theorem dX12_unit_33 : decode cX12_unit 33 = .ok (.ifCond .ne 55, 3) := by decide +kernel
theorem dX12_unit_36 : decode cX12_unit 36 = .ok (.aload_n 0, 1) := by decide +kernel
theorem dX12_unit_37 : decode cX12_unit 37 = .ok (.getfield 20, 3) := by decide +kernel
theorem dX12_unit_40 : decode cX12_unit 40 = .ok (.aload_n 0, 1) := by decide +kernel
theorem dX12_unit_41 : decode cX12_unit 41 = .ok (.getfield 200, 3) := by decide +kernel
theorem dX12_unit_44 : decode cX12_unit 44 = .ok (.iaload, 1) := by decide +kernel
theorem dX12_unit_45 : decode cX12_unit 45 = .ok (.bipush 32, 2) := by decide +kernel
theorem dX12_unit_47 : decode cX12_unit 47 = .ok (.if_icmp .lt 41, 3) := by decide +kernel
theorem dX12_unit_50 : decode cX12_unit 50 = .ok (.aload_n 0, 1) := by decide +kernel
theorem dX12_unit_51 : decode cX12_unit 51 = .ok (.getfield 20, 3) := by decide +kernel
theorem dX12_unit_54 : decode cX12_unit 54 = .ok (.aload_n 0, 1) := by decide +kernel
theorem dX12_unit_55 : decode cX12_unit 55 = .ok (.getfield 200, 3) := by decide +kernel
theorem dX12_unit_58 : decode cX12_unit 58 = .ok (.iaload, 1) := by decide +kernel
theorem dX12_unit_59 : decode cX12_unit 59 = .ok (.bipush 43, 2) := by decide +kernel
theorem dX12_unit_61 : decode cX12_unit 61 = .ok (.if_icmp .gt 27, 3) := by decide +kernel
theorem dX12_unit_64 : decode cX12_unit 64 = .ok (.aload_n 0, 1) := by decide +kernel
theorem dX12_unit_65 : decode cX12_unit 65 = .ok (.iconst 1, 1) := by decide +kernel
theorem dX12_unit_66 : decode cX12_unit 66 = .ok (.aload_n 0, 1) := by decide +kernel
theorem dX12_unit_67 : decode cX12_unit 67 = .ok (.getfield 20, 3) := by decide +kernel
theorem dX12_unit_70 : decode cX12_unit 70 = .ok (.aload_n 0, 1) := by decide +kernel
theorem dX12_unit_71 : decode cX12_unit 71 = .ok (.getfield 200, 3) := by decide +kernel
theorem dX12_unit_74 : decode cX12_unit 74 = .ok (.iaload, 1) := by decide +kernel
theorem dX12_unit_75 : decode cX12_unit 75 = .ok (.bipush 32, 2) := by decide +kernel
theorem dX12_unit_77 : decode cX12_unit 77 = .ok (.isub, 1) := by decide +kernel
theorem dX12_unit_78 : decode cX12_unit 78 = .ok (.invokevirtual 259, 3) := by decide +kernel
theorem dX12_unit_81 : decode cX12_unit 81 = .ok (.aload_n 0, 1) := by decide +kernel
theorem dX12_unit_82 : decode cX12_unit 82 = .ok (.invokevirtual 218, 3) := by decide +kernel
theorem dX12_unit_85 : decode cX12_unit 85 = .ok (.goto 8, 3) := by decide +kernel
theorem dX12_unit_88 : decode cX12_unit 88 = .ok (.aload_n 0, 1) := by decide +kernel
theorem dX12_unit_89 : decode cX12_unit 89 = .ok (.iconst 1, 1) := by decide +kernel
theorem dX12_unit_90 : decode cX12_unit 90 = .ok (.invokevirtual 212, 3) := by decide +kernel
theorem dX12_unit_93 : decode cX12_unit 93 = .ok (.return_, 1) := by decide +kernel
theorem dX12_termOf_0 : decode cX12_termOf 0 = .ok (.iconst 0, 1) := by decide +kernel
theorem dX12_termOf_1 : decode cX12_termOf 1 = .ok (.istore_n 3, 1) := by decide +kernel
theorem dX12_termOf_2 : decode cX12_termOf 2 = .ok (.aload_n 0, 1) := by decide +kernel
theorem dX12_termOf_3 : decode cX12_termOf 3 = .ok (.iconst 0, 1) := by decide +kernel
theorem dX12_termOf_4 : decode cX12_termOf 4 = .ok (.putfield 268, 3) := by decide +kernel
theorem dX12_termOf_7 : decode cX12_termOf 7 = .ok (.iload_n 1, 1) := by decide +kernel
theorem dX12_termOf_8 : decode cX12_termOf 8 = .ok (.istore 4, 2) := by decide +kernel
theorem dX12_termOf_10 : decode cX12_termOf 10 = .ok (.iload 4, 2) := by decide +kernel
theorem dX12_termOf_12 : decode cX12_termOf 12 = .ok (.iload_n 2, 1) := by decide +kernel
theorem dX12_termOf_13 : decode cX12_termOf 13 = .ok (.if_icmp .ge 157, 3) := by decide +kernel
theorem dX12_termOf_16 : decode cX12_termOf 16 = .ok (.aload_n 0, 1) := by decide +kernel
theorem dX12_termOf_17 : decode cX12_termOf 17 = .ok (.getfield 83, 3) := by decide +kernel
theorem dX12_termOf_20 : decode cX12_termOf 20 = .ok (.iload 4, 2) := by decide +kernel
theorem dX12_termOf_22 : decode cX12_termOf 22 = .ok (.iaload, 1) := by decide +kernel
theorem dX12_termOf_23 : decode cX12_termOf 23 = .ok (.istore 5, 2) := by decide +kernel
theorem dX12_termOf_25 : decode cX12_termOf 25 = .ok (.iload 5, 2) := by decide +kernel
theorem dX12_termOf_27 : decode cX12_termOf 27 = .ok (.iconst 2, 1) := by decide +kernel
theorem dX12_termOf_28 : decode cX12_termOf 28 = .ok (.if_icmp .ge 42, 3) := by decide +kernel
theorem dX12_termOf_31 : decode cX12_termOf 31 = .ok (.aload_n 0, 1) := by decide +kernel
theorem dX12_termOf_32 : decode cX12_termOf 32 = .ok (.getfield 95, 3) := by decide +kernel
theorem dX12_termOf_35 : decode cX12_termOf 35 = .ok (.iload_n 3, 1) := by decide +kernel
theorem dX12_termOf_36 : decode cX12_termOf 36 = .ok (.iload 5, 2) := by decide +kernel
theorem dX12_termOf_38 : decode cX12_termOf 38 = .ok (.ifCond .ne 13, 3) := by decide +kernel
theorem dX12_termOf_41 : decode cX12_termOf 41 = .ok (.aload_n 0, 1) := by decide +kernel
theorem dX12_termOf_42 : decode cX12_termOf 42 = .ok (.getfield 86, 3) := by decide +kernel
theorem dX12_termOf_45 : decode cX12_termOf 45 = .ok (.iload 4, 2) := by decide +kernel
theorem dX12_termOf_47 : decode cX12_termOf 47 = .ok (.iaload, 1) := by decide +kernel
theorem dX12_termOf_48 : decode cX12_termOf 48 = .ok (.goto 15, 3) := by decide +kernel
theorem dX12_termOf_51 : decode cX12_termOf 51 = .ok (.aload_n 0, 1) := by decide +kernel
theorem dX12_termOf_52 : decode cX12_termOf 52 = .ok (.getfield 92, 3) := by decide +kernel
theorem dX12_termOf_55 : decode cX12_termOf 55 = .ok (.aload_n 0, 1) := by decide +kernel
theorem dX12_termOf_56 : decode cX12_termOf 56 = .ok (.getfield 86, 3) := by decide +kernel
theorem dX12_termOf_59 : decode cX12_termOf 59 = .ok (.iload 4, 2) := by decide +kernel
theorem dX12_termOf_61 : decode cX12_termOf 61 = .ok (.iaload, 1) := by decide +kernel
theorem dX12_termOf_62 : decode cX12_termOf 62 = .ok (.iaload, 1) := by decide +kernel
theorem dX12_termOf_63 : decode cX12_termOf 63 = .ok (.iastore, 1) := by decide +kernel
theorem dX12_termOf_64 : decode cX12_termOf 64 = .ok (.iinc 3 1, 3) := by decide +kernel
theorem dX12_termOf_67 : decode cX12_termOf 67 = .ok (.goto 97, 3) := by decide +kernel
theorem dX12_termOf_70 : decode cX12_termOf 70 = .ok (.iinc 3 (-1), 3) := by decide +kernel
theorem dX12_termOf_73 : decode cX12_termOf 73 = .ok (.aload_n 0, 1) := by decide +kernel
theorem dX12_termOf_74 : decode cX12_termOf 74 = .ok (.getfield 95, 3) := by decide +kernel
theorem dX12_termOf_77 : decode cX12_termOf 77 = .ok (.iload_n 3, 1) := by decide +kernel
theorem dX12_termOf_78 : decode cX12_termOf 78 = .ok (.iconst 1, 1) := by decide +kernel
theorem dX12_termOf_79 : decode cX12_termOf 79 = .ok (.isub, 1) := by decide +kernel
theorem dX12_termOf_80 : decode cX12_termOf 80 = .ok (.iaload, 1) := by decide +kernel
theorem dX12_termOf_81 : decode cX12_termOf 81 = .ok (.istore 6, 2) := by decide +kernel
theorem dX12_termOf_83 : decode cX12_termOf 83 = .ok (.aload_n 0, 1) := by decide +kernel
theorem dX12_termOf_84 : decode cX12_termOf 84 = .ok (.getfield 95, 3) := by decide +kernel
theorem dX12_termOf_87 : decode cX12_termOf 87 = .ok (.iload_n 3, 1) := by decide +kernel
theorem dX12_termOf_88 : decode cX12_termOf 88 = .ok (.iaload, 1) := by decide +kernel
theorem dX12_termOf_89 : decode cX12_termOf 89 = .ok (.istore 7, 2) := by decide +kernel
theorem dX12_termOf_91 : decode cX12_termOf 91 = .ok (.iload 5, 2) := by decide +kernel
theorem dX12_termOf_93 : decode cX12_termOf 93 = .ok (.iconst 5, 1) := by decide +kernel
theorem dX12_termOf_94 : decode cX12_termOf 94 = .ok (.if_icmp .ne 15, 3) := by decide +kernel
theorem dX12_termOf_97 : decode cX12_termOf 97 = .ok (.iload 7, 2) := by decide +kernel
theorem dX12_termOf_99 : decode cX12_termOf 99 = .ok (.ifCond .ne 10, 3) := by decide +kernel
theorem dX12_termOf_102 : decode cX12_termOf 102 = .ok (.aload_n 0, 1) := by decide +kernel
theorem dX12_termOf_103 : decode cX12_termOf 103 = .ok (.iconst 1, 1) := by decide +kernel
theorem dX12_termOf_104 : decode cX12_termOf 104 = .ok (.putfield 268, 3) := by decide +kernel
theorem dX12_termOf_107 : decode cX12_termOf 107 = .ok (.iconst 0, 1) := by decide +kernel
theorem dX12_termOf_108 : decode cX12_termOf 108 = .ok (.ireturn, 1) := by decide +kernel
theorem dX12_termOf_109 : decode cX12_termOf 109 = .ok (.aload_n 0, 1) := by decide +kernel
theorem dX12_termOf_110 : decode cX12_termOf 110 = .ok (.getfield 95, 3) := by decide +kernel
theorem dX12_termOf_113 : decode cX12_termOf 113 = .ok (.iload_n 3, 1) := by decide +kernel
theorem dX12_termOf_114 : decode cX12_termOf 114 = .ok (.iconst 1, 1) := by decide +kernel
theorem dX12_termOf_115 : decode cX12_termOf 115 = .ok (.isub, 1) := by decide +kernel
theorem dX12_termOf_116 : decode cX12_termOf 116 = .ok (.iload 5, 2) := by decide +kernel
theorem dX12_termOf_118 : decode cX12_termOf 118 = .ok (.iconst 2, 1) := by decide +kernel
theorem dX12_termOf_119 : decode cX12_termOf 119 = .ok (.if_icmp .ne 11, 3) := by decide +kernel
theorem dX12_termOf_122 : decode cX12_termOf 122 = .ok (.iload 6, 2) := by decide +kernel
theorem dX12_termOf_124 : decode cX12_termOf 124 = .ok (.iload 7, 2) := by decide +kernel
theorem dX12_termOf_126 : decode cX12_termOf 126 = .ok (.iadd, 1) := by decide +kernel
theorem dX12_termOf_127 : decode cX12_termOf 127 = .ok (.goto 36, 3) := by decide +kernel
theorem dX12_termOf_130 : decode cX12_termOf 130 = .ok (.iload 5, 2) := by decide +kernel
theorem dX12_termOf_132 : decode cX12_termOf 132 = .ok (.iconst 3, 1) := by decide +kernel
theorem dX12_termOf_133 : decode cX12_termOf 133 = .ok (.if_icmp .ne 11, 3) := by decide +kernel
theorem dX12_termOf_136 : decode cX12_termOf 136 = .ok (.iload 6, 2) := by decide +kernel
theorem dX12_termOf_138 : decode cX12_termOf 138 = .ok (.iload 7, 2) := by decide +kernel
theorem dX12_termOf_140 : decode cX12_termOf 140 = .ok (.isub, 1) := by decide +kernel
theorem dX12_termOf_141 : decode cX12_termOf 141 = .ok (.goto 22, 3) := by decide +kernel
theorem dX12_termOf_144 : decode cX12_termOf 144 = .ok (.iload 5, 2) := by decide +kernel
theorem dX12_termOf_146 : decode cX12_termOf 146 = .ok (.iconst 4, 1) := by decide +kernel
theorem dX12_termOf_147 : decode cX12_termOf 147 = .ok (.if_icmp .ne 11, 3) := by decide +kernel
theorem dX12_termOf_150 : decode cX12_termOf 150 = .ok (.iload 6, 2) := by decide +kernel
theorem dX12_termOf_152 : decode cX12_termOf 152 = .ok (.iload 7, 2) := by decide +kernel
theorem dX12_termOf_154 : decode cX12_termOf 154 = .ok (.imul, 1) := by decide +kernel
theorem dX12_termOf_155 : decode cX12_termOf 155 = .ok (.goto 8, 3) := by decide +kernel
theorem dX12_termOf_158 : decode cX12_termOf 158 = .ok (.iload 6, 2) := by decide +kernel
theorem dX12_termOf_160 : decode cX12_termOf 160 = .ok (.iload 7, 2) := by decide +kernel
theorem dX12_termOf_162 : decode cX12_termOf 162 = .ok (.idiv, 1) := by decide +kernel
theorem dX12_termOf_163 : decode cX12_termOf 163 = .ok (.iastore, 1) := by decide +kernel
theorem dX12_termOf_164 : decode cX12_termOf 164 = .ok (.iinc 4 1, 3) := by decide +kernel
theorem dX12_termOf_167 : decode cX12_termOf 167 = .ok (.goto (-157), 3) := by decide +kernel
theorem dX12_termOf_170 : decode cX12_termOf 170 = .ok (.aload_n 0, 1) := by decide +kernel
theorem dX12_termOf_171 : decode cX12_termOf 171 = .ok (.getfield 95, 3) := by decide +kernel
theorem dX12_termOf_174 : decode cX12_termOf 174 = .ok (.iconst 0, 1) := by decide +kernel
theorem dX12_termOf_175 : decode cX12_termOf 175 = .ok (.iaload, 1) := by decide +kernel
theorem dX12_termOf_176 : decode cX12_termOf 176 = .ok (.ireturn, 1) := by decide +kernel
theorem dX12_isTrue_0 : decode cX12_isTrue 0 = .ok (.aload_n 0, 1) := by decide +kernel
theorem dX12_isTrue_1 : decode cX12_isTrue 1 = .ok (.aload_n 0, 1) := by decide +kernel
theorem dX12_isTrue_2 : decode cX12_isTrue 2 = .ok (.getfield 74, 3) := by decide +kernel
theorem dX12_isTrue_5 : decode cX12_isTrue 5 = .ok (.iload_n 1, 1) := by decide +kernel
theorem dX12_isTrue_6 : decode cX12_isTrue 6 = .ok (.iaload, 1) := by decide +kernel
theorem dX12_isTrue_7 : decode cX12_isTrue 7 = .ok (.aload_n 0, 1) := by decide +kernel
theorem dX12_isTrue_8 : decode cX12_isTrue 8 = .ok (.getfield 77, 3) := by decide +kernel
theorem dX12_isTrue_11 : decode cX12_isTrue 11 = .ok (.iload_n 1, 1) := by decide +kernel
theorem dX12_isTrue_12 : decode cX12_isTrue 12 = .ok (.iaload, 1) := by decide +kernel
theorem dX12_isTrue_13 : decode cX12_isTrue 13 = .ok (.invokevirtual 272, 3) := by decide +kernel
theorem dX12_isTrue_16 : decode cX12_isTrue 16 = .ok (.istore_n 2, 1) := by decide +kernel
theorem dX12_isTrue_17 : decode cX12_isTrue 17 = .ok (.aload_n 0, 1) := by decide +kernel
theorem dX12_isTrue_18 : decode cX12_isTrue 18 = .ok (.getfield 268, 3) := by decide +kernel
theorem dX12_isTrue_21 : decode cX12_isTrue 21 = .ok (.istore_n 3, 1) := by decide +kernel
theorem dX12_isTrue_22 : decode cX12_isTrue 22 = .ok (.aload_n 0, 1) := by decide +kernel
theorem dX12_isTrue_23 : decode cX12_isTrue 23 = .ok (.aload_n 0, 1) := by decide +kernel
theorem dX12_isTrue_24 : decode cX12_isTrue 24 = .ok (.getfield 77, 3) := by decide +kernel
theorem dX12_isTrue_27 : decode cX12_isTrue 27 = .ok (.iload_n 1, 1) := by decide +kernel
theorem dX12_isTrue_28 : decode cX12_isTrue 28 = .ok (.iaload, 1) := by decide +kernel
theorem dX12_isTrue_29 : decode cX12_isTrue 29 = .ok (.aload_n 0, 1) := by decide +kernel
theorem dX12_isTrue_30 : decode cX12_isTrue 30 = .ok (.getfield 80, 3) := by decide +kernel
theorem dX12_isTrue_33 : decode cX12_isTrue 33 = .ok (.iload_n 1, 1) := by decide +kernel
theorem dX12_isTrue_34 : decode cX12_isTrue 34 = .ok (.iaload, 1) := by decide +kernel
theorem dX12_isTrue_35 : decode cX12_isTrue 35 = .ok (.invokevirtual 272, 3) := by decide +kernel
theorem dX12_isTrue_38 : decode cX12_isTrue 38 = .ok (.istore 4, 2) := by decide +kernel
theorem dX12_isTrue_40 : decode cX12_isTrue 40 = .ok (.iload_n 3, 1) := by decide +kernel
theorem dX12_isTrue_41 : decode cX12_isTrue 41 = .ok (.ifCond .ne 10, 3) := by decide +kernel
theorem dX12_isTrue_44 : decode cX12_isTrue 44 = .ok (.aload_n 0, 1) := by decide +kernel
theorem dX12_isTrue_45 : decode cX12_isTrue 45 = .ok (.getfield 268, 3) := by decide +kernel
theorem dX12_isTrue_48 : decode cX12_isTrue 48 = .ok (.ifCond .eq 7, 3) := by decide +kernel
theorem dX12_isTrue_51 : decode cX12_isTrue 51 = .ok (.iconst 1, 1) := by decide +kernel
theorem dX12_isTrue_52 : decode cX12_isTrue 52 = .ok (.goto 4, 3) := by decide +kernel
theorem dX12_isTrue_55 : decode cX12_isTrue 55 = .ok (.iconst 0, 1) := by decide +kernel
theorem dX12_isTrue_56 : decode cX12_isTrue 56 = .ok (.istore_n 3, 1) := by decide +kernel
theorem dX12_isTrue_57 : decode cX12_isTrue 57 = .ok (.aload_n 0, 1) := by decide +kernel
theorem dX12_isTrue_58 : decode cX12_isTrue 58 = .ok (.getfield 64, 3) := by decide +kernel
theorem dX12_isTrue_61 : decode cX12_isTrue 61 = .ok (.iload_n 1, 1) := by decide +kernel
theorem dX12_isTrue_62 : decode cX12_isTrue 62 = .ok (.iaload, 1) := by decide +kernel
theorem dX12_isTrue_63 : decode cX12_isTrue 63 = .ok (.ifCond .ne 17, 3) := by decide +kernel
theorem dX12_isTrue_66 : decode cX12_isTrue 66 = .ok (.iload_n 2, 1) := by decide +kernel
theorem dX12_isTrue_67 : decode cX12_isTrue 67 = .ok (.iload 4, 2) := by decide +kernel
theorem dX12_isTrue_69 : decode cX12_isTrue 69 = .ok (.if_icmp .ne 7, 3) := by decide +kernel
theorem dX12_isTrue_72 : decode cX12_isTrue 72 = .ok (.iconst 1, 1) := by decide +kernel
theorem dX12_isTrue_73 : decode cX12_isTrue 73 = .ok (.goto 66, 3) := by decide +kernel
theorem dX12_isTrue_76 : decode cX12_isTrue 76 = .ok (.iconst 0, 1) := by decide +kernel
theorem dX12_isTrue_77 : decode cX12_isTrue 77 = .ok (.goto 62, 3) := by decide +kernel
theorem dX12_isTrue_80 : decode cX12_isTrue 80 = .ok (.aload_n 0, 1) := by decide +kernel
theorem dX12_isTrue_81 : decode cX12_isTrue 81 = .ok (.getfield 64, 3) := by decide +kernel
theorem dX12_isTrue_84 : decode cX12_isTrue 84 = .ok (.iload_n 1, 1) := by decide +kernel
theorem dX12_isTrue_85 : decode cX12_isTrue 85 = .ok (.iaload, 1) := by decide +kernel
theorem dX12_isTrue_86 : decode cX12_isTrue 86 = .ok (.iconst 1, 1) := by decide +kernel
theorem dX12_isTrue_87 : decode cX12_isTrue 87 = .ok (.if_icmp .ne 17, 3) := by decide +kernel
theorem dX12_isTrue_90 : decode cX12_isTrue 90 = .ok (.iload_n 2, 1) := by decide +kernel
theorem dX12_isTrue_91 : decode cX12_isTrue 91 = .ok (.iload 4, 2) := by decide +kernel
theorem dX12_isTrue_93 : decode cX12_isTrue 93 = .ok (.if_icmp .eq 7, 3) := by decide +kernel
theorem dX12_isTrue_96 : decode cX12_isTrue 96 = .ok (.iconst 1, 1) := by decide +kernel
theorem dX12_isTrue_97 : decode cX12_isTrue 97 = .ok (.goto 42, 3) := by decide +kernel
theorem dX12_isTrue_100 : decode cX12_isTrue 100 = .ok (.iconst 0, 1) := by decide +kernel
theorem dX12_isTrue_101 : decode cX12_isTrue 101 = .ok (.goto 38, 3) := by decide +kernel
theorem dX12_isTrue_104 : decode cX12_isTrue 104 = .ok (.aload_n 0, 1) := by decide +kernel
theorem dX12_isTrue_105 : decode cX12_isTrue 105 = .ok (.getfield 64, 3) := by decide +kernel
theorem dX12_isTrue_108 : decode cX12_isTrue 108 = .ok (.iload_n 1, 1) := by decide +kernel
theorem dX12_isTrue_109 : decode cX12_isTrue 109 = .ok (.iaload, 1) := by decide +kernel
theorem dX12_isTrue_110 : decode cX12_isTrue 110 = .ok (.iconst 2, 1) := by decide +kernel
theorem dX12_isTrue_111 : decode cX12_isTrue 111 = .ok (.if_icmp .ne 17, 3) := by decide +kernel
theorem dX12_isTrue_114 : decode cX12_isTrue 114 = .ok (.iload_n 2, 1) := by decide +kernel
theorem dX12_isTrue_115 : decode cX12_isTrue 115 = .ok (.iload 4, 2) := by decide +kernel
theorem dX12_isTrue_117 : decode cX12_isTrue 117 = .ok (.if_icmp .ge 7, 3) := by decide +kernel
theorem dX12_isTrue_120 : decode cX12_isTrue 120 = .ok (.iconst 1, 1) := by decide +kernel
theorem dX12_isTrue_121 : decode cX12_isTrue 121 = .ok (.goto 18, 3) := by decide +kernel
theorem dX12_isTrue_124 : decode cX12_isTrue 124 = .ok (.iconst 0, 1) := by decide +kernel
theorem dX12_isTrue_125 : decode cX12_isTrue 125 = .ok (.goto 14, 3) := by decide +kernel
theorem dX12_isTrue_128 : decode cX12_isTrue 128 = .ok (.iload_n 2, 1) := by decide +kernel
theorem dX12_isTrue_129 : decode cX12_isTrue 129 = .ok (.iload 4, 2) := by decide +kernel
theorem dX12_isTrue_131 : decode cX12_isTrue 131 = .ok (.if_icmp .gt 7, 3) := by decide +kernel
theorem dX12_isTrue_134 : decode cX12_isTrue 134 = .ok (.iconst 1, 1) := by decide +kernel
theorem dX12_isTrue_135 : decode cX12_isTrue 135 = .ok (.goto 4, 3) := by decide +kernel
theorem dX12_isTrue_138 : decode cX12_isTrue 138 = .ok (.iconst 0, 1) := by decide +kernel
theorem dX12_isTrue_139 : decode cX12_isTrue 139 = .ok (.istore 5, 2) := by decide +kernel
theorem dX12_isTrue_141 : decode cX12_isTrue 141 = .ok (.iload 5, 2) := by decide +kernel
theorem dX12_isTrue_143 : decode cX12_isTrue 143 = .ok (.ifCond .eq 11, 3) := by decide +kernel
theorem dX12_isTrue_146 : decode cX12_isTrue 146 = .ok (.iload_n 3, 1) := by decide +kernel
theorem dX12_isTrue_147 : decode cX12_isTrue 147 = .ok (.ifCond .ne 7, 3) := by decide +kernel
theorem dX12_isTrue_150 : decode cX12_isTrue 150 = .ok (.iconst 1, 1) := by decide +kernel
theorem dX12_isTrue_151 : decode cX12_isTrue 151 = .ok (.goto 4, 3) := by decide +kernel
theorem dX12_isTrue_154 : decode cX12_isTrue 154 = .ok (.iconst 0, 1) := by decide +kernel
theorem dX12_isTrue_155 : decode cX12_isTrue 155 = .ok (.aload_n 0, 1) := by decide +kernel
theorem dX12_isTrue_156 : decode cX12_isTrue 156 = .ok (.getfield 67, 3) := by decide +kernel
theorem dX12_isTrue_159 : decode cX12_isTrue 159 = .ok (.iload_n 1, 1) := by decide +kernel
theorem dX12_isTrue_160 : decode cX12_isTrue 160 = .ok (.baload, 1) := by decide +kernel
theorem dX12_isTrue_161 : decode cX12_isTrue 161 = .ok (.if_icmp .eq 7, 3) := by decide +kernel
theorem dX12_isTrue_164 : decode cX12_isTrue 164 = .ok (.iconst 1, 1) := by decide +kernel
theorem dX12_isTrue_165 : decode cX12_isTrue 165 = .ok (.goto 4, 3) := by decide +kernel
theorem dX12_isTrue_168 : decode cX12_isTrue 168 = .ok (.iconst 0, 1) := by decide +kernel
theorem dX12_isTrue_169 : decode cX12_isTrue 169 = .ok (.ireturn, 1) := by decide +kernel
theorem dX12_holds_0 : decode cX12_holds 0 = .ok (.aload_n 0, 1) := by decide +kernel
theorem dX12_holds_1 : decode cX12_holds 1 = .ok (.getfield 58, 3) := by decide +kernel
theorem dX12_holds_4 : decode cX12_holds 4 = .ok (.iload_n 1, 1) := by decide +kernel
theorem dX12_holds_5 : decode cX12_holds 5 = .ok (.iaload, 1) := by decide +kernel
theorem dX12_holds_6 : decode cX12_holds 6 = .ok (.aload_n 0, 1) := by decide +kernel
theorem dX12_holds_7 : decode cX12_holds 7 = .ok (.getfield 61, 3) := by decide +kernel
theorem dX12_holds_10 : decode cX12_holds 10 = .ok (.iload_n 1, 1) := by decide +kernel
theorem dX12_holds_11 : decode cX12_holds 11 = .ok (.iaload, 1) := by decide +kernel
theorem dX12_holds_12 : decode cX12_holds 12 = .ok (.if_icmp .ne 5, 3) := by decide +kernel
theorem dX12_holds_15 : decode cX12_holds 15 = .ok (.iconst 1, 1) := by decide +kernel
theorem dX12_holds_16 : decode cX12_holds 16 = .ok (.ireturn, 1) := by decide +kernel
theorem dX12_holds_17 : decode cX12_holds 17 = .ok (.iconst 0, 1) := by decide +kernel
theorem dX12_holds_18 : decode cX12_holds 18 = .ok (.istore_n 2, 1) := by decide +kernel
theorem dX12_holds_19 : decode cX12_holds 19 = .ok (.aload_n 0, 1) := by decide +kernel
theorem dX12_holds_20 : decode cX12_holds 20 = .ok (.getfield 58, 3) := by decide +kernel
theorem dX12_holds_23 : decode cX12_holds 23 = .ok (.iload_n 1, 1) := by decide +kernel
theorem dX12_holds_24 : decode cX12_holds 24 = .ok (.iaload, 1) := by decide +kernel
theorem dX12_holds_25 : decode cX12_holds 25 = .ok (.istore_n 3, 1) := by decide +kernel
theorem dX12_holds_26 : decode cX12_holds 26 = .ok (.iload_n 3, 1) := by decide +kernel
theorem dX12_holds_27 : decode cX12_holds 27 = .ok (.aload_n 0, 1) := by decide +kernel
theorem dX12_holds_28 : decode cX12_holds 28 = .ok (.getfield 61, 3) := by decide +kernel
theorem dX12_holds_31 : decode cX12_holds 31 = .ok (.iload_n 1, 1) := by decide +kernel
theorem dX12_holds_32 : decode cX12_holds 32 = .ok (.iaload, 1) := by decide +kernel
theorem dX12_holds_33 : decode cX12_holds 33 = .ok (.if_icmp .ge 53, 3) := by decide +kernel
theorem dX12_holds_36 : decode cX12_holds 36 = .ok (.aload_n 0, 1) := by decide +kernel
theorem dX12_holds_37 : decode cX12_holds 37 = .ok (.getfield 71, 3) := by decide +kernel
theorem dX12_holds_40 : decode cX12_holds 40 = .ok (.iload_n 3, 1) := by decide +kernel
theorem dX12_holds_41 : decode cX12_holds 41 = .ok (.baload, 1) := by decide +kernel
theorem dX12_holds_42 : decode cX12_holds 42 = .ok (.ifCond .eq 9, 3) := by decide +kernel
theorem dX12_holds_45 : decode cX12_holds 45 = .ok (.iload_n 2, 1) := by decide +kernel
theorem dX12_holds_46 : decode cX12_holds 46 = .ok (.ifCond .eq 5, 3) := by decide +kernel
theorem dX12_holds_49 : decode cX12_holds 49 = .ok (.iconst 1, 1) := by decide +kernel
theorem dX12_holds_50 : decode cX12_holds 50 = .ok (.ireturn, 1) := by decide +kernel
theorem dX12_holds_51 : decode cX12_holds 51 = .ok (.aload_n 0, 1) := by decide +kernel
theorem dX12_holds_52 : decode cX12_holds 52 = .ok (.getfield 71, 3) := by decide +kernel
theorem dX12_holds_55 : decode cX12_holds 55 = .ok (.iload_n 3, 1) := by decide +kernel
theorem dX12_holds_56 : decode cX12_holds 56 = .ok (.baload, 1) := by decide +kernel
theorem dX12_holds_57 : decode cX12_holds 57 = .ok (.ifCond .eq 5, 3) := by decide +kernel
theorem dX12_holds_60 : decode cX12_holds 60 = .ok (.iconst 1, 1) := by decide +kernel
theorem dX12_holds_61 : decode cX12_holds 61 = .ok (.istore_n 2, 1) := by decide +kernel
theorem dX12_holds_62 : decode cX12_holds 62 = .ok (.iload_n 2, 1) := by decide +kernel
theorem dX12_holds_63 : decode cX12_holds 63 = .ok (.ifCond .eq 15, 3) := by decide +kernel
theorem dX12_holds_66 : decode cX12_holds 66 = .ok (.aload_n 0, 1) := by decide +kernel
theorem dX12_holds_67 : decode cX12_holds 67 = .ok (.iload_n 3, 1) := by decide +kernel
theorem dX12_holds_68 : decode cX12_holds 68 = .ok (.invokevirtual 276, 3) := by decide +kernel
theorem dX12_holds_71 : decode cX12_holds 71 = .ok (.ifCond .eq 7, 3) := by decide +kernel
theorem dX12_holds_74 : decode cX12_holds 74 = .ok (.iconst 1, 1) := by decide +kernel
theorem dX12_holds_75 : decode cX12_holds 75 = .ok (.goto 4, 3) := by decide +kernel
theorem dX12_holds_78 : decode cX12_holds 78 = .ok (.iconst 0, 1) := by decide +kernel
theorem dX12_holds_79 : decode cX12_holds 79 = .ok (.istore_n 2, 1) := by decide +kernel
theorem dX12_holds_80 : decode cX12_holds 80 = .ok (.iinc 3 1, 3) := by decide +kernel
theorem dX12_holds_83 : decode cX12_holds 83 = .ok (.goto (-57), 3) := by decide +kernel
theorem dX12_holds_86 : decode cX12_holds 86 = .ok (.iload_n 2, 1) := by decide +kernel
theorem dX12_holds_87 : decode cX12_holds 87 = .ok (.ireturn, 1) := by decide +kernel
theorem dX12_forces_0 : decode cX12_forces 0 = .ok (.aload_n 0, 1) := by decide +kernel
theorem dX12_forces_1 : decode cX12_forces 1 = .ok (.getfield 98, 3) := by decide +kernel
theorem dX12_forces_4 : decode cX12_forces 4 = .ok (.iload_n 1, 1) := by decide +kernel
theorem dX12_forces_5 : decode cX12_forces 5 = .ok (.if_icmp .ne 4, 3) := by decide +kernel
theorem dX12_forces_8 : decode cX12_forces 8 = .ok (.return_, 1) := by decide +kernel
theorem dX12_forces_9 : decode cX12_forces 9 = .ok (.aload_n 0, 1) := by decide +kernel
theorem dX12_forces_10 : decode cX12_forces 10 = .ok (.iload_n 1, 1) := by decide +kernel
theorem dX12_forces_11 : decode cX12_forces 11 = .ok (.putfield 98, 3) := by decide +kernel
theorem dX12_forces_14 : decode cX12_forces 14 = .ok (.aload_n 0, 1) := by decide +kernel
theorem dX12_forces_15 : decode cX12_forces 15 = .ok (.iconst 0, 1) := by decide +kernel
theorem dX12_forces_16 : decode cX12_forces 16 = .ok (.putfield 279, 3) := by decide +kernel
theorem dX12_forces_19 : decode cX12_forces 19 = .ok (.iconst 0, 1) := by decide +kernel
theorem dX12_forces_20 : decode cX12_forces 20 = .ok (.istore_n 2, 1) := by decide +kernel
theorem dX12_forces_21 : decode cX12_forces 21 = .ok (.iload_n 2, 1) := by decide +kernel
theorem dX12_forces_22 : decode cX12_forces 22 = .ok (.iload_n 1, 1) := by decide +kernel
theorem dX12_forces_23 : decode cX12_forces 23 = .ok (.if_icmp .gt 72, 3) := by decide +kernel
theorem dX12_forces_26 : decode cX12_forces 26 = .ok (.iconst 0, 1) := by decide +kernel
theorem dX12_forces_27 : decode cX12_forces 27 = .ok (.istore_n 3, 1) := by decide +kernel
theorem dX12_forces_28 : decode cX12_forces 28 = .ok (.iload_n 3, 1) := by decide +kernel
theorem dX12_forces_29 : decode cX12_forces 29 = .ok (.aload_n 0, 1) := by decide +kernel
theorem dX12_forces_30 : decode cX12_forces 30 = .ok (.getfield 221, 3) := by decide +kernel
theorem dX12_forces_33 : decode cX12_forces 33 = .ok (.if_icmp .ge 56, 3) := by decide +kernel
theorem dX12_forces_36 : decode cX12_forces 36 = .ok (.aload_n 0, 1) := by decide +kernel
theorem dX12_forces_37 : decode cX12_forces 37 = .ok (.getfield 40, 3) := by decide +kernel
theorem dX12_forces_40 : decode cX12_forces 40 = .ok (.iload_n 3, 1) := by decide +kernel
theorem dX12_forces_41 : decode cX12_forces 41 = .ok (.iaload, 1) := by decide +kernel
theorem dX12_forces_42 : decode cX12_forces 42 = .ok (.iload_n 2, 1) := by decide +kernel
theorem dX12_forces_43 : decode cX12_forces 43 = .ok (.if_icmp .eq 6, 3) := by decide +kernel
theorem dX12_forces_46 : decode cX12_forces 46 = .ok (.goto 37, 3) := by decide +kernel
theorem dX12_forces_49 : decode cX12_forces 49 = .ok (.bipush 24, 2) := by decide +kernel
theorem dX12_forces_51 : decode cX12_forces 51 = .ok (.iload_n 3, 1) := by decide +kernel
theorem dX12_forces_52 : decode cX12_forces 52 = .ok (.imul, 1) := by decide +kernel
theorem dX12_forces_53 : decode cX12_forces 53 = .ok (.istore 4, 2) := by decide +kernel
theorem dX12_forces_55 : decode cX12_forces 55 = .ok (.iload 4, 2) := by decide +kernel
theorem dX12_forces_57 : decode cX12_forces 57 = .ok (.bipush 24, 2) := by decide +kernel
theorem dX12_forces_59 : decode cX12_forces 59 = .ok (.iload_n 3, 1) := by decide +kernel
theorem dX12_forces_60 : decode cX12_forces 60 = .ok (.imul, 1) := by decide +kernel
theorem dX12_forces_61 : decode cX12_forces 61 = .ok (.aload_n 0, 1) := by decide +kernel
theorem dX12_forces_62 : decode cX12_forces 62 = .ok (.getfield 43, 3) := by decide +kernel
theorem dX12_forces_65 : decode cX12_forces 65 = .ok (.iload_n 3, 1) := by decide +kernel
theorem dX12_forces_66 : decode cX12_forces 66 = .ok (.iaload, 1) := by decide +kernel
theorem dX12_forces_67 : decode cX12_forces 67 = .ok (.iadd, 1) := by decide +kernel
theorem dX12_forces_68 : decode cX12_forces 68 = .ok (.if_icmp .ge 15, 3) := by decide +kernel
theorem dX12_forces_71 : decode cX12_forces 71 = .ok (.aload_n 0, 1) := by decide +kernel
theorem dX12_forces_72 : decode cX12_forces 72 = .ok (.iload 4, 2) := by decide +kernel
theorem dX12_forces_74 : decode cX12_forces 74 = .ok (.invokevirtual 282, 3) := by decide +kernel
theorem dX12_forces_77 : decode cX12_forces 77 = .ok (.iinc 4 1, 3) := by decide +kernel
theorem dX12_forces_80 : decode cX12_forces 80 = .ok (.goto (-25), 3) := by decide +kernel
theorem dX12_forces_83 : decode cX12_forces 83 = .ok (.iinc 3 1, 3) := by decide +kernel
theorem dX12_forces_86 : decode cX12_forces 86 = .ok (.goto (-58), 3) := by decide +kernel
theorem dX12_forces_89 : decode cX12_forces 89 = .ok (.iinc 2 1, 3) := by decide +kernel
theorem dX12_forces_92 : decode cX12_forces 92 = .ok (.goto (-71), 3) := by decide +kernel
theorem dX12_forces_95 : decode cX12_forces 95 = .ok (.return_, 1) := by decide +kernel
theorem dX12_comes_0 : decode cX12_comes 0 = .ok (.iconst (-1), 1) := by decide +kernel
theorem dX12_comes_1 : decode cX12_comes 1 = .ok (.istore_n 2, 1) := by decide +kernel
theorem dX12_comes_2 : decode cX12_comes 2 = .ok (.iconst 0, 1) := by decide +kernel
theorem dX12_comes_3 : decode cX12_comes 3 = .ok (.istore_n 3, 1) := by decide +kernel
theorem dX12_comes_4 : decode cX12_comes 4 = .ok (.iload_n 3, 1) := by decide +kernel
theorem dX12_comes_5 : decode cX12_comes 5 = .ok (.aload_n 0, 1) := by decide +kernel
theorem dX12_comes_6 : decode cX12_comes 6 = .ok (.getfield 279, 3) := by decide +kernel
theorem dX12_comes_9 : decode cX12_comes 9 = .ok (.if_icmp .ge 32, 3) := by decide +kernel
theorem dX12_comes_12 : decode cX12_comes 12 = .ok (.aload_n 0, 1) := by decide +kernel
theorem dX12_comes_13 : decode cX12_comes 13 = .ok (.getfield 49, 3) := by decide +kernel
theorem dX12_comes_16 : decode cX12_comes 16 = .ok (.aload_n 0, 1) := by decide +kernel
theorem dX12_comes_17 : decode cX12_comes 17 = .ok (.getfield 101, 3) := by decide +kernel
theorem dX12_comes_20 : decode cX12_comes 20 = .ok (.iload_n 3, 1) := by decide +kernel
theorem dX12_comes_21 : decode cX12_comes 21 = .ok (.iaload, 1) := by decide +kernel
theorem dX12_comes_22 : decode cX12_comes 22 = .ok (.laload, 1) := by decide +kernel
theorem dX12_comes_23 : decode cX12_comes 23 = .ok (.aload_n 0, 1) := by decide +kernel
theorem dX12_comes_24 : decode cX12_comes 24 = .ok (.getfield 49, 3) := by decide +kernel
theorem dX12_comes_27 : decode cX12_comes 27 = .ok (.iload_n 1, 1) := by decide +kernel
theorem dX12_comes_28 : decode cX12_comes 28 = .ok (.laload, 1) := by decide +kernel
theorem dX12_comes_29 : decode cX12_comes 29 = .ok (.lcmp, 1) := by decide +kernel
theorem dX12_comes_30 : decode cX12_comes 30 = .ok (.ifCond .ne 5, 3) := by decide +kernel
theorem dX12_comes_33 : decode cX12_comes 33 = .ok (.iload_n 3, 1) := by decide +kernel
theorem dX12_comes_34 : decode cX12_comes 34 = .ok (.istore_n 2, 1) := by decide +kernel
theorem dX12_comes_35 : decode cX12_comes 35 = .ok (.iinc 3 1, 3) := by decide +kernel
theorem dX12_comes_38 : decode cX12_comes 38 = .ok (.goto (-34), 3) := by decide +kernel
theorem dX12_comes_41 : decode cX12_comes 41 = .ok (.aload_n 0, 1) := by decide +kernel
theorem dX12_comes_42 : decode cX12_comes 42 = .ok (.getfield 46, 3) := by decide +kernel
theorem dX12_comes_45 : decode cX12_comes 45 = .ok (.iload_n 1, 1) := by decide +kernel
theorem dX12_comes_46 : decode cX12_comes 46 = .ok (.iaload, 1) := by decide +kernel
theorem dX12_comes_47 : decode cX12_comes 47 = .ok (.iconst 5, 1) := by decide +kernel
theorem dX12_comes_48 : decode cX12_comes 48 = .ok (.if_icmp .ne 50, 3) := by decide +kernel
theorem dX12_comes_51 : decode cX12_comes 51 = .ok (.iload_n 2, 1) := by decide +kernel
theorem dX12_comes_52 : decode cX12_comes 52 = .ok (.iconst (-1), 1) := by decide +kernel
theorem dX12_comes_53 : decode cX12_comes 53 = .ok (.if_icmp .ne 4, 3) := by decide +kernel
theorem dX12_comes_56 : decode cX12_comes 56 = .ok (.return_, 1) := by decide +kernel
theorem dX12_comes_57 : decode cX12_comes 57 = .ok (.aload_n 0, 1) := by decide +kernel
theorem dX12_comes_58 : decode cX12_comes 58 = .ok (.dup, 1) := by decide +kernel
theorem dX12_comes_59 : decode cX12_comes 59 = .ok (.getfield 279, 3) := by decide +kernel
theorem dX12_comes_62 : decode cX12_comes 62 = .ok (.iconst 1, 1) := by decide +kernel
theorem dX12_comes_63 : decode cX12_comes 63 = .ok (.isub, 1) := by decide +kernel
theorem dX12_comes_64 : decode cX12_comes 64 = .ok (.putfield 279, 3) := by decide +kernel
theorem dX12_comes_67 : decode cX12_comes 67 = .ok (.iload_n 2, 1) := by decide +kernel
theorem dX12_comes_68 : decode cX12_comes 68 = .ok (.istore_n 3, 1) := by decide +kernel
theorem dX12_comes_69 : decode cX12_comes 69 = .ok (.iload_n 3, 1) := by decide +kernel
theorem dX12_comes_70 : decode cX12_comes 70 = .ok (.aload_n 0, 1) := by decide +kernel
theorem dX12_comes_71 : decode cX12_comes 71 = .ok (.getfield 279, 3) := by decide +kernel
theorem dX12_comes_74 : decode cX12_comes 74 = .ok (.if_icmp .ge 23, 3) := by decide +kernel
theorem dX12_comes_77 : decode cX12_comes 77 = .ok (.aload_n 0, 1) := by decide +kernel
theorem dX12_comes_78 : decode cX12_comes 78 = .ok (.getfield 101, 3) := by decide +kernel
theorem dX12_comes_81 : decode cX12_comes 81 = .ok (.iload_n 3, 1) := by decide +kernel
theorem dX12_comes_82 : decode cX12_comes 82 = .ok (.aload_n 0, 1) := by decide +kernel
theorem dX12_comes_83 : decode cX12_comes 83 = .ok (.getfield 101, 3) := by decide +kernel
theorem dX12_comes_86 : decode cX12_comes 86 = .ok (.iload_n 3, 1) := by decide +kernel
theorem dX12_comes_87 : decode cX12_comes 87 = .ok (.iconst 1, 1) := by decide +kernel
theorem dX12_comes_88 : decode cX12_comes 88 = .ok (.iadd, 1) := by decide +kernel
theorem dX12_comes_89 : decode cX12_comes 89 = .ok (.iaload, 1) := by decide +kernel
theorem dX12_comes_90 : decode cX12_comes 90 = .ok (.iastore, 1) := by decide +kernel
theorem dX12_comes_91 : decode cX12_comes 91 = .ok (.iinc 3 1, 3) := by decide +kernel
theorem dX12_comes_94 : decode cX12_comes 94 = .ok (.goto (-25), 3) := by decide +kernel
theorem dX12_comes_97 : decode cX12_comes 97 = .ok (.return_, 1) := by decide +kernel
theorem dX12_comes_98 : decode cX12_comes 98 = .ok (.iload_n 2, 1) := by decide +kernel
theorem dX12_comes_99 : decode cX12_comes 99 = .ok (.iconst (-1), 1) := by decide +kernel
theorem dX12_comes_100 : decode cX12_comes 100 = .ok (.if_icmp .ne 18, 3) := by decide +kernel
theorem dX12_comes_103 : decode cX12_comes 103 = .ok (.aload_n 0, 1) := by decide +kernel
theorem dX12_comes_104 : decode cX12_comes 104 = .ok (.getfield 279, 3) := by decide +kernel
theorem dX12_comes_107 : decode cX12_comes 107 = .ok (.istore_n 2, 1) := by decide +kernel
theorem dX12_comes_108 : decode cX12_comes 108 = .ok (.aload_n 0, 1) := by decide +kernel
theorem dX12_comes_109 : decode cX12_comes 109 = .ok (.dup, 1) := by decide +kernel
theorem dX12_comes_110 : decode cX12_comes 110 = .ok (.getfield 279, 3) := by decide +kernel
theorem dX12_comes_113 : decode cX12_comes 113 = .ok (.iconst 1, 1) := by decide +kernel
theorem dX12_comes_114 : decode cX12_comes 114 = .ok (.iadd, 1) := by decide +kernel
theorem dX12_comes_115 : decode cX12_comes 115 = .ok (.putfield 279, 3) := by decide +kernel
theorem dX12_comes_118 : decode cX12_comes 118 = .ok (.aload_n 0, 1) := by decide +kernel
theorem dX12_comes_119 : decode cX12_comes 119 = .ok (.getfield 101, 3) := by decide +kernel
theorem dX12_comes_122 : decode cX12_comes 122 = .ok (.iload_n 2, 1) := by decide +kernel
theorem dX12_comes_123 : decode cX12_comes 123 = .ok (.iload_n 1, 1) := by decide +kernel
theorem dX12_comes_124 : decode cX12_comes 124 = .ok (.iastore, 1) := by decide +kernel
theorem dX12_comes_125 : decode cX12_comes 125 = .ok (.return_, 1) := by decide +kernel
theorem dX12_first_0 : decode cX12_first 0 = .ok (.iconst 0, 1) := by decide +kernel
theorem dX12_first_1 : decode cX12_first 1 = .ok (.istore_n 2, 1) := by decide +kernel
theorem dX12_first_2 : decode cX12_first 2 = .ok (.iload_n 2, 1) := by decide +kernel
theorem dX12_first_3 : decode cX12_first 3 = .ok (.aload_n 0, 1) := by decide +kernel
theorem dX12_first_4 : decode cX12_first 4 = .ok (.getfield 279, 3) := by decide +kernel
theorem dX12_first_7 : decode cX12_first 7 = .ok (.if_icmp .ge 39, 3) := by decide +kernel
theorem dX12_first_10 : decode cX12_first 10 = .ok (.aload_n 0, 1) := by decide +kernel
theorem dX12_first_11 : decode cX12_first 11 = .ok (.getfield 46, 3) := by decide +kernel
theorem dX12_first_14 : decode cX12_first 14 = .ok (.aload_n 0, 1) := by decide +kernel
theorem dX12_first_15 : decode cX12_first 15 = .ok (.getfield 101, 3) := by decide +kernel
theorem dX12_first_18 : decode cX12_first 18 = .ok (.iload_n 2, 1) := by decide +kernel
theorem dX12_first_19 : decode cX12_first 19 = .ok (.iaload, 1) := by decide +kernel
theorem dX12_first_20 : decode cX12_first 20 = .ok (.iaload, 1) := by decide +kernel
theorem dX12_first_21 : decode cX12_first 21 = .ok (.iload_n 1, 1) := by decide +kernel
theorem dX12_first_22 : decode cX12_first 22 = .ok (.if_icmp .ne 18, 3) := by decide +kernel
theorem dX12_first_25 : decode cX12_first 25 = .ok (.aload_n 0, 1) := by decide +kernel
theorem dX12_first_26 : decode cX12_first 26 = .ok (.aload_n 0, 1) := by decide +kernel
theorem dX12_first_27 : decode cX12_first 27 = .ok (.getfield 101, 3) := by decide +kernel
theorem dX12_first_30 : decode cX12_first 30 = .ok (.iload_n 2, 1) := by decide +kernel
theorem dX12_first_31 : decode cX12_first 31 = .ok (.iaload, 1) := by decide +kernel
theorem dX12_first_32 : decode cX12_first 32 = .ok (.invokevirtual 285, 3) := by decide +kernel
theorem dX12_first_35 : decode cX12_first 35 = .ok (.ifCond .eq 5, 3) := by decide +kernel
theorem dX12_first_38 : decode cX12_first 38 = .ok (.iload_n 2, 1) := by decide +kernel
theorem dX12_first_39 : decode cX12_first 39 = .ok (.ireturn, 1) := by decide +kernel
theorem dX12_first_40 : decode cX12_first 40 = .ok (.iinc 2 1, 3) := by decide +kernel
theorem dX12_first_43 : decode cX12_first 43 = .ok (.goto (-41), 3) := by decide +kernel
theorem dX12_first_46 : decode cX12_first 46 = .ok (.iconst (-1), 1) := by decide +kernel
theorem dX12_first_47 : decode cX12_first 47 = .ok (.ireturn, 1) := by decide +kernel
theorem dX12_in_0 : decode cX12_in 0 = .ok (.iload_n 0, 1) := by decide +kernel
theorem dX12_in_1 : decode cX12_in 1 = .ok (.iload_n 1, 1) := by decide +kernel
theorem dX12_in_2 : decode cX12_in 2 = .ok (.if_icmp .lt 12, 3) := by decide +kernel
theorem dX12_in_5 : decode cX12_in 5 = .ok (.iload_n 0, 1) := by decide +kernel
theorem dX12_in_6 : decode cX12_in 6 = .ok (.iload_n 2, 1) := by decide +kernel
theorem dX12_in_7 : decode cX12_in 7 = .ok (.if_icmp .gt 7, 3) := by decide +kernel
theorem dX12_in_10 : decode cX12_in 10 = .ok (.iconst 1, 1) := by decide +kernel
theorem dX12_in_11 : decode cX12_in 11 = .ok (.goto 4, 3) := by decide +kernel
theorem dX12_in_14 : decode cX12_in 14 = .ok (.iconst 0, 1) := by decide +kernel
theorem dX12_in_15 : decode cX12_in 15 = .ok (.ireturn, 1) := by decide +kernel
theorem dX12_isDay_0 : decode cX12_isDay 0 = .ok (.iload_n 0, 1) := by decide +kernel
theorem dX12_isDay_1 : decode cX12_isDay 1 = .ok (.iconst 0, 1) := by decide +kernel
theorem dX12_isDay_2 : decode cX12_isDay 2 = .ok (.bipush 99, 2) := by decide +kernel
theorem dX12_isDay_4 : decode cX12_isDay 4 = .ok (.invokestatic 288, 3) := by decide +kernel
theorem dX12_isDay_7 : decode cX12_isDay 7 = .ok (.ireturn, 1) := by decide +kernel
theorem dX12_rules_0 : decode cX12_rules 0 = .ok (.iload_n 1, 1) := by decide +kernel
theorem dX12_rules_1 : decode cX12_rules 1 = .ok (.invokestatic 292, 3) := by decide +kernel
theorem dX12_rules_4 : decode cX12_rules 4 = .ok (.ifCond .ne 5, 3) := by decide +kernel
theorem dX12_rules_7 : decode cX12_rules 7 = .ok (.iconst (-1), 1) := by decide +kernel
theorem dX12_rules_8 : decode cX12_rules 8 = .ok (.ireturn, 1) := by decide +kernel
theorem dX12_rules_9 : decode cX12_rules 9 = .ok (.aload_n 0, 1) := by decide +kernel
theorem dX12_rules_10 : decode cX12_rules 10 = .ok (.iload_n 1, 1) := by decide +kernel
theorem dX12_rules_11 : decode cX12_rules 11 = .ok (.invokevirtual 295, 3) := by decide +kernel
theorem dX12_rules_14 : decode cX12_rules 14 = .ok (.aload_n 0, 1) := by decide +kernel
theorem dX12_rules_15 : decode cX12_rules 15 = .ok (.getfield 279, 3) := by decide +kernel
theorem dX12_rules_18 : decode cX12_rules 18 = .ok (.ireturn, 1) := by decide +kernel
theorem dX12_rule_0 : decode cX12_rule 0 = .ok (.iload_n 1, 1) := by decide +kernel
theorem dX12_rule_1 : decode cX12_rule 1 = .ok (.invokestatic 292, 3) := by decide +kernel
theorem dX12_rule_4 : decode cX12_rule 4 = .ok (.ifCond .ne 5, 3) := by decide +kernel
theorem dX12_rule_7 : decode cX12_rule 7 = .ok (.iconst (-1), 1) := by decide +kernel
theorem dX12_rule_8 : decode cX12_rule 8 = .ok (.ireturn, 1) := by decide +kernel
theorem dX12_rule_9 : decode cX12_rule 9 = .ok (.aload_n 0, 1) := by decide +kernel
theorem dX12_rule_10 : decode cX12_rule 10 = .ok (.iload_n 1, 1) := by decide +kernel
theorem dX12_rule_11 : decode cX12_rule 11 = .ok (.invokevirtual 295, 3) := by decide +kernel
theorem dX12_rule_14 : decode cX12_rule 14 = .ok (.iload_n 2, 1) := by decide +kernel
theorem dX12_rule_15 : decode cX12_rule 15 = .ok (.ifCond .lt 11, 3) := by decide +kernel
theorem dX12_rule_18 : decode cX12_rule 18 = .ok (.iload_n 2, 1) := by decide +kernel
theorem dX12_rule_19 : decode cX12_rule 19 = .ok (.aload_n 0, 1) := by decide +kernel
theorem dX12_rule_20 : decode cX12_rule 20 = .ok (.getfield 279, 3) := by decide +kernel
theorem dX12_rule_23 : decode cX12_rule 23 = .ok (.if_icmp .lt 5, 3) := by decide +kernel
theorem dX12_rule_26 : decode cX12_rule 26 = .ok (.iconst (-1), 1) := by decide +kernel
theorem dX12_rule_27 : decode cX12_rule 27 = .ok (.ireturn, 1) := by decide +kernel
theorem dX12_rule_28 : decode cX12_rule 28 = .ok (.iload_n 3, 1) := by decide +kernel
theorem dX12_rule_29 : decode cX12_rule 29 = .ok (.ifCond .ne 17, 3) := by decide +kernel
theorem dX12_rule_32 : decode cX12_rule 32 = .ok (.aload_n 0, 1) := by decide +kernel
theorem dX12_rule_33 : decode cX12_rule 33 = .ok (.getfield 46, 3) := by decide +kernel
theorem dX12_rule_36 : decode cX12_rule 36 = .ok (.aload_n 0, 1) := by decide +kernel
theorem dX12_rule_37 : decode cX12_rule 37 = .ok (.getfield 101, 3) := by decide +kernel
theorem dX12_rule_40 : decode cX12_rule 40 = .ok (.iload_n 2, 1) := by decide +kernel
theorem dX12_rule_41 : decode cX12_rule 41 = .ok (.iaload, 1) := by decide +kernel
theorem dX12_rule_42 : decode cX12_rule 42 = .ok (.iaload, 1) := by decide +kernel
theorem dX12_rule_43 : decode cX12_rule 43 = .ok (.goto 38, 3) := by decide +kernel
theorem dX12_rule_46 : decode cX12_rule 46 = .ok (.iload_n 3, 1) := by decide +kernel
theorem dX12_rule_47 : decode cX12_rule 47 = .ok (.iconst 1, 1) := by decide +kernel
theorem dX12_rule_48 : decode cX12_rule 48 = .ok (.if_icmp .ne 15, 3) := by decide +kernel
theorem dX12_rule_51 : decode cX12_rule 51 = .ok (.aload_n 0, 1) := by decide +kernel
theorem dX12_rule_52 : decode cX12_rule 52 = .ok (.getfield 101, 3) := by decide +kernel
theorem dX12_rule_55 : decode cX12_rule 55 = .ok (.iload_n 2, 1) := by decide +kernel
theorem dX12_rule_56 : decode cX12_rule 56 = .ok (.iaload, 1) := by decide +kernel
theorem dX12_rule_57 : decode cX12_rule 57 = .ok (.bipush 24, 2) := by decide +kernel
theorem dX12_rule_59 : decode cX12_rule 59 = .ok (.idiv, 1) := by decide +kernel
theorem dX12_rule_60 : decode cX12_rule 60 = .ok (.goto 21, 3) := by decide +kernel
theorem dX12_rule_63 : decode cX12_rule 63 = .ok (.iload_n 3, 1) := by decide +kernel
theorem dX12_rule_64 : decode cX12_rule 64 = .ok (.iconst 2, 1) := by decide +kernel
theorem dX12_rule_65 : decode cX12_rule 65 = .ok (.if_icmp .ne 15, 3) := by decide +kernel
theorem dX12_rule_68 : decode cX12_rule 68 = .ok (.aload_n 0, 1) := by decide +kernel
theorem dX12_rule_69 : decode cX12_rule 69 = .ok (.getfield 101, 3) := by decide +kernel
theorem dX12_rule_72 : decode cX12_rule 72 = .ok (.iload_n 2, 1) := by decide +kernel
theorem dX12_rule_73 : decode cX12_rule 73 = .ok (.iaload, 1) := by decide +kernel
theorem dX12_rule_74 : decode cX12_rule 74 = .ok (.bipush 24, 2) := by decide +kernel
theorem dX12_rule_76 : decode cX12_rule 76 = .ok (.irem, 1) := by decide +kernel
theorem dX12_rule_77 : decode cX12_rule 77 = .ok (.goto 4, 3) := by decide +kernel
theorem dX12_rule_80 : decode cX12_rule 80 = .ok (.iconst (-1), 1) := by decide +kernel
theorem dX12_rule_81 : decode cX12_rule 81 = .ok (.ireturn, 1) := by decide +kernel
theorem dX12_changed_0 : decode cX12_changed 0 = .ok (.aload_n 0, 1) := by decide +kernel
theorem dX12_changed_1 : decode cX12_changed 1 = .ok (.iconst (-1), 1) := by decide +kernel
theorem dX12_changed_2 : decode cX12_changed 2 = .ok (.putfield 98, 3) := by decide +kernel
theorem dX12_changed_5 : decode cX12_changed 5 = .ok (.return_, 1) := by decide +kernel
theorem dX12_tells_0 : decode cX12_tells 0 = .ok (.aload_n 0, 1) := by decide +kernel
theorem dX12_tells_1 : decode cX12_tells 1 = .ok (.getfield 104, 3) := by decide +kernel
theorem dX12_tells_4 : decode cX12_tells 4 = .ok (.aload_n 0, 1) := by decide +kernel
theorem dX12_tells_5 : decode cX12_tells 5 = .ok (.getfield 298, 3) := by decide +kernel
theorem dX12_tells_8 : decode cX12_tells 8 = .ok (.iload_n 1, 1) := by decide +kernel
theorem dX12_tells_9 : decode cX12_tells 9 = .ok (.iastore, 1) := by decide +kernel
theorem dX12_tells_10 : decode cX12_tells 10 = .ok (.aload_n 0, 1) := by decide +kernel
theorem dX12_tells_11 : decode cX12_tells 11 = .ok (.getfield 107, 3) := by decide +kernel
theorem dX12_tells_14 : decode cX12_tells 14 = .ok (.aload_n 0, 1) := by decide +kernel
theorem dX12_tells_15 : decode cX12_tells 15 = .ok (.getfield 298, 3) := by decide +kernel
theorem dX12_tells_18 : decode cX12_tells 18 = .ok (.iload_n 2, 1) := by decide +kernel
theorem dX12_tells_19 : decode cX12_tells 19 = .ok (.iastore, 1) := by decide +kernel
theorem dX12_tells_20 : decode cX12_tells 20 = .ok (.aload_n 0, 1) := by decide +kernel
theorem dX12_tells_21 : decode cX12_tells 21 = .ok (.getfield 110, 3) := by decide +kernel
theorem dX12_tells_24 : decode cX12_tells 24 = .ok (.aload_n 0, 1) := by decide +kernel
theorem dX12_tells_25 : decode cX12_tells 25 = .ok (.getfield 298, 3) := by decide +kernel
theorem dX12_tells_28 : decode cX12_tells 28 = .ok (.iload_n 3, 1) := by decide +kernel
theorem dX12_tells_29 : decode cX12_tells 29 = .ok (.iastore, 1) := by decide +kernel
theorem dX12_tells_30 : decode cX12_tells 30 = .ok (.aload_n 0, 1) := by decide +kernel
theorem dX12_tells_31 : decode cX12_tells 31 = .ok (.getfield 113, 3) := by decide +kernel
theorem dX12_tells_34 : decode cX12_tells 34 = .ok (.aload_n 0, 1) := by decide +kernel
theorem dX12_tells_35 : decode cX12_tells 35 = .ok (.getfield 298, 3) := by decide +kernel
theorem dX12_tells_38 : decode cX12_tells 38 = .ok (.iload 4, 2) := by decide +kernel
theorem dX12_tells_40 : decode cX12_tells 40 = .ok (.iastore, 1) := by decide +kernel
theorem dX12_tells_41 : decode cX12_tells 41 = .ok (.aload_n 0, 1) := by decide +kernel
theorem dX12_tells_42 : decode cX12_tells 42 = .ok (.getfield 116, 3) := by decide +kernel
theorem dX12_tells_45 : decode cX12_tells 45 = .ok (.aload_n 0, 1) := by decide +kernel
theorem dX12_tells_46 : decode cX12_tells 46 = .ok (.getfield 298, 3) := by decide +kernel
theorem dX12_tells_49 : decode cX12_tells 49 = .ok (.iload 5, 2) := by decide +kernel
theorem dX12_tells_51 : decode cX12_tells 51 = .ok (.iastore, 1) := by decide +kernel
theorem dX12_tells_52 : decode cX12_tells 52 = .ok (.aload_n 0, 1) := by decide +kernel
theorem dX12_tells_53 : decode cX12_tells 53 = .ok (.getfield 119, 3) := by decide +kernel
theorem dX12_tells_56 : decode cX12_tells 56 = .ok (.aload_n 0, 1) := by decide +kernel
theorem dX12_tells_57 : decode cX12_tells 57 = .ok (.getfield 298, 3) := by decide +kernel
theorem dX12_tells_60 : decode cX12_tells 60 = .ok (.iload 6, 2) := by decide +kernel
theorem dX12_tells_62 : decode cX12_tells 62 = .ok (.iastore, 1) := by decide +kernel
theorem dX12_tells_63 : decode cX12_tells 63 = .ok (.aload_n 0, 1) := by decide +kernel
theorem dX12_tells_64 : decode cX12_tells 64 = .ok (.getfield 122, 3) := by decide +kernel
theorem dX12_tells_67 : decode cX12_tells 67 = .ok (.aload_n 0, 1) := by decide +kernel
theorem dX12_tells_68 : decode cX12_tells 68 = .ok (.getfield 298, 3) := by decide +kernel
theorem dX12_tells_71 : decode cX12_tells 71 = .ok (.iload 7, 2) := by decide +kernel
theorem dX12_tells_73 : decode cX12_tells 73 = .ok (.iastore, 1) := by decide +kernel
theorem dX12_tells_74 : decode cX12_tells 74 = .ok (.aload_n 0, 1) := by decide +kernel
theorem dX12_tells_75 : decode cX12_tells 75 = .ok (.getfield 125, 3) := by decide +kernel
theorem dX12_tells_78 : decode cX12_tells 78 = .ok (.aload_n 0, 1) := by decide +kernel
theorem dX12_tells_79 : decode cX12_tells 79 = .ok (.getfield 298, 3) := by decide +kernel
theorem dX12_tells_82 : decode cX12_tells 82 = .ok (.iload 8, 2) := by decide +kernel
theorem dX12_tells_84 : decode cX12_tells 84 = .ok (.iastore, 1) := by decide +kernel
theorem dX12_tells_85 : decode cX12_tells 85 = .ok (.aload_n 0, 1) := by decide +kernel
theorem dX12_tells_86 : decode cX12_tells 86 = .ok (.dup, 1) := by decide +kernel
theorem dX12_tells_87 : decode cX12_tells 87 = .ok (.getfield 298, 3) := by decide +kernel
theorem dX12_tells_90 : decode cX12_tells 90 = .ok (.iconst 1, 1) := by decide +kernel
theorem dX12_tells_91 : decode cX12_tells 91 = .ok (.iadd, 1) := by decide +kernel
theorem dX12_tells_92 : decode cX12_tells 92 = .ok (.putfield 298, 3) := by decide +kernel
theorem dX12_tells_95 : decode cX12_tells 95 = .ok (.aload_n 0, 1) := by decide +kernel
theorem dX12_tells_96 : decode cX12_tells 96 = .ok (.getfield 298, 3) := by decide +kernel
theorem dX12_tells_99 : decode cX12_tells 99 = .ok (.iconst 1, 1) := by decide +kernel
theorem dX12_tells_100 : decode cX12_tells 100 = .ok (.isub, 1) := by decide +kernel
theorem dX12_tells_101 : decode cX12_tells 101 = .ok (.ireturn, 1) := by decide +kernel
theorem dX12_isWord_0 : decode cX12_isWord 0 = .ok (.iload_n 0, 1) := by decide +kernel
theorem dX12_isWord_1 : decode cX12_isWord 1 = .ok (.iconst 1, 1) := by decide +kernel
theorem dX12_isWord_2 : decode cX12_isWord 2 = .ok (.sipush 999, 3) := by decide +kernel
theorem dX12_isWord_5 : decode cX12_isWord 5 = .ok (.invokestatic 288, 3) := by decide +kernel
theorem dX12_isWord_8 : decode cX12_isWord 8 = .ok (.ireturn, 1) := by decide +kernel
theorem dX12_isMinute_0 : decode cX12_isMinute 0 = .ok (.iload_n 0, 1) := by decide +kernel
theorem dX12_isMinute_1 : decode cX12_isMinute 1 = .ok (.iconst 0, 1) := by decide +kernel
theorem dX12_isMinute_2 : decode cX12_isMinute 2 = .ok (.sipush 239, 3) := by decide +kernel
theorem dX12_isMinute_5 : decode cX12_isMinute 5 = .ok (.invokestatic 288, 3) := by decide +kernel
theorem dX12_isMinute_8 : decode cX12_isMinute 8 = .ok (.ireturn, 1) := by decide +kernel
theorem dX12_isSeat_0 : decode cX12_isSeat 0 = .ok (.iload_n 0, 1) := by decide +kernel
theorem dX12_isSeat_1 : decode cX12_isSeat 1 = .ok (.iconst 0, 1) := by decide +kernel
theorem dX12_isSeat_2 : decode cX12_isSeat 2 = .ok (.bipush 9, 2) := by decide +kernel
theorem dX12_isSeat_4 : decode cX12_isSeat 4 = .ok (.invokestatic 288, 3) := by decide +kernel
theorem dX12_isSeat_7 : decode cX12_isSeat 7 = .ok (.ireturn, 1) := by decide +kernel
theorem dX12_isMember_0 : decode cX12_isMember 0 = .ok (.iload_n 0, 1) := by decide +kernel
theorem dX12_isMember_1 : decode cX12_isMember 1 = .ok (.iconst 0, 1) := by decide +kernel
theorem dX12_isMember_2 : decode cX12_isMember 2 = .ok (.bipush 7, 2) := by decide +kernel
theorem dX12_isMember_4 : decode cX12_isMember 4 = .ok (.invokestatic 288, 3) := by decide +kernel
theorem dX12_isMember_7 : decode cX12_isMember 7 = .ok (.ireturn, 1) := by decide +kernel
theorem dX12_line_0 : decode cX12_line 0 = .ok (.aload_n 0, 1) := by decide +kernel
theorem dX12_line_1 : decode cX12_line 1 = .ok (.getfield 298, 3) := by decide +kernel
theorem dX12_line_4 : decode cX12_line 4 = .ok (.sipush 180, 3) := by decide +kernel
theorem dX12_line_7 : decode cX12_line 7 = .ok (.if_icmp .eq 25, 3) := by decide +kernel
theorem dX12_line_10 : decode cX12_line 10 = .ok (.iload_n 1, 1) := by decide +kernel
theorem dX12_line_11 : decode cX12_line 11 = .ok (.invokestatic 292, 3) := by decide +kernel
theorem dX12_line_14 : decode cX12_line 14 = .ok (.ifCond .eq 18, 3) := by decide +kernel
theorem dX12_line_17 : decode cX12_line 17 = .ok (.iload_n 2, 1) := by decide +kernel
theorem dX12_line_18 : decode cX12_line 18 = .ok (.invokestatic 301, 3) := by decide +kernel
theorem dX12_line_21 : decode cX12_line 21 = .ok (.ifCond .eq 11, 3) := by decide +kernel
theorem dX12_line_24 : decode cX12_line 24 = .ok (.iload 4, 2) := by decide +kernel
theorem dX12_line_26 : decode cX12_line 26 = .ok (.invokestatic 304, 3) := by decide +kernel
theorem dX12_line_29 : decode cX12_line 29 = .ok (.ifCond .ne 5, 3) := by decide +kernel
theorem dX12_line_32 : decode cX12_line 32 = .ok (.iconst (-1), 1) := by decide +kernel
theorem dX12_line_33 : decode cX12_line 33 = .ok (.ireturn, 1) := by decide +kernel
theorem dX12_line_34 : decode cX12_line 34 = .ok (.iload_n 3, 1) := by decide +kernel
theorem dX12_line_35 : decode cX12_line 35 = .ok (.ifCond .eq 13, 3) := by decide +kernel
theorem dX12_line_38 : decode cX12_line 38 = .ok (.iload_n 3, 1) := by decide +kernel
theorem dX12_line_39 : decode cX12_line 39 = .ok (.iconst 2, 1) := by decide +kernel
theorem dX12_line_40 : decode cX12_line 40 = .ok (.if_icmp .eq 8, 3) := by decide +kernel
theorem dX12_line_43 : decode cX12_line 43 = .ok (.iload_n 3, 1) := by decide +kernel
theorem dX12_line_44 : decode cX12_line 44 = .ok (.iconst 3, 1) := by decide +kernel
theorem dX12_line_45 : decode cX12_line 45 = .ok (.if_icmp .ne 24, 3) := by decide +kernel
theorem dX12_line_48 : decode cX12_line 48 = .ok (.iload_n 3, 1) := by decide +kernel
theorem dX12_line_49 : decode cX12_line 49 = .ok (.iconst 3, 1) := by decide +kernel
theorem dX12_line_50 : decode cX12_line 50 = .ok (.if_icmp .ne 11, 3) := by decide +kernel
theorem dX12_line_53 : decode cX12_line 53 = .ok (.iload 5, 2) := by decide +kernel
theorem dX12_line_55 : decode cX12_line 55 = .ok (.ifCond .eq 16, 3) := by decide +kernel
theorem dX12_line_58 : decode cX12_line 58 = .ok (.goto 11, 3) := by decide +kernel
theorem dX12_line_61 : decode cX12_line 61 = .ok (.iload 5, 2) := by decide +kernel
theorem dX12_line_63 : decode cX12_line 63 = .ok (.invokestatic 307, 3) := by decide +kernel
theorem dX12_line_66 : decode cX12_line 66 = .ok (.ifCond .ne 5, 3) := by decide +kernel
theorem dX12_line_69 : decode cX12_line 69 = .ok (.iconst (-1), 1) := by decide +kernel
theorem dX12_line_70 : decode cX12_line 70 = .ok (.ireturn, 1) := by decide +kernel
theorem dX12_line_71 : decode cX12_line 71 = .ok (.aload_n 0, 1) := by decide +kernel
theorem dX12_line_72 : decode cX12_line 72 = .ok (.iconst 0, 1) := by decide +kernel
theorem dX12_line_73 : decode cX12_line 73 = .ok (.iload_n 1, 1) := by decide +kernel
theorem dX12_line_74 : decode cX12_line 74 = .ok (.iload_n 2, 1) := by decide +kernel
theorem dX12_line_75 : decode cX12_line 75 = .ok (.iload_n 3, 1) := by decide +kernel
theorem dX12_line_76 : decode cX12_line 76 = .ok (.iload 4, 2) := by decide +kernel
theorem dX12_line_78 : decode cX12_line 78 = .ok (.iload 5, 2) := by decide +kernel
theorem dX12_line_80 : decode cX12_line 80 = .ok (.iconst (-1), 1) := by decide +kernel
theorem dX12_line_81 : decode cX12_line 81 = .ok (.iconst (-1), 1) := by decide +kernel
theorem dX12_line_82 : decode cX12_line 82 = .ok (.invokevirtual 310, 3) := by decide +kernel
theorem dX12_line_85 : decode cX12_line 85 = .ok (.ireturn, 1) := by decide +kernel
theorem dX12_reads_0 : decode cX12_reads 0 = .ok (.aload_n 0, 1) := by decide +kernel
theorem dX12_reads_1 : decode cX12_reads 1 = .ok (.getfield 298, 3) := by decide +kernel
theorem dX12_reads_4 : decode cX12_reads 4 = .ok (.sipush 180, 3) := by decide +kernel
theorem dX12_reads_7 : decode cX12_reads 7 = .ok (.if_icmp .eq 53, 3) := by decide +kernel
theorem dX12_reads_10 : decode cX12_reads 10 = .ok (.iload_n 1, 1) := by decide +kernel
theorem dX12_reads_11 : decode cX12_reads 11 = .ok (.invokestatic 292, 3) := by decide +kernel
theorem dX12_reads_14 : decode cX12_reads 14 = .ok (.ifCond .eq 46, 3) := by decide +kernel
theorem dX12_reads_17 : decode cX12_reads 17 = .ok (.iload_n 2, 1) := by decide +kernel
theorem dX12_reads_18 : decode cX12_reads 18 = .ok (.invokestatic 301, 3) := by decide +kernel
theorem dX12_reads_21 : decode cX12_reads 21 = .ok (.ifCond .eq 39, 3) := by decide +kernel
theorem dX12_reads_24 : decode cX12_reads 24 = .ok (.iload_n 3, 1) := by decide +kernel
theorem dX12_reads_25 : decode cX12_reads 25 = .ok (.invokestatic 304, 3) := by decide +kernel
theorem dX12_reads_28 : decode cX12_reads 28 = .ok (.ifCond .eq 32, 3) := by decide +kernel
theorem dX12_reads_31 : decode cX12_reads 31 = .ok (.iload 4, 2) := by decide +kernel
theorem dX12_reads_33 : decode cX12_reads 33 = .ok (.invokestatic 307, 3) := by decide +kernel
theorem dX12_reads_36 : decode cX12_reads 36 = .ok (.ifCond .eq 24, 3) := by decide +kernel
theorem dX12_reads_39 : decode cX12_reads 39 = .ok (.iload 5, 2) := by decide +kernel
theorem dX12_reads_41 : decode cX12_reads 41 = .ok (.iconst 0, 1) := by decide +kernel
theorem dX12_reads_42 : decode cX12_reads 42 = .ok (.iconst 3, 1) := by decide +kernel
theorem dX12_reads_43 : decode cX12_reads 43 = .ok (.invokestatic 288, 3) := by decide +kernel
theorem dX12_reads_46 : decode cX12_reads 46 = .ok (.ifCond .eq 14, 3) := by decide +kernel
theorem dX12_reads_49 : decode cX12_reads 49 = .ok (.iload 6, 2) := by decide +kernel
theorem dX12_reads_51 : decode cX12_reads 51 = .ok (.iconst 0, 1) := by decide +kernel
theorem dX12_reads_52 : decode cX12_reads 52 = .ok (.bipush 9, 2) := by decide +kernel
theorem dX12_reads_54 : decode cX12_reads 54 = .ok (.invokestatic 288, 3) := by decide +kernel
theorem dX12_reads_57 : decode cX12_reads 57 = .ok (.ifCond .ne 5, 3) := by decide +kernel
theorem dX12_reads_60 : decode cX12_reads 60 = .ok (.iconst (-1), 1) := by decide +kernel
theorem dX12_reads_61 : decode cX12_reads 61 = .ok (.ireturn, 1) := by decide +kernel
theorem dX12_reads_62 : decode cX12_reads 62 = .ok (.aload_n 0, 1) := by decide +kernel
theorem dX12_reads_63 : decode cX12_reads 63 = .ok (.iconst 0, 1) := by decide +kernel
theorem dX12_reads_64 : decode cX12_reads 64 = .ok (.iload_n 1, 1) := by decide +kernel
theorem dX12_reads_65 : decode cX12_reads 65 = .ok (.iload_n 2, 1) := by decide +kernel
theorem dX12_reads_66 : decode cX12_reads 66 = .ok (.iconst 1, 1) := by decide +kernel
theorem dX12_reads_67 : decode cX12_reads 67 = .ok (.iload_n 3, 1) := by decide +kernel
theorem dX12_reads_68 : decode cX12_reads 68 = .ok (.iload 4, 2) := by decide +kernel
theorem dX12_reads_70 : decode cX12_reads 70 = .ok (.iload 5, 2) := by decide +kernel
theorem dX12_reads_72 : decode cX12_reads 72 = .ok (.iload 6, 2) := by decide +kernel
theorem dX12_reads_74 : decode cX12_reads 74 = .ok (.invokevirtual 310, 3) := by decide +kernel
theorem dX12_reads_77 : decode cX12_reads 77 = .ok (.ireturn, 1) := by decide +kernel
theorem dX12_sits_0 : decode cX12_sits 0 = .ok (.aload_n 0, 1) := by decide +kernel
theorem dX12_sits_1 : decode cX12_sits 1 = .ok (.getfield 298, 3) := by decide +kernel
theorem dX12_sits_4 : decode cX12_sits 4 = .ok (.sipush 180, 3) := by decide +kernel
theorem dX12_sits_7 : decode cX12_sits 7 = .ok (.if_icmp .eq 24, 3) := by decide +kernel
theorem dX12_sits_10 : decode cX12_sits 10 = .ok (.iload_n 1, 1) := by decide +kernel
theorem dX12_sits_11 : decode cX12_sits 11 = .ok (.invokestatic 314, 3) := by decide +kernel
theorem dX12_sits_14 : decode cX12_sits 14 = .ok (.ifCond .eq 17, 3) := by decide +kernel
theorem dX12_sits_17 : decode cX12_sits 17 = .ok (.iload_n 2, 1) := by decide +kernel
theorem dX12_sits_18 : decode cX12_sits 18 = .ok (.invokestatic 304, 3) := by decide +kernel
theorem dX12_sits_21 : decode cX12_sits 21 = .ok (.ifCond .eq 10, 3) := by decide +kernel
theorem dX12_sits_24 : decode cX12_sits 24 = .ok (.iload_n 3, 1) := by decide +kernel
theorem dX12_sits_25 : decode cX12_sits 25 = .ok (.invokestatic 292, 3) := by decide +kernel
theorem dX12_sits_28 : decode cX12_sits 28 = .ok (.ifCond .ne 7, 3) := by decide +kernel
theorem dX12_sits_31 : decode cX12_sits 31 = .ok (.iconst (-1), 1) := by decide +kernel
theorem dX12_sits_32 : decode cX12_sits 32 = .ok (.goto 15, 3) := by decide +kernel
theorem dX12_sits_35 : decode cX12_sits 35 = .ok (.aload_n 0, 1) := by decide +kernel
theorem dX12_sits_36 : decode cX12_sits 36 = .ok (.iconst 1, 1) := by decide +kernel
theorem dX12_sits_37 : decode cX12_sits 37 = .ok (.iload_n 3, 1) := by decide +kernel
theorem dX12_sits_38 : decode cX12_sits 38 = .ok (.iload_n 1, 1) := by decide +kernel
theorem dX12_sits_39 : decode cX12_sits 39 = .ok (.iload_n 2, 1) := by decide +kernel
theorem dX12_sits_40 : decode cX12_sits 40 = .ok (.iconst 0, 1) := by decide +kernel
theorem dX12_sits_41 : decode cX12_sits 41 = .ok (.iconst 0, 1) := by decide +kernel
theorem dX12_sits_42 : decode cX12_sits 42 = .ok (.iconst 0, 1) := by decide +kernel
theorem dX12_sits_43 : decode cX12_sits 43 = .ok (.iconst 0, 1) := by decide +kernel
theorem dX12_sits_44 : decode cX12_sits 44 = .ok (.invokevirtual 310, 3) := by decide +kernel
theorem dX12_sits_47 : decode cX12_sits 47 = .ok (.ireturn, 1) := by decide +kernel
theorem dX12_office_0 : decode cX12_office 0 = .ok (.aload_n 0, 1) := by decide +kernel
theorem dX12_office_1 : decode cX12_office 1 = .ok (.getfield 298, 3) := by decide +kernel
theorem dX12_office_4 : decode cX12_office 4 = .ok (.sipush 180, 3) := by decide +kernel
theorem dX12_office_7 : decode cX12_office 7 = .ok (.if_icmp .eq 20, 3) := by decide +kernel
theorem dX12_office_10 : decode cX12_office 10 = .ok (.iload_n 1, 1) := by decide +kernel
theorem dX12_office_11 : decode cX12_office 11 = .ok (.invokestatic 314, 3) := by decide +kernel
theorem dX12_office_14 : decode cX12_office 14 = .ok (.ifCond .eq 13, 3) := by decide +kernel
theorem dX12_office_17 : decode cX12_office 17 = .ok (.iload_n 2, 1) := by decide +kernel
theorem dX12_office_18 : decode cX12_office 18 = .ok (.iconst 0, 1) := by decide +kernel
theorem dX12_office_19 : decode cX12_office 19 = .ok (.bipush 9, 2) := by decide +kernel
theorem dX12_office_21 : decode cX12_office 21 = .ok (.invokestatic 288, 3) := by decide +kernel
theorem dX12_office_24 : decode cX12_office 24 = .ok (.ifCond .ne 7, 3) := by decide +kernel
theorem dX12_office_27 : decode cX12_office 27 = .ok (.iconst (-1), 1) := by decide +kernel
theorem dX12_office_28 : decode cX12_office 28 = .ok (.goto 15, 3) := by decide +kernel
theorem dX12_office_31 : decode cX12_office 31 = .ok (.aload_n 0, 1) := by decide +kernel
theorem dX12_office_32 : decode cX12_office 32 = .ok (.iconst 2, 1) := by decide +kernel
theorem dX12_office_33 : decode cX12_office 33 = .ok (.iconst (-1), 1) := by decide +kernel
theorem dX12_office_34 : decode cX12_office 34 = .ok (.iload_n 1, 1) := by decide +kernel
theorem dX12_office_35 : decode cX12_office 35 = .ok (.iload_n 2, 1) := by decide +kernel
theorem dX12_office_36 : decode cX12_office 36 = .ok (.iconst 0, 1) := by decide +kernel
theorem dX12_office_37 : decode cX12_office 37 = .ok (.iconst 0, 1) := by decide +kernel
theorem dX12_office_38 : decode cX12_office 38 = .ok (.iconst 0, 1) := by decide +kernel
theorem dX12_office_39 : decode cX12_office 39 = .ok (.iconst 0, 1) := by decide +kernel
theorem dX12_office_40 : decode cX12_office 40 = .ok (.invokevirtual 310, 3) := by decide +kernel
theorem dX12_office_43 : decode cX12_office 43 = .ok (.ireturn, 1) := by decide +kernel
theorem dX12_paper_0 : decode cX12_paper 0 = .ok (.aload_n 0, 1) := by decide +kernel
theorem dX12_paper_1 : decode cX12_paper 1 = .ok (.getfield 298, 3) := by decide +kernel
theorem dX12_paper_4 : decode cX12_paper 4 = .ok (.sipush 180, 3) := by decide +kernel
theorem dX12_paper_7 : decode cX12_paper 7 = .ok (.if_icmp .eq 33, 3) := by decide +kernel
theorem dX12_paper_10 : decode cX12_paper 10 = .ok (.iload_n 1, 1) := by decide +kernel
theorem dX12_paper_11 : decode cX12_paper 11 = .ok (.iconst 0, 1) := by decide +kernel
theorem dX12_paper_12 : decode cX12_paper 12 = .ok (.iconst 3, 1) := by decide +kernel
theorem dX12_paper_13 : decode cX12_paper 13 = .ok (.invokestatic 288, 3) := by decide +kernel
theorem dX12_paper_16 : decode cX12_paper 16 = .ok (.ifCond .eq 24, 3) := by decide +kernel
theorem dX12_paper_19 : decode cX12_paper 19 = .ok (.iload_n 2, 1) := by decide +kernel
theorem dX12_paper_20 : decode cX12_paper 20 = .ok (.iconst 0, 1) := by decide +kernel
theorem dX12_paper_21 : decode cX12_paper 21 = .ok (.bipush 9, 2) := by decide +kernel
theorem dX12_paper_23 : decode cX12_paper 23 = .ok (.invokestatic 288, 3) := by decide +kernel
theorem dX12_paper_26 : decode cX12_paper 26 = .ok (.ifCond .eq 14, 3) := by decide +kernel
theorem dX12_paper_29 : decode cX12_paper 29 = .ok (.iload_n 3, 1) := by decide +kernel
theorem dX12_paper_30 : decode cX12_paper 30 = .ok (.iconst 0, 1) := by decide +kernel
theorem dX12_paper_31 : decode cX12_paper 31 = .ok (.sipush 999, 3) := by decide +kernel
theorem dX12_paper_34 : decode cX12_paper 34 = .ok (.invokestatic 288, 3) := by decide +kernel
theorem dX12_paper_37 : decode cX12_paper 37 = .ok (.ifCond .ne 7, 3) := by decide +kernel
theorem dX12_paper_40 : decode cX12_paper 40 = .ok (.iconst (-1), 1) := by decide +kernel
theorem dX12_paper_41 : decode cX12_paper 41 = .ok (.goto 15, 3) := by decide +kernel
theorem dX12_paper_44 : decode cX12_paper 44 = .ok (.aload_n 0, 1) := by decide +kernel
theorem dX12_paper_45 : decode cX12_paper 45 = .ok (.iconst 3, 1) := by decide +kernel
theorem dX12_paper_46 : decode cX12_paper 46 = .ok (.iconst (-1), 1) := by decide +kernel
theorem dX12_paper_47 : decode cX12_paper 47 = .ok (.iload_n 1, 1) := by decide +kernel
theorem dX12_paper_48 : decode cX12_paper 48 = .ok (.iload_n 2, 1) := by decide +kernel
theorem dX12_paper_49 : decode cX12_paper 49 = .ok (.iload_n 3, 1) := by decide +kernel
theorem dX12_paper_50 : decode cX12_paper 50 = .ok (.iconst 0, 1) := by decide +kernel
theorem dX12_paper_51 : decode cX12_paper 51 = .ok (.iconst 0, 1) := by decide +kernel
theorem dX12_paper_52 : decode cX12_paper 52 = .ok (.iconst 0, 1) := by decide +kernel
theorem dX12_paper_53 : decode cX12_paper 53 = .ok (.invokevirtual 310, 3) := by decide +kernel
theorem dX12_paper_56 : decode cX12_paper 56 = .ok (.ireturn, 1) := by decide +kernel
theorem dX12_isLine_0 : decode cX12_isLine 0 = .ok (.iload_n 1, 1) := by decide +kernel
theorem dX12_isLine_1 : decode cX12_isLine 1 = .ok (.ifCond .lt 21, 3) := by decide +kernel
theorem dX12_isLine_4 : decode cX12_isLine 4 = .ok (.iload_n 1, 1) := by decide +kernel
theorem dX12_isLine_5 : decode cX12_isLine 5 = .ok (.iload_n 2, 1) := by decide +kernel
theorem dX12_isLine_6 : decode cX12_isLine 6 = .ok (.if_icmp .ge 16, 3) := by decide +kernel
theorem dX12_isLine_9 : decode cX12_isLine 9 = .ok (.aload_n 0, 1) := by decide +kernel
theorem dX12_isLine_10 : decode cX12_isLine 10 = .ok (.getfield 104, 3) := by decide +kernel
theorem dX12_isLine_13 : decode cX12_isLine 13 = .ok (.iload_n 1, 1) := by decide +kernel
theorem dX12_isLine_14 : decode cX12_isLine 14 = .ok (.iaload, 1) := by decide +kernel
theorem dX12_isLine_15 : decode cX12_isLine 15 = .ok (.ifCond .ne 7, 3) := by decide +kernel
theorem dX12_isLine_18 : decode cX12_isLine 18 = .ok (.iconst 1, 1) := by decide +kernel
theorem dX12_isLine_19 : decode cX12_isLine 19 = .ok (.goto 4, 3) := by decide +kernel
theorem dX12_isLine_22 : decode cX12_isLine 22 = .ok (.iconst 0, 1) := by decide +kernel
theorem dX12_isLine_23 : decode cX12_isLine 23 = .ok (.ireturn, 1) := by decide +kernel
theorem dX12_fact_0 : decode cX12_fact 0 = .ok (.aload_n 0, 1) := by decide +kernel
theorem dX12_fact_1 : decode cX12_fact 1 = .ok (.getfield 298, 3) := by decide +kernel
theorem dX12_fact_4 : decode cX12_fact 4 = .ok (.sipush 180, 3) := by decide +kernel
theorem dX12_fact_7 : decode cX12_fact 7 = .ok (.if_icmp .eq 24, 3) := by decide +kernel
theorem dX12_fact_10 : decode cX12_fact 10 = .ok (.iload_n 1, 1) := by decide +kernel
theorem dX12_fact_11 : decode cX12_fact 11 = .ok (.iconst 0, 1) := by decide +kernel
theorem dX12_fact_12 : decode cX12_fact 12 = .ok (.iconst 3, 1) := by decide +kernel
theorem dX12_fact_13 : decode cX12_fact 13 = .ok (.invokestatic 288, 3) := by decide +kernel
theorem dX12_fact_16 : decode cX12_fact 16 = .ok (.ifCond .eq 15, 3) := by decide +kernel
theorem dX12_fact_19 : decode cX12_fact 19 = .ok (.aload_n 0, 1) := by decide +kernel
theorem dX12_fact_20 : decode cX12_fact 20 = .ok (.iload_n 2, 1) := by decide +kernel
theorem dX12_fact_21 : decode cX12_fact 21 = .ok (.aload_n 0, 1) := by decide +kernel
theorem dX12_fact_22 : decode cX12_fact 22 = .ok (.getfield 298, 3) := by decide +kernel
theorem dX12_fact_25 : decode cX12_fact 25 = .ok (.invokevirtual 317, 3) := by decide +kernel
theorem dX12_fact_28 : decode cX12_fact 28 = .ok (.ifCond .ne 5, 3) := by decide +kernel
theorem dX12_fact_31 : decode cX12_fact 31 = .ok (.iconst (-1), 1) := by decide +kernel
theorem dX12_fact_32 : decode cX12_fact 32 = .ok (.ireturn, 1) := by decide +kernel
theorem dX12_fact_33 : decode cX12_fact 33 = .ok (.iload_n 1, 1) := by decide +kernel
theorem dX12_fact_34 : decode cX12_fact 34 = .ok (.iconst 2, 1) := by decide +kernel
theorem dX12_fact_35 : decode cX12_fact 35 = .ok (.if_icmp .ge 10, 3) := by decide +kernel
theorem dX12_fact_38 : decode cX12_fact 38 = .ok (.iload_n 3, 1) := by decide +kernel
theorem dX12_fact_39 : decode cX12_fact 39 = .ok (.invokestatic 307, 3) := by decide +kernel
theorem dX12_fact_42 : decode cX12_fact 42 = .ok (.ifCond .eq 32, 3) := by decide +kernel
theorem dX12_fact_45 : decode cX12_fact 45 = .ok (.iload_n 1, 1) := by decide +kernel
theorem dX12_fact_46 : decode cX12_fact 46 = .ok (.iconst 1, 1) := by decide +kernel
theorem dX12_fact_47 : decode cX12_fact 47 = .ok (.if_icmp .eq 11, 3) := by decide +kernel
theorem dX12_fact_50 : decode cX12_fact 50 = .ok (.iload 4, 2) := by decide +kernel
theorem dX12_fact_52 : decode cX12_fact 52 = .ok (.invokestatic 292, 3) := by decide +kernel
theorem dX12_fact_55 : decode cX12_fact 55 = .ok (.ifCond .eq 19, 3) := by decide +kernel
theorem dX12_fact_58 : decode cX12_fact 58 = .ok (.iload_n 1, 1) := by decide +kernel
theorem dX12_fact_59 : decode cX12_fact 59 = .ok (.iconst 3, 1) := by decide +kernel
theorem dX12_fact_60 : decode cX12_fact 60 = .ok (.if_icmp .ne 16, 3) := by decide +kernel
theorem dX12_fact_63 : decode cX12_fact 63 = .ok (.iload 4, 2) := by decide +kernel
theorem dX12_fact_65 : decode cX12_fact 65 = .ok (.aload_n 0, 1) := by decide +kernel
theorem dX12_fact_66 : decode cX12_fact 66 = .ok (.getfield 107, 3) := by decide +kernel
theorem dX12_fact_69 : decode cX12_fact 69 = .ok (.iload_n 2, 1) := by decide +kernel
theorem dX12_fact_70 : decode cX12_fact 70 = .ok (.iaload, 1) := by decide +kernel
theorem dX12_fact_71 : decode cX12_fact 71 = .ok (.if_icmp .ge 5, 3) := by decide +kernel
theorem dX12_fact_74 : decode cX12_fact 74 = .ok (.iconst (-1), 1) := by decide +kernel
theorem dX12_fact_75 : decode cX12_fact 75 = .ok (.ireturn, 1) := by decide +kernel
theorem dX12_fact_76 : decode cX12_fact 76 = .ok (.aload_n 0, 1) := by decide +kernel
theorem dX12_fact_77 : decode cX12_fact 77 = .ok (.iconst 4, 1) := by decide +kernel
theorem dX12_fact_78 : decode cX12_fact 78 = .ok (.iload_n 1, 1) := by decide +kernel
theorem dX12_fact_79 : decode cX12_fact 79 = .ok (.iadd, 1) := by decide +kernel
theorem dX12_fact_80 : decode cX12_fact 80 = .ok (.iload_n 1, 1) := by decide +kernel
theorem dX12_fact_81 : decode cX12_fact 81 = .ok (.iconst 1, 1) := by decide +kernel
theorem dX12_fact_82 : decode cX12_fact 82 = .ok (.if_icmp .ne 7, 3) := by decide +kernel
theorem dX12_fact_85 : decode cX12_fact 85 = .ok (.iconst (-1), 1) := by decide +kernel
theorem dX12_fact_86 : decode cX12_fact 86 = .ok (.goto 5, 3) := by decide +kernel
theorem dX12_fact_89 : decode cX12_fact 89 = .ok (.iload 4, 2) := by decide +kernel
theorem dX12_fact_91 : decode cX12_fact 91 = .ok (.iload_n 2, 1) := by decide +kernel
theorem dX12_fact_92 : decode cX12_fact 92 = .ok (.iload_n 1, 1) := by decide +kernel
theorem dX12_fact_93 : decode cX12_fact 93 = .ok (.iconst 2, 1) := by decide +kernel
theorem dX12_fact_94 : decode cX12_fact 94 = .ok (.if_icmp .ge 7, 3) := by decide +kernel
theorem dX12_fact_97 : decode cX12_fact 97 = .ok (.iload_n 3, 1) := by decide +kernel
theorem dX12_fact_98 : decode cX12_fact 98 = .ok (.goto 4, 3) := by decide +kernel
theorem dX12_fact_101 : decode cX12_fact 101 = .ok (.iconst 0, 1) := by decide +kernel
theorem dX12_fact_102 : decode cX12_fact 102 = .ok (.iconst 0, 1) := by decide +kernel
theorem dX12_fact_103 : decode cX12_fact 103 = .ok (.iconst 0, 1) := by decide +kernel
theorem dX12_fact_104 : decode cX12_fact 104 = .ok (.iconst 0, 1) := by decide +kernel
theorem dX12_fact_105 : decode cX12_fact 105 = .ok (.iconst 0, 1) := by decide +kernel
theorem dX12_fact_106 : decode cX12_fact 106 = .ok (.invokevirtual 310, 3) := by decide +kernel
theorem dX12_fact_109 : decode cX12_fact 109 = .ok (.ireturn, 1) := by decide +kernel
theorem dX12_rename_0 : decode cX12_rename 0 = .ok (.aload_n 0, 1) := by decide +kernel
theorem dX12_rename_1 : decode cX12_rename 1 = .ok (.getfield 298, 3) := by decide +kernel
theorem dX12_rename_4 : decode cX12_rename 4 = .ok (.sipush 180, 3) := by decide +kernel
theorem dX12_rename_7 : decode cX12_rename 7 = .ok (.if_icmp .eq 29, 3) := by decide +kernel
theorem dX12_rename_10 : decode cX12_rename 10 = .ok (.iload_n 1, 1) := by decide +kernel
theorem dX12_rename_11 : decode cX12_rename 11 = .ok (.invokestatic 307, 3) := by decide +kernel
theorem dX12_rename_14 : decode cX12_rename 14 = .ok (.ifCond .eq 22, 3) := by decide +kernel
theorem dX12_rename_17 : decode cX12_rename 17 = .ok (.iload_n 2, 1) := by decide +kernel
theorem dX12_rename_18 : decode cX12_rename 18 = .ok (.invokestatic 307, 3) := by decide +kernel
theorem dX12_rename_21 : decode cX12_rename 21 = .ok (.ifCond .eq 15, 3) := by decide +kernel
theorem dX12_rename_24 : decode cX12_rename 24 = .ok (.iload_n 1, 1) := by decide +kernel
theorem dX12_rename_25 : decode cX12_rename 25 = .ok (.iload_n 2, 1) := by decide +kernel
theorem dX12_rename_26 : decode cX12_rename 26 = .ok (.if_icmp .eq 10, 3) := by decide +kernel
theorem dX12_rename_29 : decode cX12_rename 29 = .ok (.iload_n 3, 1) := by decide +kernel
theorem dX12_rename_30 : decode cX12_rename 30 = .ok (.invokestatic 292, 3) := by decide +kernel
theorem dX12_rename_33 : decode cX12_rename 33 = .ok (.ifCond .ne 7, 3) := by decide +kernel
theorem dX12_rename_36 : decode cX12_rename 36 = .ok (.iconst (-1), 1) := by decide +kernel
theorem dX12_rename_37 : decode cX12_rename 37 = .ok (.goto 16, 3) := by decide +kernel
theorem dX12_rename_40 : decode cX12_rename 40 = .ok (.aload_n 0, 1) := by decide +kernel
theorem dX12_rename_41 : decode cX12_rename 41 = .ok (.bipush 8, 2) := by decide +kernel
theorem dX12_rename_43 : decode cX12_rename 43 = .ok (.iload_n 3, 1) := by decide +kernel
theorem dX12_rename_44 : decode cX12_rename 44 = .ok (.iload_n 1, 1) := by decide +kernel
theorem dX12_rename_45 : decode cX12_rename 45 = .ok (.iload_n 2, 1) := by decide +kernel
theorem dX12_rename_46 : decode cX12_rename 46 = .ok (.iconst 0, 1) := by decide +kernel
theorem dX12_rename_47 : decode cX12_rename 47 = .ok (.iconst 0, 1) := by decide +kernel
theorem dX12_rename_48 : decode cX12_rename 48 = .ok (.iconst 0, 1) := by decide +kernel
theorem dX12_rename_49 : decode cX12_rename 49 = .ok (.iconst 0, 1) := by decide +kernel
theorem dX12_rename_50 : decode cX12_rename 50 = .ok (.invokevirtual 310, 3) := by decide +kernel
theorem dX12_rename_53 : decode cX12_rename 53 = .ok (.ireturn, 1) := by decide +kernel
theorem dX12_vote_0 : decode cX12_vote 0 = .ok (.aload_n 0, 1) := by decide +kernel
theorem dX12_vote_1 : decode cX12_vote 1 = .ok (.getfield 298, 3) := by decide +kernel
theorem dX12_vote_4 : decode cX12_vote 4 = .ok (.sipush 180, 3) := by decide +kernel
theorem dX12_vote_7 : decode cX12_vote 7 = .ok (.if_icmp .eq 38, 3) := by decide +kernel
theorem dX12_vote_10 : decode cX12_vote 10 = .ok (.iload_n 1, 1) := by decide +kernel
theorem dX12_vote_11 : decode cX12_vote 11 = .ok (.iconst 0, 1) := by decide +kernel
theorem dX12_vote_12 : decode cX12_vote 12 = .ok (.iconst 3, 1) := by decide +kernel
theorem dX12_vote_13 : decode cX12_vote 13 = .ok (.invokestatic 288, 3) := by decide +kernel
theorem dX12_vote_16 : decode cX12_vote 16 = .ok (.ifCond .eq 29, 3) := by decide +kernel
theorem dX12_vote_19 : decode cX12_vote 19 = .ok (.iload_n 2, 1) := by decide +kernel
theorem dX12_vote_20 : decode cX12_vote 20 = .ok (.invokestatic 314, 3) := by decide +kernel
theorem dX12_vote_23 : decode cX12_vote 23 = .ok (.ifCond .eq 22, 3) := by decide +kernel
theorem dX12_vote_26 : decode cX12_vote 26 = .ok (.iload_n 3, 1) := by decide +kernel
theorem dX12_vote_27 : decode cX12_vote 27 = .ok (.iconst 0, 1) := by decide +kernel
theorem dX12_vote_28 : decode cX12_vote 28 = .ok (.iconst 1, 1) := by decide +kernel
theorem dX12_vote_29 : decode cX12_vote 29 = .ok (.invokestatic 288, 3) := by decide +kernel
theorem dX12_vote_32 : decode cX12_vote 32 = .ok (.ifCond .eq 13, 3) := by decide +kernel
theorem dX12_vote_35 : decode cX12_vote 35 = .ok (.iload 4, 2) := by decide +kernel
theorem dX12_vote_37 : decode cX12_vote 37 = .ok (.iconst 0, 1) := by decide +kernel
theorem dX12_vote_38 : decode cX12_vote 38 = .ok (.iconst 1, 1) := by decide +kernel
theorem dX12_vote_39 : decode cX12_vote 39 = .ok (.invokestatic 288, 3) := by decide +kernel
theorem dX12_vote_42 : decode cX12_vote 42 = .ok (.ifCond .ne 7, 3) := by decide +kernel
theorem dX12_vote_45 : decode cX12_vote 45 = .ok (.iconst (-1), 1) := by decide +kernel
theorem dX12_vote_46 : decode cX12_vote 46 = .ok (.goto 16, 3) := by decide +kernel
theorem dX12_vote_49 : decode cX12_vote 49 = .ok (.aload_n 0, 1) := by decide +kernel
theorem dX12_vote_50 : decode cX12_vote 50 = .ok (.bipush 9, 2) := by decide +kernel
theorem dX12_vote_52 : decode cX12_vote 52 = .ok (.iconst (-1), 1) := by decide +kernel
theorem dX12_vote_53 : decode cX12_vote 53 = .ok (.iload_n 1, 1) := by decide +kernel
theorem dX12_vote_54 : decode cX12_vote 54 = .ok (.iload_n 2, 1) := by decide +kernel
theorem dX12_vote_55 : decode cX12_vote 55 = .ok (.iload_n 3, 1) := by decide +kernel
theorem dX12_vote_56 : decode cX12_vote 56 = .ok (.iconst 0, 1) := by decide +kernel
theorem dX12_vote_57 : decode cX12_vote 57 = .ok (.iconst 0, 1) := by decide +kernel
theorem dX12_vote_58 : decode cX12_vote 58 = .ok (.iconst 0, 1) := by decide +kernel
theorem dX12_vote_59 : decode cX12_vote 59 = .ok (.invokevirtual 310, 3) := by decide +kernel
theorem dX12_vote_62 : decode cX12_vote 62 = .ok (.ireturn, 1) := by decide +kernel
theorem dX12_isKnown_0 : decode cX12_isKnown 0 = .ok (.iload_n 1, 1) := by decide +kernel
theorem dX12_isKnown_1 : decode cX12_isKnown 1 = .ok (.ifCond .lt 15, 3) := by decide +kernel
theorem dX12_isKnown_4 : decode cX12_isKnown 4 = .ok (.iload_n 1, 1) := by decide +kernel
theorem dX12_isKnown_5 : decode cX12_isKnown 5 = .ok (.aload_n 0, 1) := by decide +kernel
theorem dX12_isKnown_6 : decode cX12_isKnown 6 = .ok (.getfield 298, 3) := by decide +kernel
theorem dX12_isKnown_9 : decode cX12_isKnown 9 = .ok (.if_icmp .gt 7, 3) := by decide +kernel
theorem dX12_isKnown_12 : decode cX12_isKnown 12 = .ok (.iconst 1, 1) := by decide +kernel
theorem dX12_isKnown_13 : decode cX12_isKnown 13 = .ok (.goto 4, 3) := by decide +kernel
theorem dX12_isKnown_16 : decode cX12_isKnown 16 = .ok (.iconst 0, 1) := by decide +kernel
theorem dX12_isKnown_17 : decode cX12_isKnown 17 = .ok (.ireturn, 1) := by decide +kernel
theorem dX12_latest_0 : decode cX12_latest 0 = .ok (.iconst (-1), 1) := by decide +kernel
theorem dX12_latest_1 : decode cX12_latest 1 = .ok (.istore 5, 2) := by decide +kernel
theorem dX12_latest_3 : decode cX12_latest 3 = .ok (.iconst 0, 1) := by decide +kernel
theorem dX12_latest_4 : decode cX12_latest 4 = .ok (.istore 6, 2) := by decide +kernel
theorem dX12_latest_6 : decode cX12_latest 6 = .ok (.iload 6, 2) := by decide +kernel
theorem dX12_latest_8 : decode cX12_latest 8 = .ok (.iload 4, 2) := by decide +kernel
theorem dX12_latest_10 : decode cX12_latest 10 = .ok (.if_icmp .ge 86, 3) := by decide +kernel
theorem dX12_latest_13 : decode cX12_latest 13 = .ok (.aload_n 0, 1) := by decide +kernel
theorem dX12_latest_14 : decode cX12_latest 14 = .ok (.getfield 104, 3) := by decide +kernel
theorem dX12_latest_17 : decode cX12_latest 17 = .ok (.iload 6, 2) := by decide +kernel
theorem dX12_latest_19 : decode cX12_latest 19 = .ok (.iaload, 1) := by decide +kernel
theorem dX12_latest_20 : decode cX12_latest 20 = .ok (.iconst 1, 1) := by decide +kernel
theorem dX12_latest_21 : decode cX12_latest 21 = .ok (.if_icmp .ne 69, 3) := by decide +kernel
theorem dX12_latest_24 : decode cX12_latest 24 = .ok (.aload_n 0, 1) := by decide +kernel
theorem dX12_latest_25 : decode cX12_latest 25 = .ok (.getfield 107, 3) := by decide +kernel
theorem dX12_latest_28 : decode cX12_latest 28 = .ok (.iload 6, 2) := by decide +kernel
theorem dX12_latest_30 : decode cX12_latest 30 = .ok (.iaload, 1) := by decide +kernel
theorem dX12_latest_31 : decode cX12_latest 31 = .ok (.iload_n 3, 1) := by decide +kernel
theorem dX12_latest_32 : decode cX12_latest 32 = .ok (.if_icmp .gt 58, 3) := by decide +kernel
theorem dX12_latest_35 : decode cX12_latest 35 = .ok (.iload_n 1, 1) := by decide +kernel
theorem dX12_latest_36 : decode cX12_latest 36 = .ok (.ifCond .eq 13, 3) := by decide +kernel
theorem dX12_latest_39 : decode cX12_latest 39 = .ok (.aload_n 0, 1) := by decide +kernel
theorem dX12_latest_40 : decode cX12_latest 40 = .ok (.getfield 113, 3) := by decide +kernel
theorem dX12_latest_43 : decode cX12_latest 43 = .ok (.iload 6, 2) := by decide +kernel
theorem dX12_latest_45 : decode cX12_latest 45 = .ok (.iaload, 1) := by decide +kernel
theorem dX12_latest_46 : decode cX12_latest 46 = .ok (.goto 10, 3) := by decide +kernel
theorem dX12_latest_49 : decode cX12_latest 49 = .ok (.aload_n 0, 1) := by decide +kernel
theorem dX12_latest_50 : decode cX12_latest 50 = .ok (.getfield 110, 3) := by decide +kernel
theorem dX12_latest_53 : decode cX12_latest 53 = .ok (.iload 6, 2) := by decide +kernel
theorem dX12_latest_55 : decode cX12_latest 55 = .ok (.iaload, 1) := by decide +kernel
theorem dX12_latest_56 : decode cX12_latest 56 = .ok (.iload_n 2, 1) := by decide +kernel
theorem dX12_latest_57 : decode cX12_latest 57 = .ok (.if_icmp .eq 6, 3) := by decide +kernel
theorem dX12_latest_60 : decode cX12_latest 60 = .ok (.goto 30, 3) := by decide +kernel
theorem dX12_latest_63 : decode cX12_latest 63 = .ok (.iload 5, 2) := by decide +kernel
theorem dX12_latest_65 : decode cX12_latest 65 = .ok (.iconst (-1), 1) := by decide +kernel
theorem dX12_latest_66 : decode cX12_latest 66 = .ok (.if_icmp .eq 20, 3) := by decide +kernel
theorem dX12_latest_69 : decode cX12_latest 69 = .ok (.aload_n 0, 1) := by decide +kernel
theorem dX12_latest_70 : decode cX12_latest 70 = .ok (.getfield 107, 3) := by decide +kernel
theorem dX12_latest_73 : decode cX12_latest 73 = .ok (.iload 6, 2) := by decide +kernel
theorem dX12_latest_75 : decode cX12_latest 75 = .ok (.iaload, 1) := by decide +kernel
theorem dX12_latest_76 : decode cX12_latest 76 = .ok (.aload_n 0, 1) := by decide +kernel
theorem dX12_latest_77 : decode cX12_latest 77 = .ok (.getfield 107, 3) := by decide +kernel
theorem dX12_latest_80 : decode cX12_latest 80 = .ok (.iload 5, 2) := by decide +kernel
theorem dX12_latest_82 : decode cX12_latest 82 = .ok (.iaload, 1) := by decide +kernel
theorem dX12_latest_83 : decode cX12_latest 83 = .ok (.if_icmp .lt 7, 3) := by decide +kernel
theorem dX12_latest_86 : decode cX12_latest 86 = .ok (.iload 6, 2) := by decide +kernel
theorem dX12_latest_88 : decode cX12_latest 88 = .ok (.istore 5, 2) := by decide +kernel
theorem dX12_latest_90 : decode cX12_latest 90 = .ok (.iinc 6 1, 3) := by decide +kernel
theorem dX12_latest_93 : decode cX12_latest 93 = .ok (.goto (-87), 3) := by decide +kernel
theorem dX12_latest_96 : decode cX12_latest 96 = .ok (.iload 5, 2) := by decide +kernel
theorem dX12_latest_98 : decode cX12_latest 98 = .ok (.ireturn, 1) := by decide +kernel
theorem dX12_whoIn_0 : decode cX12_whoIn 0 = .ok (.aload_n 0, 1) := by decide +kernel
theorem dX12_whoIn_1 : decode cX12_whoIn 1 = .ok (.iconst 1, 1) := by decide +kernel
theorem dX12_whoIn_2 : decode cX12_whoIn 2 = .ok (.iload_n 1, 1) := by decide +kernel
theorem dX12_whoIn_3 : decode cX12_whoIn 3 = .ok (.iload_n 2, 1) := by decide +kernel
theorem dX12_whoIn_4 : decode cX12_whoIn 4 = .ok (.iload_n 3, 1) := by decide +kernel
theorem dX12_whoIn_5 : decode cX12_whoIn 5 = .ok (.invokevirtual 321, 3) := by decide +kernel
theorem dX12_whoIn_8 : decode cX12_whoIn 8 = .ok (.istore 4, 2) := by decide +kernel
theorem dX12_whoIn_10 : decode cX12_whoIn 10 = .ok (.iload 4, 2) := by decide +kernel
theorem dX12_whoIn_12 : decode cX12_whoIn 12 = .ok (.iconst (-1), 1) := by decide +kernel
theorem dX12_whoIn_13 : decode cX12_whoIn 13 = .ok (.if_icmp .ne 5, 3) := by decide +kernel
theorem dX12_whoIn_16 : decode cX12_whoIn 16 = .ok (.iconst (-1), 1) := by decide +kernel
theorem dX12_whoIn_17 : decode cX12_whoIn 17 = .ok (.ireturn, 1) := by decide +kernel
theorem dX12_whoIn_18 : decode cX12_whoIn 18 = .ok (.aload_n 0, 1) := by decide +kernel
theorem dX12_whoIn_19 : decode cX12_whoIn 19 = .ok (.iconst 0, 1) := by decide +kernel
theorem dX12_whoIn_20 : decode cX12_whoIn 20 = .ok (.aload_n 0, 1) := by decide +kernel
theorem dX12_whoIn_21 : decode cX12_whoIn 21 = .ok (.getfield 110, 3) := by decide +kernel
theorem dX12_whoIn_24 : decode cX12_whoIn 24 = .ok (.iload 4, 2) := by decide +kernel
theorem dX12_whoIn_26 : decode cX12_whoIn 26 = .ok (.iaload, 1) := by decide +kernel
theorem dX12_whoIn_27 : decode cX12_whoIn 27 = .ok (.iload_n 2, 1) := by decide +kernel
theorem dX12_whoIn_28 : decode cX12_whoIn 28 = .ok (.iload_n 3, 1) := by decide +kernel
theorem dX12_whoIn_29 : decode cX12_whoIn 29 = .ok (.invokevirtual 321, 3) := by decide +kernel
theorem dX12_whoIn_32 : decode cX12_whoIn 32 = .ok (.istore 5, 2) := by decide +kernel
theorem dX12_whoIn_34 : decode cX12_whoIn 34 = .ok (.aload_n 0, 1) := by decide +kernel
theorem dX12_whoIn_35 : decode cX12_whoIn 35 = .ok (.getfield 113, 3) := by decide +kernel
theorem dX12_whoIn_38 : decode cX12_whoIn 38 = .ok (.iload 5, 2) := by decide +kernel
theorem dX12_whoIn_40 : decode cX12_whoIn 40 = .ok (.iaload, 1) := by decide +kernel
theorem dX12_whoIn_41 : decode cX12_whoIn 41 = .ok (.iload_n 1, 1) := by decide +kernel
theorem dX12_whoIn_42 : decode cX12_whoIn 42 = .ok (.if_icmp .ne 13, 3) := by decide +kernel
theorem dX12_whoIn_45 : decode cX12_whoIn 45 = .ok (.aload_n 0, 1) := by decide +kernel
theorem dX12_whoIn_46 : decode cX12_whoIn 46 = .ok (.getfield 110, 3) := by decide +kernel
theorem dX12_whoIn_49 : decode cX12_whoIn 49 = .ok (.iload 4, 2) := by decide +kernel
theorem dX12_whoIn_51 : decode cX12_whoIn 51 = .ok (.iaload, 1) := by decide +kernel
theorem dX12_whoIn_52 : decode cX12_whoIn 52 = .ok (.goto 4, 3) := by decide +kernel
theorem dX12_whoIn_55 : decode cX12_whoIn 55 = .ok (.iconst (-1), 1) := by decide +kernel
theorem dX12_whoIn_56 : decode cX12_whoIn 56 = .ok (.ireturn, 1) := by decide +kernel
theorem dX12_who_0 : decode cX12_who 0 = .ok (.iload_n 1, 1) := by decide +kernel
theorem dX12_who_1 : decode cX12_who 1 = .ok (.invokestatic 304, 3) := by decide +kernel
theorem dX12_who_4 : decode cX12_who 4 = .ok (.ifCond .eq 18, 3) := by decide +kernel
theorem dX12_who_7 : decode cX12_who 7 = .ok (.iload_n 2, 1) := by decide +kernel
theorem dX12_who_8 : decode cX12_who 8 = .ok (.invokestatic 292, 3) := by decide +kernel
theorem dX12_who_11 : decode cX12_who 11 = .ok (.ifCond .eq 11, 3) := by decide +kernel
theorem dX12_who_14 : decode cX12_who 14 = .ok (.aload_n 0, 1) := by decide +kernel
theorem dX12_who_15 : decode cX12_who 15 = .ok (.iload_n 3, 1) := by decide +kernel
theorem dX12_who_16 : decode cX12_who 16 = .ok (.invokevirtual 325, 3) := by decide +kernel
theorem dX12_who_19 : decode cX12_who 19 = .ok (.ifCond .ne 5, 3) := by decide +kernel
theorem dX12_who_22 : decode cX12_who 22 = .ok (.iconst (-1), 1) := by decide +kernel
theorem dX12_who_23 : decode cX12_who 23 = .ok (.ireturn, 1) := by decide +kernel
theorem dX12_who_24 : decode cX12_who 24 = .ok (.aload_n 0, 1) := by decide +kernel
theorem dX12_who_25 : decode cX12_who 25 = .ok (.iload_n 1, 1) := by decide +kernel
theorem dX12_who_26 : decode cX12_who 26 = .ok (.iload_n 2, 1) := by decide +kernel
theorem dX12_who_27 : decode cX12_who 27 = .ok (.iload_n 3, 1) := by decide +kernel
theorem dX12_who_28 : decode cX12_who 28 = .ok (.invokevirtual 328, 3) := by decide +kernel
theorem dX12_who_31 : decode cX12_who 31 = .ok (.istore 4, 2) := by decide +kernel
theorem dX12_who_33 : decode cX12_who 33 = .ok (.iload 4, 2) := by decide +kernel
theorem dX12_who_35 : decode cX12_who 35 = .ok (.iconst (-1), 1) := by decide +kernel
theorem dX12_who_36 : decode cX12_who 36 = .ok (.if_icmp .ne 8, 3) := by decide +kernel
theorem dX12_who_39 : decode cX12_who 39 = .ok (.bipush (-2), 2) := by decide +kernel
theorem dX12_who_41 : decode cX12_who 41 = .ok (.goto 5, 3) := by decide +kernel
theorem dX12_who_44 : decode cX12_who 44 = .ok (.iload 4, 2) := by decide +kernel
theorem dX12_who_46 : decode cX12_who 46 = .ok (.ireturn, 1) := by decide +kernel
theorem dX12_fills_0 : decode cX12_fills 0 = .ok (.aload_n 0, 1) := by decide +kernel
theorem dX12_fills_1 : decode cX12_fills 1 = .ok (.getfield 107, 3) := by decide +kernel
theorem dX12_fills_4 : decode cX12_fills 4 = .ok (.iload_n 1, 1) := by decide +kernel
theorem dX12_fills_5 : decode cX12_fills 5 = .ok (.iaload, 1) := by decide +kernel
theorem dX12_fills_6 : decode cX12_fills 6 = .ok (.istore_n 3, 1) := by decide +kernel
theorem dX12_fills_7 : decode cX12_fills 7 = .ok (.aload_n 0, 1) := by decide +kernel
theorem dX12_fills_8 : decode cX12_fills 8 = .ok (.aload_n 0, 1) := by decide +kernel
theorem dX12_fills_9 : decode cX12_fills 9 = .ok (.getfield 116, 3) := by decide +kernel
theorem dX12_fills_12 : decode cX12_fills 12 = .ok (.iload_n 1, 1) := by decide +kernel
theorem dX12_fills_13 : decode cX12_fills 13 = .ok (.iaload, 1) := by decide +kernel
theorem dX12_fills_14 : decode cX12_fills 14 = .ok (.iload_n 3, 1) := by decide +kernel
theorem dX12_fills_15 : decode cX12_fills 15 = .ok (.iload_n 2, 1) := by decide +kernel
theorem dX12_fills_16 : decode cX12_fills 16 = .ok (.invokevirtual 328, 3) := by decide +kernel
theorem dX12_fills_19 : decode cX12_fills 19 = .ok (.istore 4, 2) := by decide +kernel
theorem dX12_fills_21 : decode cX12_fills 21 = .ok (.iconst 0, 1) := by decide +kernel
theorem dX12_fills_22 : decode cX12_fills 22 = .ok (.istore 5, 2) := by decide +kernel
theorem dX12_fills_24 : decode cX12_fills 24 = .ok (.iconst 0, 1) := by decide +kernel
theorem dX12_fills_25 : decode cX12_fills 25 = .ok (.istore 6, 2) := by decide +kernel
theorem dX12_fills_27 : decode cX12_fills 27 = .ok (.iconst 0, 1) := by decide +kernel
theorem dX12_fills_28 : decode cX12_fills 28 = .ok (.istore 7, 2) := by decide +kernel
theorem dX12_fills_30 : decode cX12_fills 30 = .ok (.iconst 0, 1) := by decide +kernel
theorem dX12_fills_31 : decode cX12_fills 31 = .ok (.istore 8, 2) := by decide +kernel
theorem dX12_fills_33 : decode cX12_fills 33 = .ok (.iconst 0, 1) := by decide +kernel
theorem dX12_fills_34 : decode cX12_fills 34 = .ok (.istore 9, 2) := by decide +kernel
theorem dX12_fills_36 : decode cX12_fills 36 = .ok (.iload 9, 2) := by decide +kernel
theorem dX12_fills_38 : decode cX12_fills 38 = .ok (.iload_n 2, 1) := by decide +kernel
theorem dX12_fills_39 : decode cX12_fills 39 = .ok (.if_icmp .ge 174, 3) := by decide +kernel
theorem dX12_fills_42 : decode cX12_fills 42 = .ok (.aload_n 0, 1) := by decide +kernel
theorem dX12_fills_43 : decode cX12_fills 43 = .ok (.getfield 104, 3) := by decide +kernel
theorem dX12_fills_46 : decode cX12_fills 46 = .ok (.iload 9, 2) := by decide +kernel
theorem dX12_fills_48 : decode cX12_fills 48 = .ok (.iaload, 1) := by decide +kernel
theorem dX12_fills_49 : decode cX12_fills 49 = .ok (.iconst 2, 1) := by decide +kernel
theorem dX12_fills_50 : decode cX12_fills 50 = .ok (.if_icmp .ne 24, 3) := by decide +kernel
theorem dX12_fills_53 : decode cX12_fills 53 = .ok (.aload_n 0, 1) := by decide +kernel
theorem dX12_fills_54 : decode cX12_fills 54 = .ok (.getfield 110, 3) := by decide +kernel
theorem dX12_fills_57 : decode cX12_fills 57 = .ok (.iload 9, 2) := by decide +kernel
theorem dX12_fills_59 : decode cX12_fills 59 = .ok (.iaload, 1) := by decide +kernel
theorem dX12_fills_60 : decode cX12_fills 60 = .ok (.iload 4, 2) := by decide +kernel
theorem dX12_fills_62 : decode cX12_fills 62 = .ok (.if_icmp .ne 12, 3) := by decide +kernel
theorem dX12_fills_65 : decode cX12_fills 65 = .ok (.aload_n 0, 1) := by decide +kernel
theorem dX12_fills_66 : decode cX12_fills 66 = .ok (.getfield 113, 3) := by decide +kernel
theorem dX12_fills_69 : decode cX12_fills 69 = .ok (.iload 9, 2) := by decide +kernel
theorem dX12_fills_71 : decode cX12_fills 71 = .ok (.iaload, 1) := by decide +kernel
theorem dX12_fills_72 : decode cX12_fills 72 = .ok (.istore 5, 2) := by decide +kernel
theorem dX12_fills_74 : decode cX12_fills 74 = .ok (.aload_n 0, 1) := by decide +kernel
theorem dX12_fills_75 : decode cX12_fills 75 = .ok (.getfield 104, 3) := by decide +kernel
theorem dX12_fills_78 : decode cX12_fills 78 = .ok (.iload 9, 2) := by decide +kernel
theorem dX12_fills_80 : decode cX12_fills 80 = .ok (.iaload, 1) := by decide +kernel
theorem dX12_fills_81 : decode cX12_fills 81 = .ok (.iconst 5, 1) := by decide +kernel
theorem dX12_fills_82 : decode cX12_fills 82 = .ok (.if_icmp .ne 23, 3) := by decide +kernel
theorem dX12_fills_85 : decode cX12_fills 85 = .ok (.aload_n 0, 1) := by decide +kernel
theorem dX12_fills_86 : decode cX12_fills 86 = .ok (.getfield 110, 3) := by decide +kernel
theorem dX12_fills_89 : decode cX12_fills 89 = .ok (.iload 9, 2) := by decide +kernel
theorem dX12_fills_91 : decode cX12_fills 91 = .ok (.iaload, 1) := by decide +kernel
theorem dX12_fills_92 : decode cX12_fills 92 = .ok (.iload_n 1, 1) := by decide +kernel
theorem dX12_fills_93 : decode cX12_fills 93 = .ok (.if_icmp .ne 12, 3) := by decide +kernel
theorem dX12_fills_96 : decode cX12_fills 96 = .ok (.aload_n 0, 1) := by decide +kernel
theorem dX12_fills_97 : decode cX12_fills 97 = .ok (.getfield 113, 3) := by decide +kernel
theorem dX12_fills_100 : decode cX12_fills 100 = .ok (.iload 9, 2) := by decide +kernel
theorem dX12_fills_102 : decode cX12_fills 102 = .ok (.iaload, 1) := by decide +kernel
theorem dX12_fills_103 : decode cX12_fills 103 = .ok (.istore 6, 2) := by decide +kernel
theorem dX12_fills_105 : decode cX12_fills 105 = .ok (.aload_n 0, 1) := by decide +kernel
theorem dX12_fills_106 : decode cX12_fills 106 = .ok (.getfield 104, 3) := by decide +kernel
theorem dX12_fills_109 : decode cX12_fills 109 = .ok (.iload 9, 2) := by decide +kernel
theorem dX12_fills_111 : decode cX12_fills 111 = .ok (.iaload, 1) := by decide +kernel
theorem dX12_fills_112 : decode cX12_fills 112 = .ok (.iconst 3, 1) := by decide +kernel
theorem dX12_fills_113 : decode cX12_fills 113 = .ok (.if_icmp .ne 54, 3) := by decide +kernel
theorem dX12_fills_116 : decode cX12_fills 116 = .ok (.aload_n 0, 1) := by decide +kernel
theorem dX12_fills_117 : decode cX12_fills 117 = .ok (.getfield 113, 3) := by decide +kernel
theorem dX12_fills_120 : decode cX12_fills 120 = .ok (.iload_n 1, 1) := by decide +kernel
theorem dX12_fills_121 : decode cX12_fills 121 = .ok (.iaload, 1) := by decide +kernel
theorem dX12_fills_122 : decode cX12_fills 122 = .ok (.iconst 1, 1) := by decide +kernel
theorem dX12_fills_123 : decode cX12_fills 123 = .ok (.if_icmp .ne 44, 3) := by decide +kernel
theorem dX12_fills_126 : decode cX12_fills 126 = .ok (.aload_n 0, 1) := by decide +kernel
theorem dX12_fills_127 : decode cX12_fills 127 = .ok (.getfield 110, 3) := by decide +kernel
theorem dX12_fills_130 : decode cX12_fills 130 = .ok (.iload 9, 2) := by decide +kernel
theorem dX12_fills_132 : decode cX12_fills 132 = .ok (.iaload, 1) := by decide +kernel
theorem dX12_fills_133 : decode cX12_fills 133 = .ok (.aload_n 0, 1) := by decide +kernel
theorem dX12_fills_134 : decode cX12_fills 134 = .ok (.getfield 122, 3) := by decide +kernel
theorem dX12_fills_137 : decode cX12_fills 137 = .ok (.iload_n 1, 1) := by decide +kernel
theorem dX12_fills_138 : decode cX12_fills 138 = .ok (.iaload, 1) := by decide +kernel
theorem dX12_fills_139 : decode cX12_fills 139 = .ok (.if_icmp .ne 28, 3) := by decide +kernel
theorem dX12_fills_142 : decode cX12_fills 142 = .ok (.aload_n 0, 1) := by decide +kernel
theorem dX12_fills_143 : decode cX12_fills 143 = .ok (.getfield 113, 3) := by decide +kernel
theorem dX12_fills_146 : decode cX12_fills 146 = .ok (.iload 9, 2) := by decide +kernel
theorem dX12_fills_148 : decode cX12_fills 148 = .ok (.iaload, 1) := by decide +kernel
theorem dX12_fills_149 : decode cX12_fills 149 = .ok (.aload_n 0, 1) := by decide +kernel
theorem dX12_fills_150 : decode cX12_fills 150 = .ok (.getfield 125, 3) := by decide +kernel
theorem dX12_fills_153 : decode cX12_fills 153 = .ok (.iload_n 1, 1) := by decide +kernel
theorem dX12_fills_154 : decode cX12_fills 154 = .ok (.iaload, 1) := by decide +kernel
theorem dX12_fills_155 : decode cX12_fills 155 = .ok (.if_icmp .ne 12, 3) := by decide +kernel
theorem dX12_fills_158 : decode cX12_fills 158 = .ok (.aload_n 0, 1) := by decide +kernel
theorem dX12_fills_159 : decode cX12_fills 159 = .ok (.getfield 116, 3) := by decide +kernel
theorem dX12_fills_162 : decode cX12_fills 162 = .ok (.iload 9, 2) := by decide +kernel
theorem dX12_fills_164 : decode cX12_fills 164 = .ok (.iaload, 1) := by decide +kernel
theorem dX12_fills_165 : decode cX12_fills 165 = .ok (.istore 7, 2) := by decide +kernel
theorem dX12_fills_167 : decode cX12_fills 167 = .ok (.aload_n 0, 1) := by decide +kernel
theorem dX12_fills_168 : decode cX12_fills 168 = .ok (.getfield 104, 3) := by decide +kernel
theorem dX12_fills_171 : decode cX12_fills 171 = .ok (.iload 9, 2) := by decide +kernel
theorem dX12_fills_173 : decode cX12_fills 173 = .ok (.iaload, 1) := by decide +kernel
theorem dX12_fills_174 : decode cX12_fills 174 = .ok (.ifCond .ne 33, 3) := by decide +kernel
theorem dX12_fills_177 : decode cX12_fills 177 = .ok (.aload_n 0, 1) := by decide +kernel
theorem dX12_fills_178 : decode cX12_fills 178 = .ok (.getfield 107, 3) := by decide +kernel
theorem dX12_fills_181 : decode cX12_fills 181 = .ok (.iload 9, 2) := by decide +kernel
theorem dX12_fills_183 : decode cX12_fills 183 = .ok (.iaload, 1) := by decide +kernel
theorem dX12_fills_184 : decode cX12_fills 184 = .ok (.iload_n 3, 1) := by decide +kernel
theorem dX12_fills_185 : decode cX12_fills 185 = .ok (.if_icmp .ne 22, 3) := by decide +kernel
theorem dX12_fills_188 : decode cX12_fills 188 = .ok (.aload_n 0, 1) := by decide +kernel
theorem dX12_fills_189 : decode cX12_fills 189 = .ok (.getfield 116, 3) := by decide +kernel
theorem dX12_fills_192 : decode cX12_fills 192 = .ok (.iload 9, 2) := by decide +kernel
theorem dX12_fills_194 : decode cX12_fills 194 = .ok (.iaload, 1) := by decide +kernel
theorem dX12_fills_195 : decode cX12_fills 195 = .ok (.aload_n 0, 1) := by decide +kernel
theorem dX12_fills_196 : decode cX12_fills 196 = .ok (.getfield 116, 3) := by decide +kernel
theorem dX12_fills_199 : decode cX12_fills 199 = .ok (.iload_n 1, 1) := by decide +kernel
theorem dX12_fills_200 : decode cX12_fills 200 = .ok (.iaload, 1) := by decide +kernel
theorem dX12_fills_201 : decode cX12_fills 201 = .ok (.if_icmp .ne 6, 3) := by decide +kernel
theorem dX12_fills_204 : decode cX12_fills 204 = .ok (.iinc 8 1, 3) := by decide +kernel
theorem dX12_fills_207 : decode cX12_fills 207 = .ok (.iinc 9 1, 3) := by decide +kernel
theorem dX12_fills_210 : decode cX12_fills 210 = .ok (.goto (-174), 3) := by decide +kernel
theorem dX12_fills_213 : decode cX12_fills 213 = .ok (.aload_n 0, 1) := by decide +kernel
theorem dX12_fills_214 : decode cX12_fills 214 = .ok (.getfield 92, 3) := by decide +kernel
theorem dX12_fills_217 : decode cX12_fills 217 = .ok (.iconst 0, 1) := by decide +kernel
theorem dX12_fills_218 : decode cX12_fills 218 = .ok (.aload_n 0, 1) := by decide +kernel
theorem dX12_fills_219 : decode cX12_fills 219 = .ok (.getfield 119, 3) := by decide +kernel
theorem dX12_fills_222 : decode cX12_fills 222 = .ok (.iload_n 1, 1) := by decide +kernel
theorem dX12_fills_223 : decode cX12_fills 223 = .ok (.iaload, 1) := by decide +kernel
theorem dX12_fills_224 : decode cX12_fills 224 = .ok (.iastore, 1) := by decide +kernel
theorem dX12_fills_225 : decode cX12_fills 225 = .ok (.aload_n 0, 1) := by decide +kernel
theorem dX12_fills_226 : decode cX12_fills 226 = .ok (.getfield 92, 3) := by decide +kernel
theorem dX12_fills_229 : decode cX12_fills 229 = .ok (.iconst 1, 1) := by decide +kernel
theorem dX12_fills_230 : decode cX12_fills 230 = .ok (.aload_n 0, 1) := by decide +kernel
theorem dX12_fills_231 : decode cX12_fills 231 = .ok (.getfield 119, 3) := by decide +kernel
theorem dX12_fills_234 : decode cX12_fills 234 = .ok (.iload_n 1, 1) := by decide +kernel
theorem dX12_fills_235 : decode cX12_fills 235 = .ok (.iaload, 1) := by decide +kernel
theorem dX12_fills_236 : decode cX12_fills 236 = .ok (.iastore, 1) := by decide +kernel
theorem dX12_fills_237 : decode cX12_fills 237 = .ok (.aload_n 0, 1) := by decide +kernel
theorem dX12_fills_238 : decode cX12_fills 238 = .ok (.getfield 92, 3) := by decide +kernel
theorem dX12_fills_241 : decode cX12_fills 241 = .ok (.iconst 2, 1) := by decide +kernel
theorem dX12_fills_242 : decode cX12_fills 242 = .ok (.iload 7, 2) := by decide +kernel
theorem dX12_fills_244 : decode cX12_fills 244 = .ok (.iastore, 1) := by decide +kernel
theorem dX12_fills_245 : decode cX12_fills 245 = .ok (.aload_n 0, 1) := by decide +kernel
theorem dX12_fills_246 : decode cX12_fills 246 = .ok (.getfield 92, 3) := by decide +kernel
theorem dX12_fills_249 : decode cX12_fills 249 = .ok (.iconst 3, 1) := by decide +kernel
theorem dX12_fills_250 : decode cX12_fills 250 = .ok (.aload_n 0, 1) := by decide +kernel
theorem dX12_fills_251 : decode cX12_fills 251 = .ok (.getfield 113, 3) := by decide +kernel
theorem dX12_fills_254 : decode cX12_fills 254 = .ok (.iload_n 1, 1) := by decide +kernel
theorem dX12_fills_255 : decode cX12_fills 255 = .ok (.iaload, 1) := by decide +kernel
theorem dX12_fills_256 : decode cX12_fills 256 = .ok (.iastore, 1) := by decide +kernel
theorem dX12_fills_257 : decode cX12_fills 257 = .ok (.aload_n 0, 1) := by decide +kernel
theorem dX12_fills_258 : decode cX12_fills 258 = .ok (.getfield 92, 3) := by decide +kernel
theorem dX12_fills_261 : decode cX12_fills 261 = .ok (.iconst 4, 1) := by decide +kernel
theorem dX12_fills_262 : decode cX12_fills 262 = .ok (.aload_n 0, 1) := by decide +kernel
theorem dX12_fills_263 : decode cX12_fills 263 = .ok (.getfield 110, 3) := by decide +kernel
theorem dX12_fills_266 : decode cX12_fills 266 = .ok (.iload_n 1, 1) := by decide +kernel
theorem dX12_fills_267 : decode cX12_fills 267 = .ok (.iaload, 1) := by decide +kernel
theorem dX12_fills_268 : decode cX12_fills 268 = .ok (.iastore, 1) := by decide +kernel
theorem dX12_fills_269 : decode cX12_fills 269 = .ok (.aload_n 0, 1) := by decide +kernel
theorem dX12_fills_270 : decode cX12_fills 270 = .ok (.getfield 92, 3) := by decide +kernel
theorem dX12_fills_273 : decode cX12_fills 273 = .ok (.iconst 5, 1) := by decide +kernel
theorem dX12_fills_274 : decode cX12_fills 274 = .ok (.iload 4, 2) := by decide +kernel
theorem dX12_fills_276 : decode cX12_fills 276 = .ok (.iconst (-1), 1) := by decide +kernel
theorem dX12_fills_277 : decode cX12_fills 277 = .ok (.if_icmp .ne 7, 3) := by decide +kernel
theorem dX12_fills_280 : decode cX12_fills 280 = .ok (.iconst 0, 1) := by decide +kernel
theorem dX12_fills_281 : decode cX12_fills 281 = .ok (.goto 7, 3) := by decide +kernel
theorem dX12_fills_284 : decode cX12_fills 284 = .ok (.iload 4, 2) := by decide +kernel
theorem dX12_fills_286 : decode cX12_fills 286 = .ok (.iconst 1, 1) := by decide +kernel
theorem dX12_fills_287 : decode cX12_fills 287 = .ok (.iadd, 1) := by decide +kernel
theorem dX12_fills_288 : decode cX12_fills 288 = .ok (.iastore, 1) := by decide +kernel
theorem dX12_fills_289 : decode cX12_fills 289 = .ok (.aload_n 0, 1) := by decide +kernel
theorem dX12_fills_290 : decode cX12_fills 290 = .ok (.getfield 92, 3) := by decide +kernel
theorem dX12_fills_293 : decode cX12_fills 293 = .ok (.bipush 6, 2) := by decide +kernel
theorem dX12_fills_295 : decode cX12_fills 295 = .ok (.iload 5, 2) := by decide +kernel
theorem dX12_fills_297 : decode cX12_fills 297 = .ok (.iastore, 1) := by decide +kernel
theorem dX12_fills_298 : decode cX12_fills 298 = .ok (.aload_n 0, 1) := by decide +kernel
theorem dX12_fills_299 : decode cX12_fills 299 = .ok (.getfield 92, 3) := by decide +kernel
theorem dX12_fills_302 : decode cX12_fills 302 = .ok (.bipush 7, 2) := by decide +kernel
theorem dX12_fills_304 : decode cX12_fills 304 = .ok (.iconst 0, 1) := by decide +kernel
theorem dX12_fills_305 : decode cX12_fills 305 = .ok (.iastore, 1) := by decide +kernel
theorem dX12_fills_306 : decode cX12_fills 306 = .ok (.aload_n 0, 1) := by decide +kernel
theorem dX12_fills_307 : decode cX12_fills 307 = .ok (.getfield 92, 3) := by decide +kernel
theorem dX12_fills_310 : decode cX12_fills 310 = .ok (.bipush 8, 2) := by decide +kernel
theorem dX12_fills_312 : decode cX12_fills 312 = .ok (.iconst 0, 1) := by decide +kernel
theorem dX12_fills_313 : decode cX12_fills 313 = .ok (.iastore, 1) := by decide +kernel
theorem dX12_fills_314 : decode cX12_fills 314 = .ok (.aload_n 0, 1) := by decide +kernel
theorem dX12_fills_315 : decode cX12_fills 315 = .ok (.getfield 92, 3) := by decide +kernel
theorem dX12_fills_318 : decode cX12_fills 318 = .ok (.bipush 9, 2) := by decide +kernel
theorem dX12_fills_320 : decode cX12_fills 320 = .ok (.iload 6, 2) := by decide +kernel
theorem dX12_fills_322 : decode cX12_fills 322 = .ok (.iastore, 1) := by decide +kernel
theorem dX12_fills_323 : decode cX12_fills 323 = .ok (.aload_n 0, 1) := by decide +kernel
theorem dX12_fills_324 : decode cX12_fills 324 = .ok (.getfield 92, 3) := by decide +kernel
theorem dX12_fills_327 : decode cX12_fills 327 = .ok (.bipush 10, 2) := by decide +kernel
theorem dX12_fills_329 : decode cX12_fills 329 = .ok (.iconst 0, 1) := by decide +kernel
theorem dX12_fills_330 : decode cX12_fills 330 = .ok (.iastore, 1) := by decide +kernel
theorem dX12_fills_331 : decode cX12_fills 331 = .ok (.aload_n 0, 1) := by decide +kernel
theorem dX12_fills_332 : decode cX12_fills 332 = .ok (.getfield 92, 3) := by decide +kernel
theorem dX12_fills_335 : decode cX12_fills 335 = .ok (.bipush 11, 2) := by decide +kernel
theorem dX12_fills_337 : decode cX12_fills 337 = .ok (.iload 8, 2) := by decide +kernel
theorem dX12_fills_339 : decode cX12_fills 339 = .ok (.iastore, 1) := by decide +kernel
theorem dX12_fills_340 : decode cX12_fills 340 = .ok (.return_, 1) := by decide +kernel
theorem dX12_isStruckBy_0 : decode cX12_isStruckBy 0 = .ok (.iload_n 1, 1) := by decide +kernel
theorem dX12_isStruckBy_1 : decode cX12_isStruckBy 1 = .ok (.iconst 1, 1) := by decide +kernel
theorem dX12_isStruckBy_2 : decode cX12_isStruckBy 2 = .ok (.iadd, 1) := by decide +kernel
theorem dX12_isStruckBy_3 : decode cX12_isStruckBy 3 = .ok (.istore 4, 2) := by decide +kernel
theorem dX12_isStruckBy_5 : decode cX12_isStruckBy 5 = .ok (.iload 4, 2) := by decide +kernel
theorem dX12_isStruckBy_7 : decode cX12_isStruckBy 7 = .ok (.iload_n 3, 1) := by decide +kernel
theorem dX12_isStruckBy_8 : decode cX12_isStruckBy 8 = .ok (.if_icmp .ge 45, 3) := by decide +kernel
theorem dX12_isStruckBy_11 : decode cX12_isStruckBy 11 = .ok (.aload_n 0, 1) := by decide +kernel
theorem dX12_isStruckBy_12 : decode cX12_isStruckBy 12 = .ok (.getfield 104, 3) := by decide +kernel
theorem dX12_isStruckBy_15 : decode cX12_isStruckBy 15 = .ok (.iload 4, 2) := by decide +kernel
theorem dX12_isStruckBy_17 : decode cX12_isStruckBy 17 = .ok (.iaload, 1) := by decide +kernel
theorem dX12_isStruckBy_18 : decode cX12_isStruckBy 18 = .ok (.bipush 6, 2) := by decide +kernel
theorem dX12_isStruckBy_20 : decode cX12_isStruckBy 20 = .ok (.if_icmp .ne 27, 3) := by decide +kernel
theorem dX12_isStruckBy_23 : decode cX12_isStruckBy 23 = .ok (.aload_n 0, 1) := by decide +kernel
theorem dX12_isStruckBy_24 : decode cX12_isStruckBy 24 = .ok (.getfield 110, 3) := by decide +kernel
theorem dX12_isStruckBy_27 : decode cX12_isStruckBy 27 = .ok (.iload 4, 2) := by decide +kernel
theorem dX12_isStruckBy_29 : decode cX12_isStruckBy 29 = .ok (.iaload, 1) := by decide +kernel
theorem dX12_isStruckBy_30 : decode cX12_isStruckBy 30 = .ok (.iload_n 1, 1) := by decide +kernel
theorem dX12_isStruckBy_31 : decode cX12_isStruckBy 31 = .ok (.if_icmp .ne 16, 3) := by decide +kernel
theorem dX12_isStruckBy_34 : decode cX12_isStruckBy 34 = .ok (.aload_n 0, 1) := by decide +kernel
theorem dX12_isStruckBy_35 : decode cX12_isStruckBy 35 = .ok (.getfield 107, 3) := by decide +kernel
theorem dX12_isStruckBy_38 : decode cX12_isStruckBy 38 = .ok (.iload 4, 2) := by decide +kernel
theorem dX12_isStruckBy_40 : decode cX12_isStruckBy 40 = .ok (.iaload, 1) := by decide +kernel
theorem dX12_isStruckBy_41 : decode cX12_isStruckBy 41 = .ok (.iload_n 2, 1) := by decide +kernel
theorem dX12_isStruckBy_42 : decode cX12_isStruckBy 42 = .ok (.if_icmp .gt 5, 3) := by decide +kernel
theorem dX12_isStruckBy_45 : decode cX12_isStruckBy 45 = .ok (.iconst 1, 1) := by decide +kernel
theorem dX12_isStruckBy_46 : decode cX12_isStruckBy 46 = .ok (.ireturn, 1) := by decide +kernel
theorem dX12_isStruckBy_47 : decode cX12_isStruckBy 47 = .ok (.iinc 4 1, 3) := by decide +kernel
theorem dX12_isStruckBy_50 : decode cX12_isStruckBy 50 = .ok (.goto (-45), 3) := by decide +kernel
theorem dX12_isStruckBy_53 : decode cX12_isStruckBy 53 = .ok (.iconst 0, 1) := by decide +kernel
theorem dX12_isStruckBy_54 : decode cX12_isStruckBy 54 = .ok (.ireturn, 1) := by decide +kernel
theorem dX12_fateOf_0 : decode cX12_fateOf 0 = .ok (.aload_n 0, 1) := by decide +kernel
theorem dX12_fateOf_1 : decode cX12_fateOf 1 = .ok (.getfield 110, 3) := by decide +kernel
theorem dX12_fateOf_4 : decode cX12_fateOf 4 = .ok (.iload_n 1, 1) := by decide +kernel
theorem dX12_fateOf_5 : decode cX12_fateOf 5 = .ok (.iaload, 1) := by decide +kernel
theorem dX12_fateOf_6 : decode cX12_fateOf 6 = .ok (.istore_n 3, 1) := by decide +kernel
theorem dX12_fateOf_7 : decode cX12_fateOf 7 = .ok (.aload_n 0, 1) := by decide +kernel
theorem dX12_fateOf_8 : decode cX12_fateOf 8 = .ok (.getfield 107, 3) := by decide +kernel
theorem dX12_fateOf_11 : decode cX12_fateOf 11 = .ok (.iload_n 1, 1) := by decide +kernel
theorem dX12_fateOf_12 : decode cX12_fateOf 12 = .ok (.iaload, 1) := by decide +kernel
theorem dX12_fateOf_13 : decode cX12_fateOf 13 = .ok (.aload_n 0, 1) := by decide +kernel
theorem dX12_fateOf_14 : decode cX12_fateOf 14 = .ok (.getfield 107, 3) := by decide +kernel
theorem dX12_fateOf_17 : decode cX12_fateOf 17 = .ok (.iload_n 3, 1) := by decide +kernel
theorem dX12_fateOf_18 : decode cX12_fateOf 18 = .ok (.iaload, 1) := by decide +kernel
theorem dX12_fateOf_19 : decode cX12_fateOf 19 = .ok (.if_icmp .ge 5, 3) := by decide +kernel
theorem dX12_fateOf_22 : decode cX12_fateOf 22 = .ok (.iconst 1, 1) := by decide +kernel
theorem dX12_fateOf_23 : decode cX12_fateOf 23 = .ok (.ireturn, 1) := by decide +kernel
theorem dX12_fateOf_24 : decode cX12_fateOf 24 = .ok (.aload_n 0, 1) := by decide +kernel
theorem dX12_fateOf_25 : decode cX12_fateOf 25 = .ok (.iload_n 3, 1) := by decide +kernel
theorem dX12_fateOf_26 : decode cX12_fateOf 26 = .ok (.aload_n 0, 1) := by decide +kernel
theorem dX12_fateOf_27 : decode cX12_fateOf 27 = .ok (.getfield 107, 3) := by decide +kernel
theorem dX12_fateOf_30 : decode cX12_fateOf 30 = .ok (.iload_n 1, 1) := by decide +kernel
theorem dX12_fateOf_31 : decode cX12_fateOf 31 = .ok (.iaload, 1) := by decide +kernel
theorem dX12_fateOf_32 : decode cX12_fateOf 32 = .ok (.iload_n 2, 1) := by decide +kernel
theorem dX12_fateOf_33 : decode cX12_fateOf 33 = .ok (.invokevirtual 331, 3) := by decide +kernel
theorem dX12_fateOf_36 : decode cX12_fateOf 36 = .ok (.ifCond .eq 5, 3) := by decide +kernel
theorem dX12_fateOf_39 : decode cX12_fateOf 39 = .ok (.iconst 2, 1) := by decide +kernel
theorem dX12_fateOf_40 : decode cX12_fateOf 40 = .ok (.ireturn, 1) := by decide +kernel
theorem dX12_fateOf_41 : decode cX12_fateOf 41 = .ok (.aload_n 0, 1) := by decide +kernel
theorem dX12_fateOf_42 : decode cX12_fateOf 42 = .ok (.getfield 92, 3) := by decide +kernel
theorem dX12_fateOf_45 : decode cX12_fateOf 45 = .ok (.iconst 0, 1) := by decide +kernel
theorem dX12_fateOf_46 : decode cX12_fateOf 46 = .ok (.aload_n 0, 1) := by decide +kernel
theorem dX12_fateOf_47 : decode cX12_fateOf 47 = .ok (.getfield 334, 3) := by decide +kernel
theorem dX12_fateOf_50 : decode cX12_fateOf 50 = .ok (.iastore, 1) := by decide +kernel
theorem dX12_fateOf_51 : decode cX12_fateOf 51 = .ok (.aload_n 0, 1) := by decide +kernel
theorem dX12_fateOf_52 : decode cX12_fateOf 52 = .ok (.getfield 92, 3) := by decide +kernel
theorem dX12_fateOf_55 : decode cX12_fateOf 55 = .ok (.bipush 8, 2) := by decide +kernel
theorem dX12_fateOf_57 : decode cX12_fateOf 57 = .ok (.aload_n 0, 1) := by decide +kernel
theorem dX12_fateOf_58 : decode cX12_fateOf 58 = .ok (.getfield 336, 3) := by decide +kernel
theorem dX12_fateOf_61 : decode cX12_fateOf 61 = .ok (.iastore, 1) := by decide +kernel
theorem dX12_fateOf_62 : decode cX12_fateOf 62 = .ok (.aload_n 0, 1) := by decide +kernel
theorem dX12_fateOf_63 : decode cX12_fateOf 63 = .ok (.getfield 92, 3) := by decide +kernel
theorem dX12_fateOf_66 : decode cX12_fateOf 66 = .ok (.bipush 7, 2) := by decide +kernel
theorem dX12_fateOf_68 : decode cX12_fateOf 68 = .ok (.aload_n 0, 1) := by decide +kernel
theorem dX12_fateOf_69 : decode cX12_fateOf 69 = .ok (.getfield 107, 3) := by decide +kernel
theorem dX12_fateOf_72 : decode cX12_fateOf 72 = .ok (.iload_n 1, 1) := by decide +kernel
theorem dX12_fateOf_73 : decode cX12_fateOf 73 = .ok (.iaload, 1) := by decide +kernel
theorem dX12_fateOf_74 : decode cX12_fateOf 74 = .ok (.aload_n 0, 1) := by decide +kernel
theorem dX12_fateOf_75 : decode cX12_fateOf 75 = .ok (.getfield 107, 3) := by decide +kernel
theorem dX12_fateOf_78 : decode cX12_fateOf 78 = .ok (.iload_n 3, 1) := by decide +kernel
theorem dX12_fateOf_79 : decode cX12_fateOf 79 = .ok (.iaload, 1) := by decide +kernel
theorem dX12_fateOf_80 : decode cX12_fateOf 80 = .ok (.isub, 1) := by decide +kernel
theorem dX12_fateOf_81 : decode cX12_fateOf 81 = .ok (.iastore, 1) := by decide +kernel
theorem dX12_fateOf_82 : decode cX12_fateOf 82 = .ok (.aload_n 0, 1) := by decide +kernel
theorem dX12_fateOf_83 : decode cX12_fateOf 83 = .ok (.getfield 92, 3) := by decide +kernel
theorem dX12_fateOf_86 : decode cX12_fateOf 86 = .ok (.bipush 10, 2) := by decide +kernel
theorem dX12_fateOf_88 : decode cX12_fateOf 88 = .ok (.aload_n 0, 1) := by decide +kernel
theorem dX12_fateOf_89 : decode cX12_fateOf 89 = .ok (.getfield 113, 3) := by decide +kernel
theorem dX12_fateOf_92 : decode cX12_fateOf 92 = .ok (.iload_n 1, 1) := by decide +kernel
theorem dX12_fateOf_93 : decode cX12_fateOf 93 = .ok (.iaload, 1) := by decide +kernel
theorem dX12_fateOf_94 : decode cX12_fateOf 94 = .ok (.iastore, 1) := by decide +kernel
theorem dX12_fateOf_95 : decode cX12_fateOf 95 = .ok (.aload_n 0, 1) := by decide +kernel
theorem dX12_fateOf_96 : decode cX12_fateOf 96 = .ok (.aload_n 0, 1) := by decide +kernel
theorem dX12_fateOf_97 : decode cX12_fateOf 97 = .ok (.getfield 107, 3) := by decide +kernel
theorem dX12_fateOf_100 : decode cX12_fateOf 100 = .ok (.iload_n 1, 1) := by decide +kernel
theorem dX12_fateOf_101 : decode cX12_fateOf 101 = .ok (.iaload, 1) := by decide +kernel
theorem dX12_fateOf_102 : decode cX12_fateOf 102 = .ok (.invokevirtual 295, 3) := by decide +kernel
theorem dX12_fateOf_105 : decode cX12_fateOf 105 = .ok (.aload_n 0, 1) := by decide +kernel
theorem dX12_fateOf_106 : decode cX12_fateOf 106 = .ok (.iconst 1, 1) := by decide +kernel
theorem dX12_fateOf_107 : decode cX12_fateOf 107 = .ok (.invokevirtual 339, 3) := by decide +kernel
theorem dX12_fateOf_110 : decode cX12_fateOf 110 = .ok (.iconst (-1), 1) := by decide +kernel
theorem dX12_fateOf_111 : decode cX12_fateOf 111 = .ok (.if_icmp .ne 5, 3) := by decide +kernel
theorem dX12_fateOf_114 : decode cX12_fateOf 114 = .ok (.iconst 3, 1) := by decide +kernel
theorem dX12_fateOf_115 : decode cX12_fateOf 115 = .ok (.ireturn, 1) := by decide +kernel
theorem dX12_fateOf_116 : decode cX12_fateOf 116 = .ok (.aload_n 0, 1) := by decide +kernel
theorem dX12_fateOf_117 : decode cX12_fateOf 117 = .ok (.iconst 2, 1) := by decide +kernel
theorem dX12_fateOf_118 : decode cX12_fateOf 118 = .ok (.invokevirtual 339, 3) := by decide +kernel
theorem dX12_fateOf_121 : decode cX12_fateOf 121 = .ok (.iconst (-1), 1) := by decide +kernel
theorem dX12_fateOf_122 : decode cX12_fateOf 122 = .ok (.if_icmp .ne 7, 3) := by decide +kernel
theorem dX12_fateOf_125 : decode cX12_fateOf 125 = .ok (.iconst 0, 1) := by decide +kernel
theorem dX12_fateOf_126 : decode cX12_fateOf 126 = .ok (.goto 4, 3) := by decide +kernel
theorem dX12_fateOf_129 : decode cX12_fateOf 129 = .ok (.iconst 4, 1) := by decide +kernel
theorem dX12_fateOf_130 : decode cX12_fateOf 130 = .ok (.ireturn, 1) := by decide +kernel
theorem dX12_prints_0 : decode cX12_prints 0 = .ok (.aload_n 0, 1) := by decide +kernel
theorem dX12_prints_1 : decode cX12_prints 1 = .ok (.iload_n 1, 1) := by decide +kernel
theorem dX12_prints_2 : decode cX12_prints 2 = .ok (.iload_n 3, 1) := by decide +kernel
theorem dX12_prints_3 : decode cX12_prints 3 = .ok (.invokevirtual 342, 3) := by decide +kernel
theorem dX12_prints_6 : decode cX12_prints 6 = .ok (.aload_n 0, 1) := by decide +kernel
theorem dX12_prints_7 : decode cX12_prints 7 = .ok (.aload_n 0, 1) := by decide +kernel
theorem dX12_prints_8 : decode cX12_prints 8 = .ok (.getfield 119, 3) := by decide +kernel
theorem dX12_prints_11 : decode cX12_prints 11 = .ok (.iload_n 1, 1) := by decide +kernel
theorem dX12_prints_12 : decode cX12_prints 12 = .ok (.iaload, 1) := by decide +kernel
theorem dX12_prints_13 : decode cX12_prints 13 = .ok (.putfield 334, 3) := by decide +kernel
theorem dX12_prints_16 : decode cX12_prints 16 = .ok (.aload_n 0, 1) := by decide +kernel
theorem dX12_prints_17 : decode cX12_prints 17 = .ok (.iconst 0, 1) := by decide +kernel
theorem dX12_prints_18 : decode cX12_prints 18 = .ok (.putfield 336, 3) := by decide +kernel
theorem dX12_prints_21 : decode cX12_prints 21 = .ok (.aload_n 0, 1) := by decide +kernel
theorem dX12_prints_22 : decode cX12_prints 22 = .ok (.aload_n 0, 1) := by decide +kernel
theorem dX12_prints_23 : decode cX12_prints 23 = .ok (.getfield 107, 3) := by decide +kernel
theorem dX12_prints_26 : decode cX12_prints 26 = .ok (.iload_n 1, 1) := by decide +kernel
theorem dX12_prints_27 : decode cX12_prints 27 = .ok (.iaload, 1) := by decide +kernel
theorem dX12_prints_28 : decode cX12_prints 28 = .ok (.invokevirtual 295, 3) := by decide +kernel
theorem dX12_prints_31 : decode cX12_prints 31 = .ok (.aload_n 0, 1) := by decide +kernel
theorem dX12_prints_32 : decode cX12_prints 32 = .ok (.aload_n 0, 1) := by decide +kernel
theorem dX12_prints_33 : decode cX12_prints 33 = .ok (.iconst 0, 1) := by decide +kernel
theorem dX12_prints_34 : decode cX12_prints 34 = .ok (.invokevirtual 339, 3) := by decide +kernel
theorem dX12_prints_37 : decode cX12_prints 37 = .ok (.putfield 345, 3) := by decide +kernel
theorem dX12_prints_40 : decode cX12_prints 40 = .ok (.aload_n 0, 1) := by decide +kernel
theorem dX12_prints_41 : decode cX12_prints 41 = .ok (.getfield 345, 3) := by decide +kernel
theorem dX12_prints_44 : decode cX12_prints 44 = .ok (.iconst (-1), 1) := by decide +kernel
theorem dX12_prints_45 : decode cX12_prints 45 = .ok (.if_icmp .eq 63, 3) := by decide +kernel
theorem dX12_prints_48 : decode cX12_prints 48 = .ok (.aload_n 0, 1) := by decide +kernel
theorem dX12_prints_49 : decode cX12_prints 49 = .ok (.getfield 101, 3) := by decide +kernel
theorem dX12_prints_52 : decode cX12_prints 52 = .ok (.aload_n 0, 1) := by decide +kernel
theorem dX12_prints_53 : decode cX12_prints 53 = .ok (.getfield 345, 3) := by decide +kernel
theorem dX12_prints_56 : decode cX12_prints 56 = .ok (.iaload, 1) := by decide +kernel
theorem dX12_prints_57 : decode cX12_prints 57 = .ok (.istore 5, 2) := by decide +kernel
theorem dX12_prints_59 : decode cX12_prints 59 = .ok (.aload_n 0, 1) := by decide +kernel
theorem dX12_prints_60 : decode cX12_prints 60 = .ok (.aload_n 0, 1) := by decide +kernel
theorem dX12_prints_61 : decode cX12_prints 61 = .ok (.getfield 52, 3) := by decide +kernel
theorem dX12_prints_64 : decode cX12_prints 64 = .ok (.iload 5, 2) := by decide +kernel
theorem dX12_prints_66 : decode cX12_prints 66 = .ok (.iaload, 1) := by decide +kernel
theorem dX12_prints_67 : decode cX12_prints 67 = .ok (.aload_n 0, 1) := by decide +kernel
theorem dX12_prints_68 : decode cX12_prints 68 = .ok (.getfield 55, 3) := by decide +kernel
theorem dX12_prints_71 : decode cX12_prints 71 = .ok (.iload 5, 2) := by decide +kernel
theorem dX12_prints_73 : decode cX12_prints 73 = .ok (.iaload, 1) := by decide +kernel
theorem dX12_prints_74 : decode cX12_prints 74 = .ok (.invokevirtual 272, 3) := by decide +kernel
theorem dX12_prints_77 : decode cX12_prints 77 = .ok (.istore 6, 2) := by decide +kernel
theorem dX12_prints_79 : decode cX12_prints 79 = .ok (.aload_n 0, 1) := by decide +kernel
theorem dX12_prints_80 : decode cX12_prints 80 = .ok (.iload 6, 2) := by decide +kernel
theorem dX12_prints_82 : decode cX12_prints 82 = .ok (.ifCond .ge 7, 3) := by decide +kernel
theorem dX12_prints_85 : decode cX12_prints 85 = .ok (.iconst 0, 1) := by decide +kernel
theorem dX12_prints_86 : decode cX12_prints 86 = .ok (.goto 19, 3) := by decide +kernel
theorem dX12_prints_89 : decode cX12_prints 89 = .ok (.iload 6, 2) := by decide +kernel
theorem dX12_prints_91 : decode cX12_prints 91 = .ok (.sipush 999, 3) := by decide +kernel
theorem dX12_prints_94 : decode cX12_prints 94 = .ok (.if_icmp .le 9, 3) := by decide +kernel
theorem dX12_prints_97 : decode cX12_prints 97 = .ok (.sipush 999, 3) := by decide +kernel
theorem dX12_prints_100 : decode cX12_prints 100 = .ok (.goto 5, 3) := by decide +kernel
theorem dX12_prints_103 : decode cX12_prints 103 = .ok (.iload 6, 2) := by decide +kernel
theorem dX12_prints_105 : decode cX12_prints 105 = .ok (.putfield 334, 3) := by decide +kernel
theorem dX12_prints_108 : decode cX12_prints 108 = .ok (.iload_n 1, 1) := by decide +kernel
theorem dX12_prints_109 : decode cX12_prints 109 = .ok (.iconst 1, 1) := by decide +kernel
theorem dX12_prints_110 : decode cX12_prints 110 = .ok (.iadd, 1) := by decide +kernel
theorem dX12_prints_111 : decode cX12_prints 111 = .ok (.istore 5, 2) := by decide +kernel
theorem dX12_prints_113 : decode cX12_prints 113 = .ok (.iload 5, 2) := by decide +kernel
theorem dX12_prints_115 : decode cX12_prints 115 = .ok (.iload_n 3, 1) := by decide +kernel
theorem dX12_prints_116 : decode cX12_prints 116 = .ok (.if_icmp .ge 83, 3) := by decide +kernel
theorem dX12_prints_119 : decode cX12_prints 119 = .ok (.iload 5, 2) := by decide +kernel
theorem dX12_prints_121 : decode cX12_prints 121 = .ok (.iload 4, 2) := by decide +kernel
theorem dX12_prints_123 : decode cX12_prints 123 = .ok (.if_icmp .ge 76, 3) := by decide +kernel
theorem dX12_prints_126 : decode cX12_prints 126 = .ok (.aload_n 0, 1) := by decide +kernel
theorem dX12_prints_127 : decode cX12_prints 127 = .ok (.getfield 104, 3) := by decide +kernel
theorem dX12_prints_130 : decode cX12_prints 130 = .ok (.iload 5, 2) := by decide +kernel
theorem dX12_prints_132 : decode cX12_prints 132 = .ok (.iaload, 1) := by decide +kernel
theorem dX12_prints_133 : decode cX12_prints 133 = .ok (.iconst 4, 1) := by decide +kernel
theorem dX12_prints_134 : decode cX12_prints 134 = .ok (.if_icmp .ne 59, 3) := by decide +kernel
theorem dX12_prints_137 : decode cX12_prints 137 = .ok (.aload_n 0, 1) := by decide +kernel
theorem dX12_prints_138 : decode cX12_prints 138 = .ok (.getfield 110, 3) := by decide +kernel
theorem dX12_prints_141 : decode cX12_prints 141 = .ok (.iload 5, 2) := by decide +kernel
theorem dX12_prints_143 : decode cX12_prints 143 = .ok (.iaload, 1) := by decide +kernel
theorem dX12_prints_144 : decode cX12_prints 144 = .ok (.iload_n 1, 1) := by decide +kernel
theorem dX12_prints_145 : decode cX12_prints 145 = .ok (.if_icmp .ne 48, 3) := by decide +kernel
theorem dX12_prints_148 : decode cX12_prints 148 = .ok (.aload_n 0, 1) := by decide +kernel
theorem dX12_prints_149 : decode cX12_prints 149 = .ok (.getfield 107, 3) := by decide +kernel
theorem dX12_prints_152 : decode cX12_prints 152 = .ok (.iload 5, 2) := by decide +kernel
theorem dX12_prints_154 : decode cX12_prints 154 = .ok (.iaload, 1) := by decide +kernel
theorem dX12_prints_155 : decode cX12_prints 155 = .ok (.iload_n 2, 1) := by decide +kernel
theorem dX12_prints_156 : decode cX12_prints 156 = .ok (.if_icmp .gt 37, 3) := by decide +kernel
theorem dX12_prints_159 : decode cX12_prints 159 = .ok (.aload_n 0, 1) := by decide +kernel
theorem dX12_prints_160 : decode cX12_prints 160 = .ok (.iload 5, 2) := by decide +kernel
theorem dX12_prints_162 : decode cX12_prints 162 = .ok (.iload_n 3, 1) := by decide +kernel
theorem dX12_prints_163 : decode cX12_prints 163 = .ok (.invokevirtual 348, 3) := by decide +kernel
theorem dX12_prints_166 : decode cX12_prints 166 = .ok (.ifCond .eq 6, 3) := by decide +kernel
theorem dX12_prints_169 : decode cX12_prints 169 = .ok (.goto 24, 3) := by decide +kernel
theorem dX12_prints_172 : decode cX12_prints 172 = .ok (.aload_n 0, 1) := by decide +kernel
theorem dX12_prints_173 : decode cX12_prints 173 = .ok (.aload_n 0, 1) := by decide +kernel
theorem dX12_prints_174 : decode cX12_prints 174 = .ok (.getfield 113, 3) := by decide +kernel
theorem dX12_prints_177 : decode cX12_prints 177 = .ok (.iload 5, 2) := by decide +kernel
theorem dX12_prints_179 : decode cX12_prints 179 = .ok (.iaload, 1) := by decide +kernel
theorem dX12_prints_180 : decode cX12_prints 180 = .ok (.putfield 334, 3) := by decide +kernel
theorem dX12_prints_183 : decode cX12_prints 183 = .ok (.aload_n 0, 1) := by decide +kernel
theorem dX12_prints_184 : decode cX12_prints 184 = .ok (.dup, 1) := by decide +kernel
theorem dX12_prints_185 : decode cX12_prints 185 = .ok (.getfield 336, 3) := by decide +kernel
theorem dX12_prints_188 : decode cX12_prints 188 = .ok (.iconst 1, 1) := by decide +kernel
theorem dX12_prints_189 : decode cX12_prints 189 = .ok (.iadd, 1) := by decide +kernel
theorem dX12_prints_190 : decode cX12_prints 190 = .ok (.putfield 336, 3) := by decide +kernel
theorem dX12_prints_193 : decode cX12_prints 193 = .ok (.iinc 5 1, 3) := by decide +kernel
theorem dX12_prints_196 : decode cX12_prints 196 = .ok (.goto (-83), 3) := by decide +kernel
theorem dX12_prints_199 : decode cX12_prints 199 = .ok (.aload_n 0, 1) := by decide +kernel
theorem dX12_prints_200 : decode cX12_prints 200 = .ok (.aload_n 0, 1) := by decide +kernel
theorem dX12_prints_201 : decode cX12_prints 201 = .ok (.iload_n 1, 1) := by decide +kernel
theorem dX12_prints_202 : decode cX12_prints 202 = .ok (.iload_n 2, 1) := by decide +kernel
theorem dX12_prints_203 : decode cX12_prints 203 = .ok (.iload_n 3, 1) := by decide +kernel
theorem dX12_prints_204 : decode cX12_prints 204 = .ok (.invokevirtual 331, 3) := by decide +kernel
theorem dX12_prints_207 : decode cX12_prints 207 = .ok (.putfield 351, 3) := by decide +kernel
theorem dX12_prints_210 : decode cX12_prints 210 = .ok (.aload_n 0, 1) := by decide +kernel
theorem dX12_prints_211 : decode cX12_prints 211 = .ok (.iload_n 1, 1) := by decide +kernel
theorem dX12_prints_212 : decode cX12_prints 212 = .ok (.iload_n 2, 1) := by decide +kernel
theorem dX12_prints_213 : decode cX12_prints 213 = .ok (.invokevirtual 354, 3) := by decide +kernel
theorem dX12_prints_216 : decode cX12_prints 216 = .ok (.aload_n 0, 1) := by decide +kernel
theorem dX12_prints_217 : decode cX12_prints 217 = .ok (.aload_n 0, 1) := by decide +kernel
theorem dX12_prints_218 : decode cX12_prints 218 = .ok (.iconst 3, 1) := by decide +kernel
theorem dX12_prints_219 : decode cX12_prints 219 = .ok (.invokevirtual 339, 3) := by decide +kernel
theorem dX12_prints_222 : decode cX12_prints 222 = .ok (.putfield 357, 3) := by decide +kernel
theorem dX12_prints_225 : decode cX12_prints 225 = .ok (.return_, 1) := by decide +kernel
theorem dX12_later_0 : decode cX12_later 0 = .ok (.aload_n 0, 1) := by decide +kernel
theorem dX12_later_1 : decode cX12_later 1 = .ok (.getfield 92, 3) := by decide +kernel
theorem dX12_later_4 : decode cX12_later 4 = .ok (.iconst 0, 1) := by decide +kernel
theorem dX12_later_5 : decode cX12_later 5 = .ok (.aload_n 0, 1) := by decide +kernel
theorem dX12_later_6 : decode cX12_later 6 = .ok (.getfield 334, 3) := by decide +kernel
theorem dX12_later_9 : decode cX12_later 9 = .ok (.iastore, 1) := by decide +kernel
theorem dX12_later_10 : decode cX12_later 10 = .ok (.aload_n 0, 1) := by decide +kernel
theorem dX12_later_11 : decode cX12_later 11 = .ok (.getfield 92, 3) := by decide +kernel
theorem dX12_later_14 : decode cX12_later 14 = .ok (.bipush 8, 2) := by decide +kernel
theorem dX12_later_16 : decode cX12_later 16 = .ok (.aload_n 0, 1) := by decide +kernel
theorem dX12_later_17 : decode cX12_later 17 = .ok (.getfield 336, 3) := by decide +kernel
theorem dX12_later_20 : decode cX12_later 20 = .ok (.iastore, 1) := by decide +kernel
theorem dX12_later_21 : decode cX12_later 21 = .ok (.aload_n 0, 1) := by decide +kernel
theorem dX12_later_22 : decode cX12_later 22 = .ok (.getfield 92, 3) := by decide +kernel
theorem dX12_later_25 : decode cX12_later 25 = .ok (.bipush 7, 2) := by decide +kernel
theorem dX12_later_27 : decode cX12_later 27 = .ok (.iload_n 2, 1) := by decide +kernel
theorem dX12_later_28 : decode cX12_later 28 = .ok (.aload_n 0, 1) := by decide +kernel
theorem dX12_later_29 : decode cX12_later 29 = .ok (.getfield 107, 3) := by decide +kernel
theorem dX12_later_32 : decode cX12_later 32 = .ok (.iload_n 1, 1) := by decide +kernel
theorem dX12_later_33 : decode cX12_later 33 = .ok (.iaload, 1) := by decide +kernel
theorem dX12_later_34 : decode cX12_later 34 = .ok (.isub, 1) := by decide +kernel
theorem dX12_later_35 : decode cX12_later 35 = .ok (.iastore, 1) := by decide +kernel
theorem dX12_later_36 : decode cX12_later 36 = .ok (.aload_n 0, 1) := by decide +kernel
theorem dX12_later_37 : decode cX12_later 37 = .ok (.getfield 92, 3) := by decide +kernel
theorem dX12_later_40 : decode cX12_later 40 = .ok (.bipush 10, 2) := by decide +kernel
theorem dX12_later_42 : decode cX12_later 42 = .ok (.iconst 0, 1) := by decide +kernel
theorem dX12_later_43 : decode cX12_later 43 = .ok (.iastore, 1) := by decide +kernel
theorem dX12_later_44 : decode cX12_later 44 = .ok (.aload_n 0, 1) := by decide +kernel
theorem dX12_later_45 : decode cX12_later 45 = .ok (.iload_n 2, 1) := by decide +kernel
theorem dX12_later_46 : decode cX12_later 46 = .ok (.invokevirtual 295, 3) := by decide +kernel
theorem dX12_later_49 : decode cX12_later 49 = .ok (.return_, 1) := by decide +kernel
theorem dX12_printed_0 : decode cX12_printed 0 = .ok (.aload_n 0, 1) := by decide +kernel
theorem dX12_printed_1 : decode cX12_printed 1 = .ok (.iload_n 3, 1) := by decide +kernel
theorem dX12_printed_2 : decode cX12_printed 2 = .ok (.invokevirtual 325, 3) := by decide +kernel
theorem dX12_printed_5 : decode cX12_printed 5 = .ok (.ifCond .eq 39, 3) := by decide +kernel
theorem dX12_printed_8 : decode cX12_printed 8 = .ok (.aload_n 0, 1) := by decide +kernel
theorem dX12_printed_9 : decode cX12_printed 9 = .ok (.iload_n 1, 1) := by decide +kernel
theorem dX12_printed_10 : decode cX12_printed 10 = .ok (.iload_n 3, 1) := by decide +kernel
theorem dX12_printed_11 : decode cX12_printed 11 = .ok (.invokevirtual 317, 3) := by decide +kernel
theorem dX12_printed_14 : decode cX12_printed 14 = .ok (.ifCond .eq 30, 3) := by decide +kernel
theorem dX12_printed_17 : decode cX12_printed 17 = .ok (.iload_n 2, 1) := by decide +kernel
theorem dX12_printed_18 : decode cX12_printed 18 = .ok (.invokestatic 292, 3) := by decide +kernel
theorem dX12_printed_21 : decode cX12_printed 21 = .ok (.ifCond .eq 23, 3) := by decide +kernel
theorem dX12_printed_24 : decode cX12_printed 24 = .ok (.iload_n 2, 1) := by decide +kernel
theorem dX12_printed_25 : decode cX12_printed 25 = .ok (.aload_n 0, 1) := by decide +kernel
theorem dX12_printed_26 : decode cX12_printed 26 = .ok (.getfield 107, 3) := by decide +kernel
theorem dX12_printed_29 : decode cX12_printed 29 = .ok (.iload_n 1, 1) := by decide +kernel
theorem dX12_printed_30 : decode cX12_printed 30 = .ok (.iaload, 1) := by decide +kernel
theorem dX12_printed_31 : decode cX12_printed 31 = .ok (.if_icmp .lt 13, 3) := by decide +kernel
theorem dX12_printed_34 : decode cX12_printed 34 = .ok (.iload 4, 2) := by decide +kernel
theorem dX12_printed_36 : decode cX12_printed 36 = .ok (.iconst 0, 1) := by decide +kernel
theorem dX12_printed_37 : decode cX12_printed 37 = .ok (.iconst 5, 1) := by decide +kernel
theorem dX12_printed_38 : decode cX12_printed 38 = .ok (.invokestatic 288, 3) := by decide +kernel
theorem dX12_printed_41 : decode cX12_printed 41 = .ok (.ifCond .ne 5, 3) := by decide +kernel
theorem dX12_printed_44 : decode cX12_printed 44 = .ok (.iconst (-1), 1) := by decide +kernel
theorem dX12_printed_45 : decode cX12_printed 45 = .ok (.ireturn, 1) := by decide +kernel
theorem dX12_printed_46 : decode cX12_printed 46 = .ok (.iload 4, 2) := by decide +kernel
theorem dX12_printed_48 : decode cX12_printed 48 = .ok (.iconst 5, 1) := by decide +kernel
theorem dX12_printed_49 : decode cX12_printed 49 = .ok (.if_icmp .ne 36, 3) := by decide +kernel
theorem dX12_printed_52 : decode cX12_printed 52 = .ok (.aload_n 0, 1) := by decide +kernel
theorem dX12_printed_53 : decode cX12_printed 53 = .ok (.aload_n 0, 1) := by decide +kernel
theorem dX12_printed_54 : decode cX12_printed 54 = .ok (.getfield 116, 3) := by decide +kernel
theorem dX12_printed_57 : decode cX12_printed 57 = .ok (.iload_n 1, 1) := by decide +kernel
theorem dX12_printed_58 : decode cX12_printed 58 = .ok (.iaload, 1) := by decide +kernel
theorem dX12_printed_59 : decode cX12_printed 59 = .ok (.aload_n 0, 1) := by decide +kernel
theorem dX12_printed_60 : decode cX12_printed 60 = .ok (.getfield 107, 3) := by decide +kernel
theorem dX12_printed_63 : decode cX12_printed 63 = .ok (.iload_n 1, 1) := by decide +kernel
theorem dX12_printed_64 : decode cX12_printed 64 = .ok (.iaload, 1) := by decide +kernel
theorem dX12_printed_65 : decode cX12_printed 65 = .ok (.iload_n 3, 1) := by decide +kernel
theorem dX12_printed_66 : decode cX12_printed 66 = .ok (.invokevirtual 328, 3) := by decide +kernel
theorem dX12_printed_69 : decode cX12_printed 69 = .ok (.istore 5, 2) := by decide +kernel
theorem dX12_printed_71 : decode cX12_printed 71 = .ok (.iload 5, 2) := by decide +kernel
theorem dX12_printed_73 : decode cX12_printed 73 = .ok (.iconst (-1), 1) := by decide +kernel
theorem dX12_printed_74 : decode cX12_printed 74 = .ok (.if_icmp .ne 8, 3) := by decide +kernel
theorem dX12_printed_77 : decode cX12_printed 77 = .ok (.bipush (-2), 2) := by decide +kernel
theorem dX12_printed_79 : decode cX12_printed 79 = .ok (.goto 5, 3) := by decide +kernel
theorem dX12_printed_82 : decode cX12_printed 82 = .ok (.iload 5, 2) := by decide +kernel
theorem dX12_printed_84 : decode cX12_printed 84 = .ok (.ireturn, 1) := by decide +kernel
theorem dX12_printed_85 : decode cX12_printed 85 = .ok (.aload_n 0, 1) := by decide +kernel
theorem dX12_printed_86 : decode cX12_printed 86 = .ok (.iload_n 1, 1) := by decide +kernel
theorem dX12_printed_87 : decode cX12_printed 87 = .ok (.iload_n 2, 1) := by decide +kernel
theorem dX12_printed_88 : decode cX12_printed 88 = .ok (.iload_n 3, 1) := by decide +kernel
theorem dX12_printed_89 : decode cX12_printed 89 = .ok (.iload_n 3, 1) := by decide +kernel
theorem dX12_printed_90 : decode cX12_printed 90 = .ok (.invokevirtual 360, 3) := by decide +kernel
theorem dX12_printed_93 : decode cX12_printed 93 = .ok (.iload 4, 2) := by decide +kernel
theorem dX12_printed_95 : decode cX12_printed 95 = .ok (.tableswitch 83 0 3 #[29, 34, 47, 65], 29) := by decide +kernel
theorem dX12_printed_124 : decode cX12_printed 124 = .ok (.aload_n 0, 1) := by decide +kernel
theorem dX12_printed_125 : decode cX12_printed 125 = .ok (.getfield 334, 3) := by decide +kernel
theorem dX12_printed_128 : decode cX12_printed 128 = .ok (.ireturn, 1) := by decide +kernel
theorem dX12_printed_129 : decode cX12_printed 129 = .ok (.aload_n 0, 1) := by decide +kernel
theorem dX12_printed_130 : decode cX12_printed 130 = .ok (.getfield 351, 3) := by decide +kernel
theorem dX12_printed_133 : decode cX12_printed 133 = .ok (.ifCond .eq 7, 3) := by decide +kernel
theorem dX12_printed_136 : decode cX12_printed 136 = .ok (.iconst 1, 1) := by decide +kernel
theorem dX12_printed_137 : decode cX12_printed 137 = .ok (.goto 4, 3) := by decide +kernel
theorem dX12_printed_140 : decode cX12_printed 140 = .ok (.iconst 0, 1) := by decide +kernel
theorem dX12_printed_141 : decode cX12_printed 141 = .ok (.ireturn, 1) := by decide +kernel
theorem dX12_printed_142 : decode cX12_printed 142 = .ok (.aload_n 0, 1) := by decide +kernel
theorem dX12_printed_143 : decode cX12_printed 143 = .ok (.getfield 357, 3) := by decide +kernel
theorem dX12_printed_146 : decode cX12_printed 146 = .ok (.iconst (-1), 1) := by decide +kernel
theorem dX12_printed_147 : decode cX12_printed 147 = .ok (.if_icmp .ne 8, 3) := by decide +kernel
theorem dX12_printed_150 : decode cX12_printed 150 = .ok (.bipush (-2), 2) := by decide +kernel
theorem dX12_printed_152 : decode cX12_printed 152 = .ok (.goto 7, 3) := by decide +kernel
theorem dX12_printed_155 : decode cX12_printed 155 = .ok (.aload_n 0, 1) := by decide +kernel
theorem dX12_printed_156 : decode cX12_printed 156 = .ok (.getfield 357, 3) := by decide +kernel
theorem dX12_printed_159 : decode cX12_printed 159 = .ok (.ireturn, 1) := by decide +kernel
theorem dX12_printed_160 : decode cX12_printed 160 = .ok (.aload_n 0, 1) := by decide +kernel
theorem dX12_printed_161 : decode cX12_printed 161 = .ok (.getfield 345, 3) := by decide +kernel
theorem dX12_printed_164 : decode cX12_printed 164 = .ok (.iconst (-1), 1) := by decide +kernel
theorem dX12_printed_165 : decode cX12_printed 165 = .ok (.if_icmp .ne 8, 3) := by decide +kernel
theorem dX12_printed_168 : decode cX12_printed 168 = .ok (.bipush (-2), 2) := by decide +kernel
theorem dX12_printed_170 : decode cX12_printed 170 = .ok (.goto 7, 3) := by decide +kernel
theorem dX12_printed_173 : decode cX12_printed 173 = .ok (.aload_n 0, 1) := by decide +kernel
theorem dX12_printed_174 : decode cX12_printed 174 = .ok (.getfield 345, 3) := by decide +kernel
theorem dX12_printed_177 : decode cX12_printed 177 = .ok (.ireturn, 1) := by decide +kernel
theorem dX12_printed_178 : decode cX12_printed 178 = .ok (.aload_n 0, 1) := by decide +kernel
theorem dX12_printed_179 : decode cX12_printed 179 = .ok (.getfield 336, 3) := by decide +kernel
theorem dX12_printed_182 : decode cX12_printed 182 = .ok (.ireturn, 1) := by decide +kernel
theorem dX12_isMend_0 : decode cX12_isMend 0 = .ok (.aload_n 0, 1) := by decide +kernel
theorem dX12_isMend_1 : decode cX12_isMend 1 = .ok (.iload_n 2, 1) := by decide +kernel
theorem dX12_isMend_2 : decode cX12_isMend 2 = .ok (.invokevirtual 325, 3) := by decide +kernel
theorem dX12_isMend_5 : decode cX12_isMend 5 = .ok (.ifCond .eq 26, 3) := by decide +kernel
theorem dX12_isMend_8 : decode cX12_isMend 8 = .ok (.iload_n 1, 1) := by decide +kernel
theorem dX12_isMend_9 : decode cX12_isMend 9 = .ok (.ifCond .lt 22, 3) := by decide +kernel
theorem dX12_isMend_12 : decode cX12_isMend 12 = .ok (.iload_n 1, 1) := by decide +kernel
theorem dX12_isMend_13 : decode cX12_isMend 13 = .ok (.iload_n 2, 1) := by decide +kernel
theorem dX12_isMend_14 : decode cX12_isMend 14 = .ok (.if_icmp .ge 17, 3) := by decide +kernel
theorem dX12_isMend_17 : decode cX12_isMend 17 = .ok (.aload_n 0, 1) := by decide +kernel
theorem dX12_isMend_18 : decode cX12_isMend 18 = .ok (.getfield 104, 3) := by decide +kernel
theorem dX12_isMend_21 : decode cX12_isMend 21 = .ok (.iload_n 1, 1) := by decide +kernel
theorem dX12_isMend_22 : decode cX12_isMend 22 = .ok (.iaload, 1) := by decide +kernel
theorem dX12_isMend_23 : decode cX12_isMend 23 = .ok (.iconst 4, 1) := by decide +kernel
theorem dX12_isMend_24 : decode cX12_isMend 24 = .ok (.if_icmp .ne 7, 3) := by decide +kernel
theorem dX12_isMend_27 : decode cX12_isMend 27 = .ok (.iconst 1, 1) := by decide +kernel
theorem dX12_isMend_28 : decode cX12_isMend 28 = .ok (.goto 4, 3) := by decide +kernel
theorem dX12_isMend_31 : decode cX12_isMend 31 = .ok (.iconst 0, 1) := by decide +kernel
theorem dX12_isMend_32 : decode cX12_isMend 32 = .ok (.ireturn, 1) := by decide +kernel
theorem dX12_mendOf_0 : decode cX12_mendOf 0 = .ok (.aload_n 0, 1) := by decide +kernel
theorem dX12_mendOf_1 : decode cX12_mendOf 1 = .ok (.aload_n 0, 1) := by decide +kernel
theorem dX12_mendOf_2 : decode cX12_mendOf 2 = .ok (.getfield 110, 3) := by decide +kernel
theorem dX12_mendOf_5 : decode cX12_mendOf 5 = .ok (.iload_n 1, 1) := by decide +kernel
theorem dX12_mendOf_6 : decode cX12_mendOf 6 = .ok (.iaload, 1) := by decide +kernel
theorem dX12_mendOf_7 : decode cX12_mendOf 7 = .ok (.aload_n 0, 1) := by decide +kernel
theorem dX12_mendOf_8 : decode cX12_mendOf 8 = .ok (.getfield 107, 3) := by decide +kernel
theorem dX12_mendOf_11 : decode cX12_mendOf 11 = .ok (.iload_n 1, 1) := by decide +kernel
theorem dX12_mendOf_12 : decode cX12_mendOf 12 = .ok (.iaload, 1) := by decide +kernel
theorem dX12_mendOf_13 : decode cX12_mendOf 13 = .ok (.iload_n 2, 1) := by decide +kernel
theorem dX12_mendOf_14 : decode cX12_mendOf 14 = .ok (.iload_n 1, 1) := by decide +kernel
theorem dX12_mendOf_15 : decode cX12_mendOf 15 = .ok (.invokevirtual 360, 3) := by decide +kernel
theorem dX12_mendOf_18 : decode cX12_mendOf 18 = .ok (.aload_n 0, 1) := by decide +kernel
theorem dX12_mendOf_19 : decode cX12_mendOf 19 = .ok (.iload_n 1, 1) := by decide +kernel
theorem dX12_mendOf_20 : decode cX12_mendOf 20 = .ok (.iload_n 2, 1) := by decide +kernel
theorem dX12_mendOf_21 : decode cX12_mendOf 21 = .ok (.invokevirtual 348, 3) := by decide +kernel
theorem dX12_mendOf_24 : decode cX12_mendOf 24 = .ok (.ireturn, 1) := by decide +kernel
theorem dX12_mended_0 : decode cX12_mended 0 = .ok (.aload_n 0, 1) := by decide +kernel
theorem dX12_mended_1 : decode cX12_mended 1 = .ok (.iload_n 1, 1) := by decide +kernel
theorem dX12_mended_2 : decode cX12_mended 2 = .ok (.iload_n 2, 1) := by decide +kernel
theorem dX12_mended_3 : decode cX12_mended 3 = .ok (.invokevirtual 364, 3) := by decide +kernel
theorem dX12_mended_6 : decode cX12_mended 6 = .ok (.ifCond .eq 12, 3) := by decide +kernel
theorem dX12_mended_9 : decode cX12_mended 9 = .ok (.aload_n 0, 1) := by decide +kernel
theorem dX12_mended_10 : decode cX12_mended 10 = .ok (.iload_n 1, 1) := by decide +kernel
theorem dX12_mended_11 : decode cX12_mended 11 = .ok (.iload_n 2, 1) := by decide +kernel
theorem dX12_mended_12 : decode cX12_mended 12 = .ok (.invokevirtual 367, 3) := by decide +kernel
theorem dX12_mended_15 : decode cX12_mended 15 = .ok (.goto 4, 3) := by decide +kernel
theorem dX12_mended_18 : decode cX12_mended 18 = .ok (.iconst (-1), 1) := by decide +kernel
theorem dX12_mended_19 : decode cX12_mended 19 = .ok (.ireturn, 1) := by decide +kernel
theorem dX12_bar_0 : decode cX12_bar 0 = .ok (.aload_n 0, 1) := by decide +kernel
theorem dX12_bar_1 : decode cX12_bar 1 = .ok (.iload_n 1, 1) := by decide +kernel
theorem dX12_bar_2 : decode cX12_bar 2 = .ok (.iload_n 2, 1) := by decide +kernel
theorem dX12_bar_3 : decode cX12_bar 3 = .ok (.invokevirtual 364, 3) := by decide +kernel
theorem dX12_bar_6 : decode cX12_bar 6 = .ok (.ifCond .eq 21, 3) := by decide +kernel
theorem dX12_bar_9 : decode cX12_bar 9 = .ok (.aload_n 0, 1) := by decide +kernel
theorem dX12_bar_10 : decode cX12_bar 10 = .ok (.iload_n 1, 1) := by decide +kernel
theorem dX12_bar_11 : decode cX12_bar 11 = .ok (.iload_n 2, 1) := by decide +kernel
theorem dX12_bar_12 : decode cX12_bar 12 = .ok (.invokevirtual 367, 3) := by decide +kernel
theorem dX12_bar_15 : decode cX12_bar 15 = .ok (.iconst 4, 1) := by decide +kernel
theorem dX12_bar_16 : decode cX12_bar 16 = .ok (.if_icmp .ne 11, 3) := by decide +kernel
theorem dX12_bar_19 : decode cX12_bar 19 = .ok (.aload_n 0, 1) := by decide +kernel
theorem dX12_bar_20 : decode cX12_bar 20 = .ok (.iconst 2, 1) := by decide +kernel
theorem dX12_bar_21 : decode cX12_bar 21 = .ok (.invokevirtual 339, 3) := by decide +kernel
theorem dX12_bar_24 : decode cX12_bar 24 = .ok (.goto 4, 3) := by decide +kernel
theorem dX12_bar_27 : decode cX12_bar 27 = .ok (.iconst (-1), 1) := by decide +kernel
theorem dX12_bar_28 : decode cX12_bar 28 = .ok (.ireturn, 1) := by decide +kernel
theorem dX12_stands_0 : decode cX12_stands 0 = .ok (.aload_n 0, 1) := by decide +kernel
theorem dX12_stands_1 : decode cX12_stands 1 = .ok (.iconst 0, 1) := by decide +kernel
theorem dX12_stands_2 : decode cX12_stands 2 = .ok (.putfield 370, 3) := by decide +kernel
theorem dX12_stands_5 : decode cX12_stands 5 = .ok (.iconst 0, 1) := by decide +kernel
theorem dX12_stands_6 : decode cX12_stands 6 = .ok (.istore_n 3, 1) := by decide +kernel
theorem dX12_stands_7 : decode cX12_stands 7 = .ok (.iload_n 3, 1) := by decide +kernel
theorem dX12_stands_8 : decode cX12_stands 8 = .ok (.iload_n 2, 1) := by decide +kernel
theorem dX12_stands_9 : decode cX12_stands 9 = .ok (.if_icmp .ge 105, 3) := by decide +kernel
theorem dX12_stands_12 : decode cX12_stands 12 = .ok (.aload_n 0, 1) := by decide +kernel
theorem dX12_stands_13 : decode cX12_stands 13 = .ok (.getfield 104, 3) := by decide +kernel
theorem dX12_stands_16 : decode cX12_stands 16 = .ok (.iload_n 3, 1) := by decide +kernel
theorem dX12_stands_17 : decode cX12_stands 17 = .ok (.iaload, 1) := by decide +kernel
theorem dX12_stands_18 : decode cX12_stands 18 = .ok (.ifCond .ne 90, 3) := by decide +kernel
theorem dX12_stands_21 : decode cX12_stands 21 = .ok (.aload_n 0, 1) := by decide +kernel
theorem dX12_stands_22 : decode cX12_stands 22 = .ok (.getfield 107, 3) := by decide +kernel
theorem dX12_stands_25 : decode cX12_stands 25 = .ok (.iload_n 3, 1) := by decide +kernel
theorem dX12_stands_26 : decode cX12_stands 26 = .ok (.iaload, 1) := by decide +kernel
theorem dX12_stands_27 : decode cX12_stands 27 = .ok (.iload_n 1, 1) := by decide +kernel
theorem dX12_stands_28 : decode cX12_stands 28 = .ok (.if_icmp .eq 6, 3) := by decide +kernel
theorem dX12_stands_31 : decode cX12_stands 31 = .ok (.goto 77, 3) := by decide +kernel
theorem dX12_stands_34 : decode cX12_stands 34 = .ok (.aload_n 0, 1) := by decide +kernel
theorem dX12_stands_35 : decode cX12_stands 35 = .ok (.getfield 370, 3) := by decide +kernel
theorem dX12_stands_38 : decode cX12_stands 38 = .ok (.istore 4, 2) := by decide +kernel
theorem dX12_stands_40 : decode cX12_stands 40 = .ok (.iload 4, 2) := by decide +kernel
theorem dX12_stands_42 : decode cX12_stands 42 = .ok (.ifCond .le 48, 3) := by decide +kernel
theorem dX12_stands_45 : decode cX12_stands 45 = .ok (.aload_n 0, 1) := by decide +kernel
theorem dX12_stands_46 : decode cX12_stands 46 = .ok (.getfield 110, 3) := by decide +kernel
theorem dX12_stands_49 : decode cX12_stands 49 = .ok (.aload_n 0, 1) := by decide +kernel
theorem dX12_stands_50 : decode cX12_stands 50 = .ok (.getfield 128, 3) := by decide +kernel
theorem dX12_stands_53 : decode cX12_stands 53 = .ok (.iload 4, 2) := by decide +kernel
theorem dX12_stands_55 : decode cX12_stands 55 = .ok (.iconst 1, 1) := by decide +kernel
theorem dX12_stands_56 : decode cX12_stands 56 = .ok (.isub, 1) := by decide +kernel
theorem dX12_stands_57 : decode cX12_stands 57 = .ok (.iaload, 1) := by decide +kernel
theorem dX12_stands_58 : decode cX12_stands 58 = .ok (.iaload, 1) := by decide +kernel
theorem dX12_stands_59 : decode cX12_stands 59 = .ok (.aload_n 0, 1) := by decide +kernel
theorem dX12_stands_60 : decode cX12_stands 60 = .ok (.getfield 110, 3) := by decide +kernel
theorem dX12_stands_63 : decode cX12_stands 63 = .ok (.iload_n 3, 1) := by decide +kernel
theorem dX12_stands_64 : decode cX12_stands 64 = .ok (.iaload, 1) := by decide +kernel
theorem dX12_stands_65 : decode cX12_stands 65 = .ok (.if_icmp .le 25, 3) := by decide +kernel
theorem dX12_stands_68 : decode cX12_stands 68 = .ok (.aload_n 0, 1) := by decide +kernel
theorem dX12_stands_69 : decode cX12_stands 69 = .ok (.getfield 128, 3) := by decide +kernel
theorem dX12_stands_72 : decode cX12_stands 72 = .ok (.iload 4, 2) := by decide +kernel
theorem dX12_stands_74 : decode cX12_stands 74 = .ok (.aload_n 0, 1) := by decide +kernel
theorem dX12_stands_75 : decode cX12_stands 75 = .ok (.getfield 128, 3) := by decide +kernel
theorem dX12_stands_78 : decode cX12_stands 78 = .ok (.iload 4, 2) := by decide +kernel
theorem dX12_stands_80 : decode cX12_stands 80 = .ok (.iconst 1, 1) := by decide +kernel
theorem dX12_stands_81 : decode cX12_stands 81 = .ok (.isub, 1) := by decide +kernel
theorem dX12_stands_82 : decode cX12_stands 82 = .ok (.iaload, 1) := by decide +kernel
theorem dX12_stands_83 : decode cX12_stands 83 = .ok (.iastore, 1) := by decide +kernel
theorem dX12_stands_84 : decode cX12_stands 84 = .ok (.iinc 4 (-1), 3) := by decide +kernel
theorem dX12_stands_87 : decode cX12_stands 87 = .ok (.goto (-47), 3) := by decide +kernel
theorem dX12_stands_90 : decode cX12_stands 90 = .ok (.aload_n 0, 1) := by decide +kernel
theorem dX12_stands_91 : decode cX12_stands 91 = .ok (.getfield 128, 3) := by decide +kernel
theorem dX12_stands_94 : decode cX12_stands 94 = .ok (.iload 4, 2) := by decide +kernel
theorem dX12_stands_96 : decode cX12_stands 96 = .ok (.iload_n 3, 1) := by decide +kernel
theorem dX12_stands_97 : decode cX12_stands 97 = .ok (.iastore, 1) := by decide +kernel
theorem dX12_stands_98 : decode cX12_stands 98 = .ok (.aload_n 0, 1) := by decide +kernel
theorem dX12_stands_99 : decode cX12_stands 99 = .ok (.dup, 1) := by decide +kernel
theorem dX12_stands_100 : decode cX12_stands 100 = .ok (.getfield 370, 3) := by decide +kernel
theorem dX12_stands_103 : decode cX12_stands 103 = .ok (.iconst 1, 1) := by decide +kernel
theorem dX12_stands_104 : decode cX12_stands 104 = .ok (.iadd, 1) := by decide +kernel
theorem dX12_stands_105 : decode cX12_stands 105 = .ok (.putfield 370, 3) := by decide +kernel
theorem dX12_stands_108 : decode cX12_stands 108 = .ok (.iinc 3 1, 3) := by decide +kernel
theorem dX12_stands_111 : decode cX12_stands 111 = .ok (.goto (-104), 3) := by decide +kernel
theorem dX12_stands_114 : decode cX12_stands 114 = .ok (.return_, 1) := by decide +kernel
theorem dX12_isPrint_0 : decode cX12_isPrint 0 = .ok (.iload_n 1, 1) := by decide +kernel
theorem dX12_isPrint_1 : decode cX12_isPrint 1 = .ok (.invokestatic 292, 3) := by decide +kernel
theorem dX12_isPrint_4 : decode cX12_isPrint 4 = .ok (.ifCond .eq 27, 3) := by decide +kernel
theorem dX12_isPrint_7 : decode cX12_isPrint 7 = .ok (.iload_n 2, 1) := by decide +kernel
theorem dX12_isPrint_8 : decode cX12_isPrint 8 = .ok (.invokestatic 292, 3) := by decide +kernel
theorem dX12_isPrint_11 : decode cX12_isPrint 11 = .ok (.ifCond .eq 20, 3) := by decide +kernel
theorem dX12_isPrint_14 : decode cX12_isPrint 14 = .ok (.iload_n 2, 1) := by decide +kernel
theorem dX12_isPrint_15 : decode cX12_isPrint 15 = .ok (.iload_n 1, 1) := by decide +kernel
theorem dX12_isPrint_16 : decode cX12_isPrint 16 = .ok (.if_icmp .lt 15, 3) := by decide +kernel
theorem dX12_isPrint_19 : decode cX12_isPrint 19 = .ok (.aload_n 0, 1) := by decide +kernel
theorem dX12_isPrint_20 : decode cX12_isPrint 20 = .ok (.iload_n 3, 1) := by decide +kernel
theorem dX12_isPrint_21 : decode cX12_isPrint 21 = .ok (.invokevirtual 325, 3) := by decide +kernel
theorem dX12_isPrint_24 : decode cX12_isPrint 24 = .ok (.ifCond .eq 7, 3) := by decide +kernel
theorem dX12_isPrint_27 : decode cX12_isPrint 27 = .ok (.iconst 1, 1) := by decide +kernel
theorem dX12_isPrint_28 : decode cX12_isPrint 28 = .ok (.goto 4, 3) := by decide +kernel
theorem dX12_isPrint_31 : decode cX12_isPrint 31 = .ok (.iconst 0, 1) := by decide +kernel
theorem dX12_isPrint_32 : decode cX12_isPrint 32 = .ok (.ireturn, 1) := by decide +kernel
theorem dX12_printAt_0 : decode cX12_printAt 0 = .ok (.aload_n 0, 1) := by decide +kernel
theorem dX12_printAt_1 : decode cX12_printAt 1 = .ok (.iload_n 1, 1) := by decide +kernel
theorem dX12_printAt_2 : decode cX12_printAt 2 = .ok (.iload_n 3, 1) := by decide +kernel
theorem dX12_printAt_3 : decode cX12_printAt 3 = .ok (.invokevirtual 373, 3) := by decide +kernel
theorem dX12_printAt_6 : decode cX12_printAt 6 = .ok (.iconst (-1), 1) := by decide +kernel
theorem dX12_printAt_7 : decode cX12_printAt 7 = .ok (.istore 5, 2) := by decide +kernel
theorem dX12_printAt_9 : decode cX12_printAt 9 = .ok (.aload_n 0, 1) := by decide +kernel
theorem dX12_printAt_10 : decode cX12_printAt 10 = .ok (.iconst 0, 1) := by decide +kernel
theorem dX12_printAt_11 : decode cX12_printAt 11 = .ok (.putfield 376, 3) := by decide +kernel
theorem dX12_printAt_14 : decode cX12_printAt 14 = .ok (.iconst 0, 1) := by decide +kernel
theorem dX12_printAt_15 : decode cX12_printAt 15 = .ok (.istore 6, 2) := by decide +kernel
theorem dX12_printAt_17 : decode cX12_printAt 17 = .ok (.iload 6, 2) := by decide +kernel
theorem dX12_printAt_19 : decode cX12_printAt 19 = .ok (.aload_n 0, 1) := by decide +kernel
theorem dX12_printAt_20 : decode cX12_printAt 20 = .ok (.getfield 370, 3) := by decide +kernel
theorem dX12_printAt_23 : decode cX12_printAt 23 = .ok (.if_icmp .ge 62, 3) := by decide +kernel
theorem dX12_printAt_26 : decode cX12_printAt 26 = .ok (.aload_n 0, 1) := by decide +kernel
theorem dX12_printAt_27 : decode cX12_printAt 27 = .ok (.aload_n 0, 1) := by decide +kernel
theorem dX12_printAt_28 : decode cX12_printAt 28 = .ok (.getfield 128, 3) := by decide +kernel
theorem dX12_printAt_31 : decode cX12_printAt 31 = .ok (.iload 6, 2) := by decide +kernel
theorem dX12_printAt_33 : decode cX12_printAt 33 = .ok (.iaload, 1) := by decide +kernel
theorem dX12_printAt_34 : decode cX12_printAt 34 = .ok (.iload_n 2, 1) := by decide +kernel
theorem dX12_printAt_35 : decode cX12_printAt 35 = .ok (.iload_n 3, 1) := by decide +kernel
theorem dX12_printAt_36 : decode cX12_printAt 36 = .ok (.iload_n 3, 1) := by decide +kernel
theorem dX12_printAt_37 : decode cX12_printAt 37 = .ok (.invokevirtual 360, 3) := by decide +kernel
theorem dX12_printAt_40 : decode cX12_printAt 40 = .ok (.aload_n 0, 1) := by decide +kernel
theorem dX12_printAt_41 : decode cX12_printAt 41 = .ok (.getfield 357, 3) := by decide +kernel
theorem dX12_printAt_44 : decode cX12_printAt 44 = .ok (.iconst (-1), 1) := by decide +kernel
theorem dX12_printAt_45 : decode cX12_printAt 45 = .ok (.if_icmp .eq 6, 3) := by decide +kernel
theorem dX12_printAt_48 : decode cX12_printAt 48 = .ok (.goto 31, 3) := by decide +kernel
theorem dX12_printAt_51 : decode cX12_printAt 51 = .ok (.aload_n 0, 1) := by decide +kernel
theorem dX12_printAt_52 : decode cX12_printAt 52 = .ok (.getfield 376, 3) := by decide +kernel
theorem dX12_printAt_55 : decode cX12_printAt 55 = .ok (.iload 4, 2) := by decide +kernel
theorem dX12_printAt_57 : decode cX12_printAt 57 = .ok (.if_icmp .ne 12, 3) := by decide +kernel
theorem dX12_printAt_60 : decode cX12_printAt 60 = .ok (.aload_n 0, 1) := by decide +kernel
theorem dX12_printAt_61 : decode cX12_printAt 61 = .ok (.getfield 128, 3) := by decide +kernel
theorem dX12_printAt_64 : decode cX12_printAt 64 = .ok (.iload 6, 2) := by decide +kernel
theorem dX12_printAt_66 : decode cX12_printAt 66 = .ok (.iaload, 1) := by decide +kernel
theorem dX12_printAt_67 : decode cX12_printAt 67 = .ok (.istore 5, 2) := by decide +kernel
theorem dX12_printAt_69 : decode cX12_printAt 69 = .ok (.aload_n 0, 1) := by decide +kernel
theorem dX12_printAt_70 : decode cX12_printAt 70 = .ok (.dup, 1) := by decide +kernel
theorem dX12_printAt_71 : decode cX12_printAt 71 = .ok (.getfield 376, 3) := by decide +kernel
theorem dX12_printAt_74 : decode cX12_printAt 74 = .ok (.iconst 1, 1) := by decide +kernel
theorem dX12_printAt_75 : decode cX12_printAt 75 = .ok (.iadd, 1) := by decide +kernel
theorem dX12_printAt_76 : decode cX12_printAt 76 = .ok (.putfield 376, 3) := by decide +kernel
theorem dX12_printAt_79 : decode cX12_printAt 79 = .ok (.iinc 6 1, 3) := by decide +kernel
theorem dX12_printAt_82 : decode cX12_printAt 82 = .ok (.goto (-65), 3) := by decide +kernel
theorem dX12_printAt_85 : decode cX12_printAt 85 = .ok (.iload 5, 2) := by decide +kernel
theorem dX12_printAt_87 : decode cX12_printAt 87 = .ok (.ireturn, 1) := by decide +kernel
theorem dX12_lines_0 : decode cX12_lines 0 = .ok (.aload_n 0, 1) := by decide +kernel
theorem dX12_lines_1 : decode cX12_lines 1 = .ok (.iload_n 1, 1) := by decide +kernel
theorem dX12_lines_2 : decode cX12_lines 2 = .ok (.iload_n 2, 1) := by decide +kernel
theorem dX12_lines_3 : decode cX12_lines 3 = .ok (.iload_n 3, 1) := by decide +kernel
theorem dX12_lines_4 : decode cX12_lines 4 = .ok (.invokevirtual 379, 3) := by decide +kernel
theorem dX12_lines_7 : decode cX12_lines 7 = .ok (.ifCond .ne 5, 3) := by decide +kernel
theorem dX12_lines_10 : decode cX12_lines 10 = .ok (.iconst (-1), 1) := by decide +kernel
theorem dX12_lines_11 : decode cX12_lines 11 = .ok (.ireturn, 1) := by decide +kernel
theorem dX12_lines_12 : decode cX12_lines 12 = .ok (.aload_n 0, 1) := by decide +kernel
theorem dX12_lines_13 : decode cX12_lines 13 = .ok (.iload_n 1, 1) := by decide +kernel
theorem dX12_lines_14 : decode cX12_lines 14 = .ok (.iload_n 2, 1) := by decide +kernel
theorem dX12_lines_15 : decode cX12_lines 15 = .ok (.iload_n 3, 1) := by decide +kernel
theorem dX12_lines_16 : decode cX12_lines 16 = .ok (.iconst (-1), 1) := by decide +kernel
theorem dX12_lines_17 : decode cX12_lines 17 = .ok (.invokevirtual 382, 3) := by decide +kernel
theorem dX12_lines_20 : decode cX12_lines 20 = .ok (.istore 4, 2) := by decide +kernel
theorem dX12_lines_22 : decode cX12_lines 22 = .ok (.iload 4, 2) := by decide +kernel
theorem dX12_lines_24 : decode cX12_lines 24 = .ok (.iconst (-1), 1) := by decide +kernel
theorem dX12_lines_25 : decode cX12_lines 25 = .ok (.if_icmp .ne 10, 3) := by decide +kernel
theorem dX12_lines_28 : decode cX12_lines 28 = .ok (.aload_n 0, 1) := by decide +kernel
theorem dX12_lines_29 : decode cX12_lines 29 = .ok (.getfield 376, 3) := by decide +kernel
theorem dX12_lines_32 : decode cX12_lines 32 = .ok (.goto 4, 3) := by decide +kernel
theorem dX12_lines_35 : decode cX12_lines 35 = .ok (.iconst (-1), 1) := by decide +kernel
theorem dX12_lines_36 : decode cX12_lines 36 = .ok (.ireturn, 1) := by decide +kernel
theorem dX12_at_0 : decode cX12_at 0 = .ok (.aload_n 0, 1) := by decide +kernel
theorem dX12_at_1 : decode cX12_at 1 = .ok (.iload_n 1, 1) := by decide +kernel
theorem dX12_at_2 : decode cX12_at 2 = .ok (.iload_n 2, 1) := by decide +kernel
theorem dX12_at_3 : decode cX12_at 3 = .ok (.iload_n 3, 1) := by decide +kernel
theorem dX12_at_4 : decode cX12_at 4 = .ok (.invokevirtual 379, 3) := by decide +kernel
theorem dX12_at_7 : decode cX12_at 7 = .ok (.ifCond .eq 8, 3) := by decide +kernel
theorem dX12_at_10 : decode cX12_at 10 = .ok (.iload 4, 2) := by decide +kernel
theorem dX12_at_12 : decode cX12_at 12 = .ok (.ifCond .ge 7, 3) := by decide +kernel
theorem dX12_at_15 : decode cX12_at 15 = .ok (.iconst (-1), 1) := by decide +kernel
theorem dX12_at_16 : decode cX12_at 16 = .ok (.goto 12, 3) := by decide +kernel
theorem dX12_at_19 : decode cX12_at 19 = .ok (.aload_n 0, 1) := by decide +kernel
theorem dX12_at_20 : decode cX12_at 20 = .ok (.iload_n 1, 1) := by decide +kernel
theorem dX12_at_21 : decode cX12_at 21 = .ok (.iload_n 2, 1) := by decide +kernel
theorem dX12_at_22 : decode cX12_at 22 = .ok (.iload_n 3, 1) := by decide +kernel
theorem dX12_at_23 : decode cX12_at 23 = .ok (.iload 4, 2) := by decide +kernel
theorem dX12_at_25 : decode cX12_at 25 = .ok (.invokevirtual 382, 3) := by decide +kernel
theorem dX12_at_28 : decode cX12_at 28 = .ok (.ireturn, 1) := by decide +kernel
theorem dX12_court_0 : decode cX12_court 0 = .ok (.aload_n 0, 1) := by decide +kernel
theorem dX12_court_1 : decode cX12_court 1 = .ok (.iload_n 2, 1) := by decide +kernel
theorem dX12_court_2 : decode cX12_court 2 = .ok (.invokevirtual 325, 3) := by decide +kernel
theorem dX12_court_5 : decode cX12_court 5 = .ok (.ifCond .eq 32, 3) := by decide +kernel
theorem dX12_court_8 : decode cX12_court 8 = .ok (.iload_n 1, 1) := by decide +kernel
theorem dX12_court_9 : decode cX12_court 9 = .ok (.ifCond .lt 28, 3) := by decide +kernel
theorem dX12_court_12 : decode cX12_court 12 = .ok (.iload_n 1, 1) := by decide +kernel
theorem dX12_court_13 : decode cX12_court 13 = .ok (.iload_n 2, 1) := by decide +kernel
theorem dX12_court_14 : decode cX12_court 14 = .ok (.if_icmp .ge 23, 3) := by decide +kernel
theorem dX12_court_17 : decode cX12_court 17 = .ok (.aload_n 0, 1) := by decide +kernel
theorem dX12_court_18 : decode cX12_court 18 = .ok (.getfield 104, 3) := by decide +kernel
theorem dX12_court_21 : decode cX12_court 21 = .ok (.iload_n 1, 1) := by decide +kernel
theorem dX12_court_22 : decode cX12_court 22 = .ok (.iaload, 1) := by decide +kernel
theorem dX12_court_23 : decode cX12_court 23 = .ok (.bipush 7, 2) := by decide +kernel
theorem dX12_court_25 : decode cX12_court 25 = .ok (.if_icmp .ne 12, 3) := by decide +kernel
theorem dX12_court_28 : decode cX12_court 28 = .ok (.iload_n 3, 1) := by decide +kernel
theorem dX12_court_29 : decode cX12_court 29 = .ok (.iconst 0, 1) := by decide +kernel
theorem dX12_court_30 : decode cX12_court 30 = .ok (.iconst 2, 1) := by decide +kernel
theorem dX12_court_31 : decode cX12_court 31 = .ok (.invokestatic 288, 3) := by decide +kernel
theorem dX12_court_34 : decode cX12_court 34 = .ok (.ifCond .ne 5, 3) := by decide +kernel
theorem dX12_court_37 : decode cX12_court 37 = .ok (.iconst (-1), 1) := by decide +kernel
theorem dX12_court_38 : decode cX12_court 38 = .ok (.ireturn, 1) := by decide +kernel
theorem dX12_court_39 : decode cX12_court 39 = .ok (.aload_n 0, 1) := by decide +kernel
theorem dX12_court_40 : decode cX12_court 40 = .ok (.aload_n 0, 1) := by decide +kernel
theorem dX12_court_41 : decode cX12_court 41 = .ok (.getfield 110, 3) := by decide +kernel
theorem dX12_court_44 : decode cX12_court 44 = .ok (.iload_n 1, 1) := by decide +kernel
theorem dX12_court_45 : decode cX12_court 45 = .ok (.iaload, 1) := by decide +kernel
theorem dX12_court_46 : decode cX12_court 46 = .ok (.aload_n 0, 1) := by decide +kernel
theorem dX12_court_47 : decode cX12_court 47 = .ok (.getfield 107, 3) := by decide +kernel
theorem dX12_court_50 : decode cX12_court 50 = .ok (.iload_n 1, 1) := by decide +kernel
theorem dX12_court_51 : decode cX12_court 51 = .ok (.iaload, 1) := by decide +kernel
theorem dX12_court_52 : decode cX12_court 52 = .ok (.iload_n 3, 1) := by decide +kernel
theorem dX12_court_53 : decode cX12_court 53 = .ok (.iconst 2, 1) := by decide +kernel
theorem dX12_court_54 : decode cX12_court 54 = .ok (.if_icmp .ne 7, 3) := by decide +kernel
theorem dX12_court_57 : decode cX12_court 57 = .ok (.iload_n 2, 1) := by decide +kernel
theorem dX12_court_58 : decode cX12_court 58 = .ok (.goto 4, 3) := by decide +kernel
theorem dX12_court_61 : decode cX12_court 61 = .ok (.iload_n 1, 1) := by decide +kernel
theorem dX12_court_62 : decode cX12_court 62 = .ok (.iload_n 3, 1) := by decide +kernel
theorem dX12_court_63 : decode cX12_court 63 = .ok (.iconst 2, 1) := by decide +kernel
theorem dX12_court_64 : decode cX12_court 64 = .ok (.if_icmp .ne 7, 3) := by decide +kernel
theorem dX12_court_67 : decode cX12_court 67 = .ok (.iload_n 2, 1) := by decide +kernel
theorem dX12_court_68 : decode cX12_court 68 = .ok (.goto 4, 3) := by decide +kernel
theorem dX12_court_71 : decode cX12_court 71 = .ok (.iload_n 1, 1) := by decide +kernel
theorem dX12_court_72 : decode cX12_court 72 = .ok (.invokevirtual 360, 3) := by decide +kernel
theorem dX12_court_75 : decode cX12_court 75 = .ok (.iload_n 3, 1) := by decide +kernel
theorem dX12_court_76 : decode cX12_court 76 = .ok (.iconst 1, 1) := by decide +kernel
theorem dX12_court_77 : decode cX12_court 77 = .ok (.if_icmp .eq 19, 3) := by decide +kernel
theorem dX12_court_80 : decode cX12_court 80 = .ok (.aload_n 0, 1) := by decide +kernel
theorem dX12_court_81 : decode cX12_court 81 = .ok (.getfield 351, 3) := by decide +kernel
theorem dX12_court_84 : decode cX12_court 84 = .ok (.ifCond .eq 7, 3) := by decide +kernel
theorem dX12_court_87 : decode cX12_court 87 = .ok (.iconst 0, 1) := by decide +kernel
theorem dX12_court_88 : decode cX12_court 88 = .ok (.goto 7, 3) := by decide +kernel
theorem dX12_court_91 : decode cX12_court 91 = .ok (.aload_n 0, 1) := by decide +kernel
theorem dX12_court_92 : decode cX12_court 92 = .ok (.getfield 334, 3) := by decide +kernel
theorem dX12_court_95 : decode cX12_court 95 = .ok (.ireturn, 1) := by decide +kernel
theorem dX12_court_96 : decode cX12_court 96 = .ok (.aload_n 0, 1) := by decide +kernel
theorem dX12_court_97 : decode cX12_court 97 = .ok (.aload_n 0, 1) := by decide +kernel
theorem dX12_court_98 : decode cX12_court 98 = .ok (.getfield 110, 3) := by decide +kernel
theorem dX12_court_101 : decode cX12_court 101 = .ok (.iload_n 1, 1) := by decide +kernel
theorem dX12_court_102 : decode cX12_court 102 = .ok (.iaload, 1) := by decide +kernel
theorem dX12_court_103 : decode cX12_court 103 = .ok (.aload_n 0, 1) := by decide +kernel
theorem dX12_court_104 : decode cX12_court 104 = .ok (.getfield 107, 3) := by decide +kernel
theorem dX12_court_107 : decode cX12_court 107 = .ok (.iload_n 1, 1) := by decide +kernel
theorem dX12_court_108 : decode cX12_court 108 = .ok (.iaload, 1) := by decide +kernel
theorem dX12_court_109 : decode cX12_court 109 = .ok (.invokevirtual 354, 3) := by decide +kernel
theorem dX12_court_112 : decode cX12_court 112 = .ok (.aload_n 0, 1) := by decide +kernel
theorem dX12_court_113 : decode cX12_court 113 = .ok (.iconst 4, 1) := by decide +kernel
theorem dX12_court_114 : decode cX12_court 114 = .ok (.invokevirtual 339, 3) := by decide +kernel
theorem dX12_court_117 : decode cX12_court 117 = .ok (.istore 4, 2) := by decide +kernel
theorem dX12_court_119 : decode cX12_court 119 = .ok (.iload 4, 2) := by decide +kernel
theorem dX12_court_121 : decode cX12_court 121 = .ok (.iconst (-1), 1) := by decide +kernel
theorem dX12_court_122 : decode cX12_court 122 = .ok (.if_icmp .ne 8, 3) := by decide +kernel
theorem dX12_court_125 : decode cX12_court 125 = .ok (.bipush (-2), 2) := by decide +kernel
theorem dX12_court_127 : decode cX12_court 127 = .ok (.goto 5, 3) := by decide +kernel
theorem dX12_court_130 : decode cX12_court 130 = .ok (.iload 4, 2) := by decide +kernel
theorem dX12_court_132 : decode cX12_court 132 = .ok (.ireturn, 1) := by decide +kernel
theorem dX12_take_0 : decode cX12_take 0 = .ok (.iload_n 1, 1) := by decide +kernel
theorem dX12_take_1 : decode cX12_take 1 = .ok (.iconst 0, 1) := by decide +kernel
theorem dX12_take_2 : decode cX12_take 2 = .ok (.iconst 2, 1) := by decide +kernel
theorem dX12_take_3 : decode cX12_take 3 = .ok (.invokestatic 288, 3) := by decide +kernel
theorem dX12_take_6 : decode cX12_take 6 = .ok (.ifCond .eq 34, 3) := by decide +kernel
theorem dX12_take_9 : decode cX12_take 9 = .ok (.aload_n 0, 1) := by decide +kernel
theorem dX12_take_10 : decode cX12_take 10 = .ok (.getfield 134, 3) := by decide +kernel
theorem dX12_take_13 : decode cX12_take 13 = .ok (.iload_n 1, 1) := by decide +kernel
theorem dX12_take_14 : decode cX12_take 14 = .ok (.iaload, 1) := by decide +kernel
theorem dX12_take_15 : decode cX12_take 15 = .ok (.bipush 12, 2) := by decide +kernel
theorem dX12_take_17 : decode cX12_take 17 = .ok (.if_icmp .eq 23, 3) := by decide +kernel
theorem dX12_take_20 : decode cX12_take 20 = .ok (.iload_n 2, 1) := by decide +kernel
theorem dX12_take_21 : decode cX12_take 21 = .ok (.iload_n 1, 1) := by decide +kernel
theorem dX12_take_22 : decode cX12_take 22 = .ok (.iconst 2, 1) := by decide +kernel
theorem dX12_take_23 : decode cX12_take 23 = .ok (.if_icmp .ne 7, 3) := by decide +kernel
theorem dX12_take_26 : decode cX12_take 26 = .ok (.iconst 0, 1) := by decide +kernel
theorem dX12_take_27 : decode cX12_take 27 = .ok (.goto 4, 3) := by decide +kernel
theorem dX12_take_30 : decode cX12_take 30 = .ok (.iconst 1, 1) := by decide +kernel
theorem dX12_take_31 : decode cX12_take 31 = .ok (.sipush 999, 3) := by decide +kernel
theorem dX12_take_34 : decode cX12_take 34 = .ok (.invokestatic 288, 3) := by decide +kernel
theorem dX12_take_37 : decode cX12_take 37 = .ok (.ifCond .ne 5, 3) := by decide +kernel
theorem dX12_take_40 : decode cX12_take 40 = .ok (.iconst (-1), 1) := by decide +kernel
theorem dX12_take_41 : decode cX12_take 41 = .ok (.ireturn, 1) := by decide +kernel
theorem dX12_take_42 : decode cX12_take 42 = .ok (.aload_n 0, 1) := by decide +kernel
theorem dX12_take_43 : decode cX12_take 43 = .ok (.getfield 131, 3) := by decide +kernel
theorem dX12_take_46 : decode cX12_take 46 = .ok (.bipush 12, 2) := by decide +kernel
theorem dX12_take_48 : decode cX12_take 48 = .ok (.iload_n 1, 1) := by decide +kernel
theorem dX12_take_49 : decode cX12_take 49 = .ok (.imul, 1) := by decide +kernel
theorem dX12_take_50 : decode cX12_take 50 = .ok (.aload_n 0, 1) := by decide +kernel
theorem dX12_take_51 : decode cX12_take 51 = .ok (.getfield 134, 3) := by decide +kernel
theorem dX12_take_54 : decode cX12_take 54 = .ok (.iload_n 1, 1) := by decide +kernel
theorem dX12_take_55 : decode cX12_take 55 = .ok (.iaload, 1) := by decide +kernel
theorem dX12_take_56 : decode cX12_take 56 = .ok (.iadd, 1) := by decide +kernel
theorem dX12_take_57 : decode cX12_take 57 = .ok (.iload_n 2, 1) := by decide +kernel
theorem dX12_take_58 : decode cX12_take 58 = .ok (.iastore, 1) := by decide +kernel
theorem dX12_take_59 : decode cX12_take 59 = .ok (.aload_n 0, 1) := by decide +kernel
theorem dX12_take_60 : decode cX12_take 60 = .ok (.getfield 134, 3) := by decide +kernel
theorem dX12_take_63 : decode cX12_take 63 = .ok (.iload_n 1, 1) := by decide +kernel
theorem dX12_take_64 : decode cX12_take 64 = .ok (.dup2, 1) := by decide +kernel
theorem dX12_take_65 : decode cX12_take 65 = .ok (.iaload, 1) := by decide +kernel
theorem dX12_take_66 : decode cX12_take 66 = .ok (.iconst 1, 1) := by decide +kernel
theorem dX12_take_67 : decode cX12_take 67 = .ok (.iadd, 1) := by decide +kernel
theorem dX12_take_68 : decode cX12_take 68 = .ok (.iastore, 1) := by decide +kernel
theorem dX12_take_69 : decode cX12_take 69 = .ok (.aload_n 0, 1) := by decide +kernel
theorem dX12_take_70 : decode cX12_take 70 = .ok (.getfield 134, 3) := by decide +kernel
theorem dX12_take_73 : decode cX12_take 73 = .ok (.iload_n 1, 1) := by decide +kernel
theorem dX12_take_74 : decode cX12_take 74 = .ok (.iaload, 1) := by decide +kernel
theorem dX12_take_75 : decode cX12_take 75 = .ok (.ireturn, 1) := by decide +kernel
theorem dX12_clear_0 : decode cX12_clear 0 = .ok (.iconst 0, 1) := by decide +kernel
theorem dX12_clear_1 : decode cX12_clear 1 = .ok (.istore_n 1, 1) := by decide +kernel
theorem dX12_clear_2 : decode cX12_clear 2 = .ok (.iload_n 1, 1) := by decide +kernel
theorem dX12_clear_3 : decode cX12_clear 3 = .ok (.iconst 3, 1) := by decide +kernel
theorem dX12_clear_4 : decode cX12_clear 4 = .ok (.if_icmp .ge 16, 3) := by decide +kernel
theorem dX12_clear_7 : decode cX12_clear 7 = .ok (.aload_n 0, 1) := by decide +kernel
theorem dX12_clear_8 : decode cX12_clear 8 = .ok (.getfield 134, 3) := by decide +kernel
theorem dX12_clear_11 : decode cX12_clear 11 = .ok (.iload_n 1, 1) := by decide +kernel
theorem dX12_clear_12 : decode cX12_clear 12 = .ok (.iconst 0, 1) := by decide +kernel
theorem dX12_clear_13 : decode cX12_clear 13 = .ok (.iastore, 1) := by decide +kernel
theorem dX12_clear_14 : decode cX12_clear 14 = .ok (.iinc 1 1, 3) := by decide +kernel
theorem dX12_clear_17 : decode cX12_clear 17 = .ok (.goto (-15), 3) := by decide +kernel
theorem dX12_clear_20 : decode cX12_clear 20 = .ok (.return_, 1) := by decide +kernel
theorem dX12_joins_0 : decode cX12_joins 0 = .ok (.iconst 0, 1) := by decide +kernel
theorem dX12_joins_1 : decode cX12_joins 1 = .ok (.istore_n 2, 1) := by decide +kernel
theorem dX12_joins_2 : decode cX12_joins 2 = .ok (.iconst 0, 1) := by decide +kernel
theorem dX12_joins_3 : decode cX12_joins 3 = .ok (.istore_n 3, 1) := by decide +kernel
theorem dX12_joins_4 : decode cX12_joins 4 = .ok (.iload_n 3, 1) := by decide +kernel
theorem dX12_joins_5 : decode cX12_joins 5 = .ok (.iload_n 1, 1) := by decide +kernel
theorem dX12_joins_6 : decode cX12_joins 6 = .ok (.if_icmp .ge 39, 3) := by decide +kernel
theorem dX12_joins_9 : decode cX12_joins 9 = .ok (.aload_n 0, 1) := by decide +kernel
theorem dX12_joins_10 : decode cX12_joins 10 = .ok (.getfield 131, 3) := by decide +kernel
theorem dX12_joins_13 : decode cX12_joins 13 = .ok (.aload_n 0, 1) := by decide +kernel
theorem dX12_joins_14 : decode cX12_joins 14 = .ok (.getfield 134, 3) := by decide +kernel
theorem dX12_joins_17 : decode cX12_joins 17 = .ok (.iconst 0, 1) := by decide +kernel
theorem dX12_joins_18 : decode cX12_joins 18 = .ok (.iaload, 1) := by decide +kernel
theorem dX12_joins_19 : decode cX12_joins 19 = .ok (.iload_n 1, 1) := by decide +kernel
theorem dX12_joins_20 : decode cX12_joins 20 = .ok (.isub, 1) := by decide +kernel
theorem dX12_joins_21 : decode cX12_joins 21 = .ok (.iload_n 3, 1) := by decide +kernel
theorem dX12_joins_22 : decode cX12_joins 22 = .ok (.iadd, 1) := by decide +kernel
theorem dX12_joins_23 : decode cX12_joins 23 = .ok (.iaload, 1) := by decide +kernel
theorem dX12_joins_24 : decode cX12_joins 24 = .ok (.aload_n 0, 1) := by decide +kernel
theorem dX12_joins_25 : decode cX12_joins 25 = .ok (.getfield 131, 3) := by decide +kernel
theorem dX12_joins_28 : decode cX12_joins 28 = .ok (.bipush 12, 2) := by decide +kernel
theorem dX12_joins_30 : decode cX12_joins 30 = .ok (.iload_n 3, 1) := by decide +kernel
theorem dX12_joins_31 : decode cX12_joins 31 = .ok (.iadd, 1) := by decide +kernel
theorem dX12_joins_32 : decode cX12_joins 32 = .ok (.iaload, 1) := by decide +kernel
theorem dX12_joins_33 : decode cX12_joins 33 = .ok (.if_icmp .eq 6, 3) := by decide +kernel
theorem dX12_joins_36 : decode cX12_joins 36 = .ok (.iinc 2 1, 3) := by decide +kernel
theorem dX12_joins_39 : decode cX12_joins 39 = .ok (.iinc 3 1, 3) := by decide +kernel
theorem dX12_joins_42 : decode cX12_joins 42 = .ok (.goto (-38), 3) := by decide +kernel
theorem dX12_joins_45 : decode cX12_joins 45 = .ok (.iload_n 2, 1) := by decide +kernel
theorem dX12_joins_46 : decode cX12_joins 46 = .ok (.iload_n 1, 1) := by decide +kernel
theorem dX12_joins_47 : decode cX12_joins 47 = .ok (.iconst 3, 1) := by decide +kernel
theorem dX12_joins_48 : decode cX12_joins 48 = .ok (.idiv, 1) := by decide +kernel
theorem dX12_joins_49 : decode cX12_joins 49 = .ok (.if_icmp .gt 7, 3) := by decide +kernel
theorem dX12_joins_52 : decode cX12_joins 52 = .ok (.iconst 1, 1) := by decide +kernel
theorem dX12_joins_53 : decode cX12_joins 53 = .ok (.goto 4, 3) := by decide +kernel
theorem dX12_joins_56 : decode cX12_joins 56 = .ok (.iconst 0, 1) := by decide +kernel
theorem dX12_joins_57 : decode cX12_joins 57 = .ok (.ireturn, 1) := by decide +kernel
theorem dX12_join_0 : decode cX12_join 0 = .ok (.iconst 0, 1) := by decide +kernel
theorem dX12_join_1 : decode cX12_join 1 = .ok (.istore_n 1, 1) := by decide +kernel
theorem dX12_join_2 : decode cX12_join 2 = .ok (.iconst 1, 1) := by decide +kernel
theorem dX12_join_3 : decode cX12_join 3 = .ok (.istore_n 2, 1) := by decide +kernel
theorem dX12_join_4 : decode cX12_join 4 = .ok (.iload_n 2, 1) := by decide +kernel
theorem dX12_join_5 : decode cX12_join 5 = .ok (.aload_n 0, 1) := by decide +kernel
theorem dX12_join_6 : decode cX12_join 6 = .ok (.getfield 134, 3) := by decide +kernel
theorem dX12_join_9 : decode cX12_join 9 = .ok (.iconst 0, 1) := by decide +kernel
theorem dX12_join_10 : decode cX12_join 10 = .ok (.iaload, 1) := by decide +kernel
theorem dX12_join_11 : decode cX12_join 11 = .ok (.if_icmp .gt 29, 3) := by decide +kernel
theorem dX12_join_14 : decode cX12_join 14 = .ok (.iload_n 2, 1) := by decide +kernel
theorem dX12_join_15 : decode cX12_join 15 = .ok (.aload_n 0, 1) := by decide +kernel
theorem dX12_join_16 : decode cX12_join 16 = .ok (.getfield 134, 3) := by decide +kernel
theorem dX12_join_19 : decode cX12_join 19 = .ok (.iconst 1, 1) := by decide +kernel
theorem dX12_join_20 : decode cX12_join 20 = .ok (.iaload, 1) := by decide +kernel
theorem dX12_join_21 : decode cX12_join 21 = .ok (.if_icmp .gt 19, 3) := by decide +kernel
theorem dX12_join_24 : decode cX12_join 24 = .ok (.aload_n 0, 1) := by decide +kernel
theorem dX12_join_25 : decode cX12_join 25 = .ok (.iload_n 2, 1) := by decide +kernel
theorem dX12_join_26 : decode cX12_join 26 = .ok (.invokevirtual 386, 3) := by decide +kernel
theorem dX12_join_29 : decode cX12_join 29 = .ok (.ifCond .eq 5, 3) := by decide +kernel
theorem dX12_join_32 : decode cX12_join 32 = .ok (.iload_n 2, 1) := by decide +kernel
theorem dX12_join_33 : decode cX12_join 33 = .ok (.istore_n 1, 1) := by decide +kernel
theorem dX12_join_34 : decode cX12_join 34 = .ok (.iinc 2 1, 3) := by decide +kernel
theorem dX12_join_37 : decode cX12_join 37 = .ok (.goto (-33), 3) := by decide +kernel
theorem dX12_join_40 : decode cX12_join 40 = .ok (.iload_n 1, 1) := by decide +kernel
theorem dX12_join_41 : decode cX12_join 41 = .ok (.ireturn, 1) := by decide +kernel
theorem dX12_onTape_0 : decode cX12_onTape 0 = .ok (.iconst 0, 1) := by decide +kernel
theorem dX12_onTape_1 : decode cX12_onTape 1 = .ok (.istore_n 2, 1) := by decide +kernel
theorem dX12_onTape_2 : decode cX12_onTape 2 = .ok (.iconst 0, 1) := by decide +kernel
theorem dX12_onTape_3 : decode cX12_onTape 3 = .ok (.istore_n 3, 1) := by decide +kernel
theorem dX12_onTape_4 : decode cX12_onTape 4 = .ok (.iload_n 3, 1) := by decide +kernel
theorem dX12_onTape_5 : decode cX12_onTape 5 = .ok (.aload_n 0, 1) := by decide +kernel
theorem dX12_onTape_6 : decode cX12_onTape 6 = .ok (.getfield 134, 3) := by decide +kernel
theorem dX12_onTape_9 : decode cX12_onTape 9 = .ok (.iconst 2, 1) := by decide +kernel
theorem dX12_onTape_10 : decode cX12_onTape 10 = .ok (.iaload, 1) := by decide +kernel
theorem dX12_onTape_11 : decode cX12_onTape 11 = .ok (.if_icmp .ge 25, 3) := by decide +kernel
theorem dX12_onTape_14 : decode cX12_onTape 14 = .ok (.aload_n 0, 1) := by decide +kernel
theorem dX12_onTape_15 : decode cX12_onTape 15 = .ok (.getfield 131, 3) := by decide +kernel
theorem dX12_onTape_18 : decode cX12_onTape 18 = .ok (.bipush 24, 2) := by decide +kernel
theorem dX12_onTape_20 : decode cX12_onTape 20 = .ok (.iload_n 3, 1) := by decide +kernel
theorem dX12_onTape_21 : decode cX12_onTape 21 = .ok (.iadd, 1) := by decide +kernel
theorem dX12_onTape_22 : decode cX12_onTape 22 = .ok (.iaload, 1) := by decide +kernel
theorem dX12_onTape_23 : decode cX12_onTape 23 = .ok (.iload_n 1, 1) := by decide +kernel
theorem dX12_onTape_24 : decode cX12_onTape 24 = .ok (.if_icmp .ne 6, 3) := by decide +kernel
theorem dX12_onTape_27 : decode cX12_onTape 27 = .ok (.iinc 2 1, 3) := by decide +kernel
theorem dX12_onTape_30 : decode cX12_onTape 30 = .ok (.iinc 3 1, 3) := by decide +kernel
theorem dX12_onTape_33 : decode cX12_onTape 33 = .ok (.goto (-29), 3) := by decide +kernel
theorem dX12_onTape_36 : decode cX12_onTape 36 = .ok (.iload_n 2, 1) := by decide +kernel
theorem dX12_onTape_37 : decode cX12_onTape 37 = .ok (.ireturn, 1) := by decide +kernel
theorem dX12_joined_0 : decode cX12_joined 0 = .ok (.aload_n 0, 1) := by decide +kernel
theorem dX12_joined_1 : decode cX12_joined 1 = .ok (.invokevirtual 389, 3) := by decide +kernel
theorem dX12_joined_4 : decode cX12_joined 4 = .ok (.istore_n 2, 1) := by decide +kernel
theorem dX12_joined_5 : decode cX12_joined 5 = .ok (.iload_n 1, 1) := by decide +kernel
theorem dX12_joined_6 : decode cX12_joined 6 = .ok (.ifCond .lt 22, 3) := by decide +kernel
theorem dX12_joined_9 : decode cX12_joined 9 = .ok (.iload_n 1, 1) := by decide +kernel
theorem dX12_joined_10 : decode cX12_joined 10 = .ok (.aload_n 0, 1) := by decide +kernel
theorem dX12_joined_11 : decode cX12_joined 11 = .ok (.getfield 134, 3) := by decide +kernel
theorem dX12_joined_14 : decode cX12_joined 14 = .ok (.iconst 0, 1) := by decide +kernel
theorem dX12_joined_15 : decode cX12_joined 15 = .ok (.iaload, 1) := by decide +kernel
theorem dX12_joined_16 : decode cX12_joined 16 = .ok (.aload_n 0, 1) := by decide +kernel
theorem dX12_joined_17 : decode cX12_joined 17 = .ok (.getfield 134, 3) := by decide +kernel
theorem dX12_joined_20 : decode cX12_joined 20 = .ok (.iconst 1, 1) := by decide +kernel
theorem dX12_joined_21 : decode cX12_joined 21 = .ok (.iaload, 1) := by decide +kernel
theorem dX12_joined_22 : decode cX12_joined 22 = .ok (.iadd, 1) := by decide +kernel
theorem dX12_joined_23 : decode cX12_joined 23 = .ok (.iload_n 2, 1) := by decide +kernel
theorem dX12_joined_24 : decode cX12_joined 24 = .ok (.isub, 1) := by decide +kernel
theorem dX12_joined_25 : decode cX12_joined 25 = .ok (.if_icmp .lt 5, 3) := by decide +kernel
theorem dX12_joined_28 : decode cX12_joined 28 = .ok (.iconst (-1), 1) := by decide +kernel
theorem dX12_joined_29 : decode cX12_joined 29 = .ok (.ireturn, 1) := by decide +kernel
theorem dX12_joined_30 : decode cX12_joined 30 = .ok (.iload_n 1, 1) := by decide +kernel
theorem dX12_joined_31 : decode cX12_joined 31 = .ok (.aload_n 0, 1) := by decide +kernel
theorem dX12_joined_32 : decode cX12_joined 32 = .ok (.getfield 134, 3) := by decide +kernel
theorem dX12_joined_35 : decode cX12_joined 35 = .ok (.iconst 0, 1) := by decide +kernel
theorem dX12_joined_36 : decode cX12_joined 36 = .ok (.iaload, 1) := by decide +kernel
theorem dX12_joined_37 : decode cX12_joined 37 = .ok (.iload_n 2, 1) := by decide +kernel
theorem dX12_joined_38 : decode cX12_joined 38 = .ok (.isub, 1) := by decide +kernel
theorem dX12_joined_39 : decode cX12_joined 39 = .ok (.if_icmp .ge 10, 3) := by decide +kernel
theorem dX12_joined_42 : decode cX12_joined 42 = .ok (.aload_n 0, 1) := by decide +kernel
theorem dX12_joined_43 : decode cX12_joined 43 = .ok (.getfield 131, 3) := by decide +kernel
theorem dX12_joined_46 : decode cX12_joined 46 = .ok (.iload_n 1, 1) := by decide +kernel
theorem dX12_joined_47 : decode cX12_joined 47 = .ok (.iaload, 1) := by decide +kernel
theorem dX12_joined_48 : decode cX12_joined 48 = .ok (.ireturn, 1) := by decide +kernel
theorem dX12_joined_49 : decode cX12_joined 49 = .ok (.aload_n 0, 1) := by decide +kernel
theorem dX12_joined_50 : decode cX12_joined 50 = .ok (.getfield 131, 3) := by decide +kernel
theorem dX12_joined_53 : decode cX12_joined 53 = .ok (.bipush 12, 2) := by decide +kernel
theorem dX12_joined_55 : decode cX12_joined 55 = .ok (.iload_n 1, 1) := by decide +kernel
theorem dX12_joined_56 : decode cX12_joined 56 = .ok (.iadd, 1) := by decide +kernel
theorem dX12_joined_57 : decode cX12_joined 57 = .ok (.aload_n 0, 1) := by decide +kernel
theorem dX12_joined_58 : decode cX12_joined 58 = .ok (.getfield 134, 3) := by decide +kernel
theorem dX12_joined_61 : decode cX12_joined 61 = .ok (.iconst 0, 1) := by decide +kernel
theorem dX12_joined_62 : decode cX12_joined 62 = .ok (.iaload, 1) := by decide +kernel
theorem dX12_joined_63 : decode cX12_joined 63 = .ok (.isub, 1) := by decide +kernel
theorem dX12_joined_64 : decode cX12_joined 64 = .ok (.iload_n 2, 1) := by decide +kernel
theorem dX12_joined_65 : decode cX12_joined 65 = .ok (.iadd, 1) := by decide +kernel
theorem dX12_joined_66 : decode cX12_joined 66 = .ok (.iaload, 1) := by decide +kernel
theorem dX12_joined_67 : decode cX12_joined 67 = .ok (.istore_n 3, 1) := by decide +kernel
theorem dX12_joined_68 : decode cX12_joined 68 = .ok (.iload_n 1, 1) := by decide +kernel
theorem dX12_joined_69 : decode cX12_joined 69 = .ok (.aload_n 0, 1) := by decide +kernel
theorem dX12_joined_70 : decode cX12_joined 70 = .ok (.getfield 134, 3) := by decide +kernel
theorem dX12_joined_73 : decode cX12_joined 73 = .ok (.iconst 0, 1) := by decide +kernel
theorem dX12_joined_74 : decode cX12_joined 74 = .ok (.iaload, 1) := by decide +kernel
theorem dX12_joined_75 : decode cX12_joined 75 = .ok (.if_icmp .lt 5, 3) := by decide +kernel
theorem dX12_joined_78 : decode cX12_joined 78 = .ok (.iload_n 3, 1) := by decide +kernel
theorem dX12_joined_79 : decode cX12_joined 79 = .ok (.ireturn, 1) := by decide +kernel
theorem dX12_joined_80 : decode cX12_joined 80 = .ok (.aload_n 0, 1) := by decide +kernel
theorem dX12_joined_81 : decode cX12_joined 81 = .ok (.iload_n 3, 1) := by decide +kernel
theorem dX12_joined_82 : decode cX12_joined 82 = .ok (.invokevirtual 393, 3) := by decide +kernel
theorem dX12_joined_85 : decode cX12_joined 85 = .ok (.aload_n 0, 1) := by decide +kernel
theorem dX12_joined_86 : decode cX12_joined 86 = .ok (.aload_n 0, 1) := by decide +kernel
theorem dX12_joined_87 : decode cX12_joined 87 = .ok (.getfield 131, 3) := by decide +kernel
theorem dX12_joined_90 : decode cX12_joined 90 = .ok (.iload_n 1, 1) := by decide +kernel
theorem dX12_joined_91 : decode cX12_joined 91 = .ok (.iaload, 1) := by decide +kernel
theorem dX12_joined_92 : decode cX12_joined 92 = .ok (.invokevirtual 393, 3) := by decide +kernel
theorem dX12_joined_95 : decode cX12_joined 95 = .ok (.if_icmp .le 7, 3) := by decide +kernel
theorem dX12_joined_98 : decode cX12_joined 98 = .ok (.iload_n 3, 1) := by decide +kernel
theorem dX12_joined_99 : decode cX12_joined 99 = .ok (.goto 9, 3) := by decide +kernel
theorem dX12_joined_102 : decode cX12_joined 102 = .ok (.aload_n 0, 1) := by decide +kernel
theorem dX12_joined_103 : decode cX12_joined 103 = .ok (.getfield 131, 3) := by decide +kernel
theorem dX12_joined_106 : decode cX12_joined 106 = .ok (.iload_n 1, 1) := by decide +kernel
theorem dX12_joined_107 : decode cX12_joined 107 = .ok (.iaload, 1) := by decide +kernel
theorem dX12_joined_108 : decode cX12_joined 108 = .ok (.ireturn, 1) := by decide +kernel
theorem dX12_apart_0 : decode cX12_apart 0 = .ok (.iload_n 1, 1) := by decide +kernel
theorem dX12_apart_1 : decode cX12_apart 1 = .ok (.iconst 0, 1) := by decide +kernel
theorem dX12_apart_2 : decode cX12_apart 2 = .ok (.iconst 2, 1) := by decide +kernel
theorem dX12_apart_3 : decode cX12_apart 3 = .ok (.invokestatic 288, 3) := by decide +kernel
theorem dX12_apart_6 : decode cX12_apart 6 = .ok (.ifCond .eq 12, 3) := by decide +kernel
theorem dX12_apart_9 : decode cX12_apart 9 = .ok (.iload_n 2, 1) := by decide +kernel
theorem dX12_apart_10 : decode cX12_apart 10 = .ok (.iconst 0, 1) := by decide +kernel
theorem dX12_apart_11 : decode cX12_apart 11 = .ok (.iconst 2, 1) := by decide +kernel
theorem dX12_apart_12 : decode cX12_apart 12 = .ok (.invokestatic 288, 3) := by decide +kernel
theorem dX12_apart_15 : decode cX12_apart 15 = .ok (.ifCond .ne 5, 3) := by decide +kernel
theorem dX12_apart_18 : decode cX12_apart 18 = .ok (.iconst (-1), 1) := by decide +kernel
theorem dX12_apart_19 : decode cX12_apart 19 = .ok (.ireturn, 1) := by decide +kernel
theorem dX12_apart_20 : decode cX12_apart 20 = .ok (.iconst 0, 1) := by decide +kernel
theorem dX12_apart_21 : decode cX12_apart 21 = .ok (.istore_n 3, 1) := by decide +kernel
theorem dX12_apart_22 : decode cX12_apart 22 = .ok (.iload_n 3, 1) := by decide +kernel
theorem dX12_apart_23 : decode cX12_apart 23 = .ok (.aload_n 0, 1) := by decide +kernel
theorem dX12_apart_24 : decode cX12_apart 24 = .ok (.getfield 134, 3) := by decide +kernel
theorem dX12_apart_27 : decode cX12_apart 27 = .ok (.iload_n 1, 1) := by decide +kernel
theorem dX12_apart_28 : decode cX12_apart 28 = .ok (.iaload, 1) := by decide +kernel
theorem dX12_apart_29 : decode cX12_apart 29 = .ok (.if_icmp .gt 211, 3) := by decide +kernel
theorem dX12_apart_32 : decode cX12_apart 32 = .ok (.iconst 0, 1) := by decide +kernel
theorem dX12_apart_33 : decode cX12_apart 33 = .ok (.istore 4, 2) := by decide +kernel
theorem dX12_apart_35 : decode cX12_apart 35 = .ok (.iload 4, 2) := by decide +kernel
theorem dX12_apart_37 : decode cX12_apart 37 = .ok (.aload_n 0, 1) := by decide +kernel
theorem dX12_apart_38 : decode cX12_apart 38 = .ok (.getfield 134, 3) := by decide +kernel
theorem dX12_apart_41 : decode cX12_apart 41 = .ok (.iload_n 2, 1) := by decide +kernel
theorem dX12_apart_42 : decode cX12_apart 42 = .ok (.iaload, 1) := by decide +kernel
theorem dX12_apart_43 : decode cX12_apart 43 = .ok (.if_icmp .gt 191, 3) := by decide +kernel
theorem dX12_apart_46 : decode cX12_apart 46 = .ok (.iload_n 3, 1) := by decide +kernel
theorem dX12_apart_47 : decode cX12_apart 47 = .ok (.ifCond .ne 8, 3) := by decide +kernel
theorem dX12_apart_50 : decode cX12_apart 50 = .ok (.iload 4, 2) := by decide +kernel
theorem dX12_apart_52 : decode cX12_apart 52 = .ok (.goto 64, 3) := by decide +kernel
theorem dX12_apart_55 : decode cX12_apart 55 = .ok (.iload 4, 2) := by decide +kernel
theorem dX12_apart_57 : decode cX12_apart 57 = .ok (.ifCond .ne 7, 3) := by decide +kernel
theorem dX12_apart_60 : decode cX12_apart 60 = .ok (.iload_n 3, 1) := by decide +kernel
theorem dX12_apart_61 : decode cX12_apart 61 = .ok (.goto 55, 3) := by decide +kernel
theorem dX12_apart_64 : decode cX12_apart 64 = .ok (.aload_n 0, 1) := by decide +kernel
theorem dX12_apart_65 : decode cX12_apart 65 = .ok (.getfield 137, 3) := by decide +kernel
theorem dX12_apart_68 : decode cX12_apart 68 = .ok (.bipush 13, 2) := by decide +kernel
theorem dX12_apart_70 : decode cX12_apart 70 = .ok (.iload_n 3, 1) := by decide +kernel
theorem dX12_apart_71 : decode cX12_apart 71 = .ok (.iconst 1, 1) := by decide +kernel
theorem dX12_apart_72 : decode cX12_apart 72 = .ok (.isub, 1) := by decide +kernel
theorem dX12_apart_73 : decode cX12_apart 73 = .ok (.imul, 1) := by decide +kernel
theorem dX12_apart_74 : decode cX12_apart 74 = .ok (.iload 4, 2) := by decide +kernel
theorem dX12_apart_76 : decode cX12_apart 76 = .ok (.iadd, 1) := by decide +kernel
theorem dX12_apart_77 : decode cX12_apart 77 = .ok (.iconst 1, 1) := by decide +kernel
theorem dX12_apart_78 : decode cX12_apart 78 = .ok (.isub, 1) := by decide +kernel
theorem dX12_apart_79 : decode cX12_apart 79 = .ok (.iaload, 1) := by decide +kernel
theorem dX12_apart_80 : decode cX12_apart 80 = .ok (.aload_n 0, 1) := by decide +kernel
theorem dX12_apart_81 : decode cX12_apart 81 = .ok (.getfield 131, 3) := by decide +kernel
theorem dX12_apart_84 : decode cX12_apart 84 = .ok (.bipush 12, 2) := by decide +kernel
theorem dX12_apart_86 : decode cX12_apart 86 = .ok (.iload_n 1, 1) := by decide +kernel
theorem dX12_apart_87 : decode cX12_apart 87 = .ok (.imul, 1) := by decide +kernel
theorem dX12_apart_88 : decode cX12_apart 88 = .ok (.iload_n 3, 1) := by decide +kernel
theorem dX12_apart_89 : decode cX12_apart 89 = .ok (.iadd, 1) := by decide +kernel
theorem dX12_apart_90 : decode cX12_apart 90 = .ok (.iconst 1, 1) := by decide +kernel
theorem dX12_apart_91 : decode cX12_apart 91 = .ok (.isub, 1) := by decide +kernel
theorem dX12_apart_92 : decode cX12_apart 92 = .ok (.iaload, 1) := by decide +kernel
theorem dX12_apart_93 : decode cX12_apart 93 = .ok (.aload_n 0, 1) := by decide +kernel
theorem dX12_apart_94 : decode cX12_apart 94 = .ok (.getfield 131, 3) := by decide +kernel
theorem dX12_apart_97 : decode cX12_apart 97 = .ok (.bipush 12, 2) := by decide +kernel
theorem dX12_apart_99 : decode cX12_apart 99 = .ok (.iload_n 2, 1) := by decide +kernel
theorem dX12_apart_100 : decode cX12_apart 100 = .ok (.imul, 1) := by decide +kernel
theorem dX12_apart_101 : decode cX12_apart 101 = .ok (.iload 4, 2) := by decide +kernel
theorem dX12_apart_103 : decode cX12_apart 103 = .ok (.iadd, 1) := by decide +kernel
theorem dX12_apart_104 : decode cX12_apart 104 = .ok (.iconst 1, 1) := by decide +kernel
theorem dX12_apart_105 : decode cX12_apart 105 = .ok (.isub, 1) := by decide +kernel
theorem dX12_apart_106 : decode cX12_apart 106 = .ok (.iaload, 1) := by decide +kernel
theorem dX12_apart_107 : decode cX12_apart 107 = .ok (.if_icmp .ne 7, 3) := by decide +kernel
theorem dX12_apart_110 : decode cX12_apart 110 = .ok (.iconst 0, 1) := by decide +kernel
theorem dX12_apart_111 : decode cX12_apart 111 = .ok (.goto 4, 3) := by decide +kernel
theorem dX12_apart_114 : decode cX12_apart 114 = .ok (.iconst 1, 1) := by decide +kernel
theorem dX12_apart_115 : decode cX12_apart 115 = .ok (.iadd, 1) := by decide +kernel
theorem dX12_apart_116 : decode cX12_apart 116 = .ok (.istore 5, 2) := by decide +kernel
theorem dX12_apart_118 : decode cX12_apart 118 = .ok (.iload_n 3, 1) := by decide +kernel
theorem dX12_apart_119 : decode cX12_apart 119 = .ok (.ifCond .le 47, 3) := by decide +kernel
theorem dX12_apart_122 : decode cX12_apart 122 = .ok (.iload 4, 2) := by decide +kernel
theorem dX12_apart_124 : decode cX12_apart 124 = .ok (.ifCond .le 42, 3) := by decide +kernel
theorem dX12_apart_127 : decode cX12_apart 127 = .ok (.aload_n 0, 1) := by decide +kernel
theorem dX12_apart_128 : decode cX12_apart 128 = .ok (.getfield 137, 3) := by decide +kernel
theorem dX12_apart_131 : decode cX12_apart 131 = .ok (.bipush 13, 2) := by decide +kernel
theorem dX12_apart_133 : decode cX12_apart 133 = .ok (.iload_n 3, 1) := by decide +kernel
theorem dX12_apart_134 : decode cX12_apart 134 = .ok (.iconst 1, 1) := by decide +kernel
theorem dX12_apart_135 : decode cX12_apart 135 = .ok (.isub, 1) := by decide +kernel
theorem dX12_apart_136 : decode cX12_apart 136 = .ok (.imul, 1) := by decide +kernel
theorem dX12_apart_137 : decode cX12_apart 137 = .ok (.iload 4, 2) := by decide +kernel
theorem dX12_apart_139 : decode cX12_apart 139 = .ok (.iadd, 1) := by decide +kernel
theorem dX12_apart_140 : decode cX12_apart 140 = .ok (.iaload, 1) := by decide +kernel
theorem dX12_apart_141 : decode cX12_apart 141 = .ok (.iconst 1, 1) := by decide +kernel
theorem dX12_apart_142 : decode cX12_apart 142 = .ok (.iadd, 1) := by decide +kernel
theorem dX12_apart_143 : decode cX12_apart 143 = .ok (.iload 5, 2) := by decide +kernel
theorem dX12_apart_145 : decode cX12_apart 145 = .ok (.if_icmp .ge 21, 3) := by decide +kernel
theorem dX12_apart_148 : decode cX12_apart 148 = .ok (.aload_n 0, 1) := by decide +kernel
theorem dX12_apart_149 : decode cX12_apart 149 = .ok (.getfield 137, 3) := by decide +kernel
theorem dX12_apart_152 : decode cX12_apart 152 = .ok (.bipush 13, 2) := by decide +kernel
theorem dX12_apart_154 : decode cX12_apart 154 = .ok (.iload_n 3, 1) := by decide +kernel
theorem dX12_apart_155 : decode cX12_apart 155 = .ok (.iconst 1, 1) := by decide +kernel
theorem dX12_apart_156 : decode cX12_apart 156 = .ok (.isub, 1) := by decide +kernel
theorem dX12_apart_157 : decode cX12_apart 157 = .ok (.imul, 1) := by decide +kernel
theorem dX12_apart_158 : decode cX12_apart 158 = .ok (.iload 4, 2) := by decide +kernel
theorem dX12_apart_160 : decode cX12_apart 160 = .ok (.iadd, 1) := by decide +kernel
theorem dX12_apart_161 : decode cX12_apart 161 = .ok (.iaload, 1) := by decide +kernel
theorem dX12_apart_162 : decode cX12_apart 162 = .ok (.iconst 1, 1) := by decide +kernel
theorem dX12_apart_163 : decode cX12_apart 163 = .ok (.iadd, 1) := by decide +kernel
theorem dX12_apart_164 : decode cX12_apart 164 = .ok (.istore 5, 2) := by decide +kernel
theorem dX12_apart_166 : decode cX12_apart 166 = .ok (.iload_n 3, 1) := by decide +kernel
theorem dX12_apart_167 : decode cX12_apart 167 = .ok (.ifCond .le 47, 3) := by decide +kernel
theorem dX12_apart_170 : decode cX12_apart 170 = .ok (.iload 4, 2) := by decide +kernel
theorem dX12_apart_172 : decode cX12_apart 172 = .ok (.ifCond .le 42, 3) := by decide +kernel
theorem dX12_apart_175 : decode cX12_apart 175 = .ok (.aload_n 0, 1) := by decide +kernel
theorem dX12_apart_176 : decode cX12_apart 176 = .ok (.getfield 137, 3) := by decide +kernel
theorem dX12_apart_179 : decode cX12_apart 179 = .ok (.bipush 13, 2) := by decide +kernel
theorem dX12_apart_181 : decode cX12_apart 181 = .ok (.iload_n 3, 1) := by decide +kernel
theorem dX12_apart_182 : decode cX12_apart 182 = .ok (.imul, 1) := by decide +kernel
theorem dX12_apart_183 : decode cX12_apart 183 = .ok (.iload 4, 2) := by decide +kernel
theorem dX12_apart_185 : decode cX12_apart 185 = .ok (.iadd, 1) := by decide +kernel
theorem dX12_apart_186 : decode cX12_apart 186 = .ok (.iconst 1, 1) := by decide +kernel
theorem dX12_apart_187 : decode cX12_apart 187 = .ok (.isub, 1) := by decide +kernel
theorem dX12_apart_188 : decode cX12_apart 188 = .ok (.iaload, 1) := by decide +kernel
theorem dX12_apart_189 : decode cX12_apart 189 = .ok (.iconst 1, 1) := by decide +kernel
theorem dX12_apart_190 : decode cX12_apart 190 = .ok (.iadd, 1) := by decide +kernel
theorem dX12_apart_191 : decode cX12_apart 191 = .ok (.iload 5, 2) := by decide +kernel
theorem dX12_apart_193 : decode cX12_apart 193 = .ok (.if_icmp .ge 21, 3) := by decide +kernel
theorem dX12_apart_196 : decode cX12_apart 196 = .ok (.aload_n 0, 1) := by decide +kernel
theorem dX12_apart_197 : decode cX12_apart 197 = .ok (.getfield 137, 3) := by decide +kernel
theorem dX12_apart_200 : decode cX12_apart 200 = .ok (.bipush 13, 2) := by decide +kernel
theorem dX12_apart_202 : decode cX12_apart 202 = .ok (.iload_n 3, 1) := by decide +kernel
theorem dX12_apart_203 : decode cX12_apart 203 = .ok (.imul, 1) := by decide +kernel
theorem dX12_apart_204 : decode cX12_apart 204 = .ok (.iload 4, 2) := by decide +kernel
theorem dX12_apart_206 : decode cX12_apart 206 = .ok (.iadd, 1) := by decide +kernel
theorem dX12_apart_207 : decode cX12_apart 207 = .ok (.iconst 1, 1) := by decide +kernel
theorem dX12_apart_208 : decode cX12_apart 208 = .ok (.isub, 1) := by decide +kernel
theorem dX12_apart_209 : decode cX12_apart 209 = .ok (.iaload, 1) := by decide +kernel
theorem dX12_apart_210 : decode cX12_apart 210 = .ok (.iconst 1, 1) := by decide +kernel
theorem dX12_apart_211 : decode cX12_apart 211 = .ok (.iadd, 1) := by decide +kernel
theorem dX12_apart_212 : decode cX12_apart 212 = .ok (.istore 5, 2) := by decide +kernel
theorem dX12_apart_214 : decode cX12_apart 214 = .ok (.aload_n 0, 1) := by decide +kernel
theorem dX12_apart_215 : decode cX12_apart 215 = .ok (.getfield 137, 3) := by decide +kernel
theorem dX12_apart_218 : decode cX12_apart 218 = .ok (.bipush 13, 2) := by decide +kernel
theorem dX12_apart_220 : decode cX12_apart 220 = .ok (.iload_n 3, 1) := by decide +kernel
theorem dX12_apart_221 : decode cX12_apart 221 = .ok (.imul, 1) := by decide +kernel
theorem dX12_apart_222 : decode cX12_apart 222 = .ok (.iload 4, 2) := by decide +kernel
theorem dX12_apart_224 : decode cX12_apart 224 = .ok (.iadd, 1) := by decide +kernel
theorem dX12_apart_225 : decode cX12_apart 225 = .ok (.iload 5, 2) := by decide +kernel
theorem dX12_apart_227 : decode cX12_apart 227 = .ok (.iastore, 1) := by decide +kernel
theorem dX12_apart_228 : decode cX12_apart 228 = .ok (.iinc 4 1, 3) := by decide +kernel
theorem dX12_apart_231 : decode cX12_apart 231 = .ok (.goto (-196), 3) := by decide +kernel
theorem dX12_apart_234 : decode cX12_apart 234 = .ok (.iinc 3 1, 3) := by decide +kernel
theorem dX12_apart_237 : decode cX12_apart 237 = .ok (.goto (-215), 3) := by decide +kernel
theorem dX12_apart_240 : decode cX12_apart 240 = .ok (.aload_n 0, 1) := by decide +kernel
theorem dX12_apart_241 : decode cX12_apart 241 = .ok (.getfield 137, 3) := by decide +kernel
theorem dX12_apart_244 : decode cX12_apart 244 = .ok (.bipush 13, 2) := by decide +kernel
theorem dX12_apart_246 : decode cX12_apart 246 = .ok (.aload_n 0, 1) := by decide +kernel
theorem dX12_apart_247 : decode cX12_apart 247 = .ok (.getfield 134, 3) := by decide +kernel
theorem dX12_apart_250 : decode cX12_apart 250 = .ok (.iload_n 1, 1) := by decide +kernel
theorem dX12_apart_251 : decode cX12_apart 251 = .ok (.iaload, 1) := by decide +kernel
theorem dX12_apart_252 : decode cX12_apart 252 = .ok (.imul, 1) := by decide +kernel
theorem dX12_apart_253 : decode cX12_apart 253 = .ok (.aload_n 0, 1) := by decide +kernel
theorem dX12_apart_254 : decode cX12_apart 254 = .ok (.getfield 134, 3) := by decide +kernel
theorem dX12_apart_257 : decode cX12_apart 257 = .ok (.iload_n 2, 1) := by decide +kernel
theorem dX12_apart_258 : decode cX12_apart 258 = .ok (.iaload, 1) := by decide +kernel
theorem dX12_apart_259 : decode cX12_apart 259 = .ok (.iadd, 1) := by decide +kernel
theorem dX12_apart_260 : decode cX12_apart 260 = .ok (.iaload, 1) := by decide +kernel
theorem dX12_apart_261 : decode cX12_apart 261 = .ok (.ireturn, 1) := by decide +kernel
theorem dX12_has_0 : decode cX12_has 0 = .ok (.iconst 0, 1) := by decide +kernel
theorem dX12_has_1 : decode cX12_has 1 = .ok (.istore 5, 2) := by decide +kernel
theorem dX12_has_3 : decode cX12_has 3 = .ok (.iload 5, 2) := by decide +kernel
theorem dX12_has_5 : decode cX12_has 5 = .ok (.iload 4, 2) := by decide +kernel
theorem dX12_has_7 : decode cX12_has 7 = .ok (.if_icmp .ge 56, 3) := by decide +kernel
theorem dX12_has_10 : decode cX12_has 10 = .ok (.aload_n 0, 1) := by decide +kernel
theorem dX12_has_11 : decode cX12_has 11 = .ok (.getfield 104, 3) := by decide +kernel
theorem dX12_has_14 : decode cX12_has 14 = .ok (.iload 5, 2) := by decide +kernel
theorem dX12_has_16 : decode cX12_has 16 = .ok (.iaload, 1) := by decide +kernel
theorem dX12_has_17 : decode cX12_has 17 = .ok (.bipush 9, 2) := by decide +kernel
theorem dX12_has_19 : decode cX12_has 19 = .ok (.if_icmp .ne 38, 3) := by decide +kernel
theorem dX12_has_22 : decode cX12_has 22 = .ok (.aload_n 0, 1) := by decide +kernel
theorem dX12_has_23 : decode cX12_has 23 = .ok (.getfield 110, 3) := by decide +kernel
theorem dX12_has_26 : decode cX12_has 26 = .ok (.iload 5, 2) := by decide +kernel
theorem dX12_has_28 : decode cX12_has 28 = .ok (.iaload, 1) := by decide +kernel
theorem dX12_has_29 : decode cX12_has 29 = .ok (.iload_n 1, 1) := by decide +kernel
theorem dX12_has_30 : decode cX12_has 30 = .ok (.if_icmp .ne 27, 3) := by decide +kernel
theorem dX12_has_33 : decode cX12_has 33 = .ok (.aload_n 0, 1) := by decide +kernel
theorem dX12_has_34 : decode cX12_has 34 = .ok (.getfield 113, 3) := by decide +kernel
theorem dX12_has_37 : decode cX12_has 37 = .ok (.iload 5, 2) := by decide +kernel
theorem dX12_has_39 : decode cX12_has 39 = .ok (.iaload, 1) := by decide +kernel
theorem dX12_has_40 : decode cX12_has 40 = .ok (.iload_n 2, 1) := by decide +kernel
theorem dX12_has_41 : decode cX12_has 41 = .ok (.if_icmp .ne 16, 3) := by decide +kernel
theorem dX12_has_44 : decode cX12_has 44 = .ok (.aload_n 0, 1) := by decide +kernel
theorem dX12_has_45 : decode cX12_has 45 = .ok (.getfield 116, 3) := by decide +kernel
theorem dX12_has_48 : decode cX12_has 48 = .ok (.iload 5, 2) := by decide +kernel
theorem dX12_has_50 : decode cX12_has 50 = .ok (.iaload, 1) := by decide +kernel
theorem dX12_has_51 : decode cX12_has 51 = .ok (.iload_n 3, 1) := by decide +kernel
theorem dX12_has_52 : decode cX12_has 52 = .ok (.if_icmp .ne 5, 3) := by decide +kernel
theorem dX12_has_55 : decode cX12_has 55 = .ok (.iconst 1, 1) := by decide +kernel
theorem dX12_has_56 : decode cX12_has 56 = .ok (.ireturn, 1) := by decide +kernel
theorem dX12_has_57 : decode cX12_has 57 = .ok (.iinc 5 1, 3) := by decide +kernel
theorem dX12_has_60 : decode cX12_has 60 = .ok (.goto (-57), 3) := by decide +kernel
theorem dX12_has_63 : decode cX12_has 63 = .ok (.iconst 0, 1) := by decide +kernel
theorem dX12_has_64 : decode cX12_has 64 = .ok (.ireturn, 1) := by decide +kernel
theorem dX12_sumOf_0 : decode cX12_sumOf 0 = .ok (.iconst 0, 1) := by decide +kernel
theorem dX12_sumOf_1 : decode cX12_sumOf 1 = .ok (.istore 4, 2) := by decide +kernel
theorem dX12_sumOf_3 : decode cX12_sumOf 3 = .ok (.iconst 0, 1) := by decide +kernel
theorem dX12_sumOf_4 : decode cX12_sumOf 4 = .ok (.istore 5, 2) := by decide +kernel
theorem dX12_sumOf_6 : decode cX12_sumOf 6 = .ok (.iload 5, 2) := by decide +kernel
theorem dX12_sumOf_8 : decode cX12_sumOf 8 = .ok (.bipush 8, 2) := by decide +kernel
theorem dX12_sumOf_10 : decode cX12_sumOf 10 = .ok (.if_icmp .ge 38, 3) := by decide +kernel
theorem dX12_sumOf_13 : decode cX12_sumOf 13 = .ok (.aload_n 0, 1) := by decide +kernel
theorem dX12_sumOf_14 : decode cX12_sumOf 14 = .ok (.iload_n 1, 1) := by decide +kernel
theorem dX12_sumOf_15 : decode cX12_sumOf 15 = .ok (.iload 5, 2) := by decide +kernel
theorem dX12_sumOf_17 : decode cX12_sumOf 17 = .ok (.iload_n 2, 1) := by decide +kernel
theorem dX12_sumOf_18 : decode cX12_sumOf 18 = .ok (.iload_n 3, 1) := by decide +kernel
theorem dX12_sumOf_19 : decode cX12_sumOf 19 = .ok (.invokevirtual 396, 3) := by decide +kernel
theorem dX12_sumOf_22 : decode cX12_sumOf 22 = .ok (.ifCond .eq 20, 3) := by decide +kernel
theorem dX12_sumOf_25 : decode cX12_sumOf 25 = .ok (.aload_n 0, 1) := by decide +kernel
theorem dX12_sumOf_26 : decode cX12_sumOf 26 = .ok (.iload_n 1, 1) := by decide +kernel
theorem dX12_sumOf_27 : decode cX12_sumOf 27 = .ok (.iload 5, 2) := by decide +kernel
theorem dX12_sumOf_29 : decode cX12_sumOf 29 = .ok (.iconst 1, 1) := by decide +kernel
theorem dX12_sumOf_30 : decode cX12_sumOf 30 = .ok (.iload_n 2, 1) := by decide +kernel
theorem dX12_sumOf_31 : decode cX12_sumOf 31 = .ok (.isub, 1) := by decide +kernel
theorem dX12_sumOf_32 : decode cX12_sumOf 32 = .ok (.iload_n 3, 1) := by decide +kernel
theorem dX12_sumOf_33 : decode cX12_sumOf 33 = .ok (.invokevirtual 396, 3) := by decide +kernel
theorem dX12_sumOf_36 : decode cX12_sumOf 36 = .ok (.ifCond .ne 6, 3) := by decide +kernel
theorem dX12_sumOf_39 : decode cX12_sumOf 39 = .ok (.iinc 4 1, 3) := by decide +kernel
theorem dX12_sumOf_42 : decode cX12_sumOf 42 = .ok (.iinc 5 1, 3) := by decide +kernel
theorem dX12_sumOf_45 : decode cX12_sumOf 45 = .ok (.goto (-39), 3) := by decide +kernel
theorem dX12_sumOf_48 : decode cX12_sumOf 48 = .ok (.iload 4, 2) := by decide +kernel
theorem dX12_sumOf_50 : decode cX12_sumOf 50 = .ok (.ireturn, 1) := by decide +kernel
theorem dX12_sum_0 : decode cX12_sum 0 = .ok (.iload_n 1, 1) := by decide +kernel
theorem dX12_sum_1 : decode cX12_sum 1 = .ok (.iconst 0, 1) := by decide +kernel
theorem dX12_sum_2 : decode cX12_sum 2 = .ok (.iconst 3, 1) := by decide +kernel
theorem dX12_sum_3 : decode cX12_sum 3 = .ok (.invokestatic 288, 3) := by decide +kernel
theorem dX12_sum_6 : decode cX12_sum 6 = .ok (.ifCond .eq 20, 3) := by decide +kernel
theorem dX12_sum_9 : decode cX12_sum 9 = .ok (.iload_n 2, 1) := by decide +kernel
theorem dX12_sum_10 : decode cX12_sum 10 = .ok (.iconst 0, 1) := by decide +kernel
theorem dX12_sum_11 : decode cX12_sum 11 = .ok (.iconst 1, 1) := by decide +kernel
theorem dX12_sum_12 : decode cX12_sum 12 = .ok (.invokestatic 288, 3) := by decide +kernel
theorem dX12_sum_15 : decode cX12_sum 15 = .ok (.ifCond .eq 11, 3) := by decide +kernel
theorem dX12_sum_18 : decode cX12_sum 18 = .ok (.aload_n 0, 1) := by decide +kernel
theorem dX12_sum_19 : decode cX12_sum 19 = .ok (.iload_n 3, 1) := by decide +kernel
theorem dX12_sum_20 : decode cX12_sum 20 = .ok (.invokevirtual 325, 3) := by decide +kernel
theorem dX12_sum_23 : decode cX12_sum 23 = .ok (.ifCond .ne 7, 3) := by decide +kernel
theorem dX12_sum_26 : decode cX12_sum 26 = .ok (.iconst (-1), 1) := by decide +kernel
theorem dX12_sum_27 : decode cX12_sum 27 = .ok (.goto 10, 3) := by decide +kernel
theorem dX12_sum_30 : decode cX12_sum 30 = .ok (.aload_n 0, 1) := by decide +kernel
theorem dX12_sum_31 : decode cX12_sum 31 = .ok (.iload_n 1, 1) := by decide +kernel
theorem dX12_sum_32 : decode cX12_sum 32 = .ok (.iload_n 2, 1) := by decide +kernel
theorem dX12_sum_33 : decode cX12_sum 33 = .ok (.iload_n 3, 1) := by decide +kernel
theorem dX12_sum_34 : decode cX12_sum 34 = .ok (.invokevirtual 400, 3) := by decide +kernel
theorem dX12_sum_37 : decode cX12_sum 37 = .ok (.ireturn, 1) := by decide +kernel
theorem dX12_doubles_0 : decode cX12_doubles 0 = .ok (.iload_n 1, 1) := by decide +kernel
theorem dX12_doubles_1 : decode cX12_doubles 1 = .ok (.iconst 0, 1) := by decide +kernel
theorem dX12_doubles_2 : decode cX12_doubles 2 = .ok (.iconst 3, 1) := by decide +kernel
theorem dX12_doubles_3 : decode cX12_doubles 3 = .ok (.invokestatic 288, 3) := by decide +kernel
theorem dX12_doubles_6 : decode cX12_doubles 6 = .ok (.ifCond .eq 11, 3) := by decide +kernel
theorem dX12_doubles_9 : decode cX12_doubles 9 = .ok (.aload_n 0, 1) := by decide +kernel
theorem dX12_doubles_10 : decode cX12_doubles 10 = .ok (.iload_n 2, 1) := by decide +kernel
theorem dX12_doubles_11 : decode cX12_doubles 11 = .ok (.invokevirtual 325, 3) := by decide +kernel
theorem dX12_doubles_14 : decode cX12_doubles 14 = .ok (.ifCond .ne 5, 3) := by decide +kernel
theorem dX12_doubles_17 : decode cX12_doubles 17 = .ok (.iconst (-1), 1) := by decide +kernel
theorem dX12_doubles_18 : decode cX12_doubles 18 = .ok (.ireturn, 1) := by decide +kernel
theorem dX12_doubles_19 : decode cX12_doubles 19 = .ok (.iconst 0, 1) := by decide +kernel
theorem dX12_doubles_20 : decode cX12_doubles 20 = .ok (.istore_n 3, 1) := by decide +kernel
theorem dX12_doubles_21 : decode cX12_doubles 21 = .ok (.iconst 0, 1) := by decide +kernel
theorem dX12_doubles_22 : decode cX12_doubles 22 = .ok (.istore 4, 2) := by decide +kernel
theorem dX12_doubles_24 : decode cX12_doubles 24 = .ok (.iload 4, 2) := by decide +kernel
theorem dX12_doubles_26 : decode cX12_doubles 26 = .ok (.bipush 8, 2) := by decide +kernel
theorem dX12_doubles_28 : decode cX12_doubles 28 = .ok (.if_icmp .ge 40, 3) := by decide +kernel
theorem dX12_doubles_31 : decode cX12_doubles 31 = .ok (.aload_n 0, 1) := by decide +kernel
theorem dX12_doubles_32 : decode cX12_doubles 32 = .ok (.iload_n 1, 1) := by decide +kernel
theorem dX12_doubles_33 : decode cX12_doubles 33 = .ok (.iload 4, 2) := by decide +kernel
theorem dX12_doubles_35 : decode cX12_doubles 35 = .ok (.iconst 0, 1) := by decide +kernel
theorem dX12_doubles_36 : decode cX12_doubles 36 = .ok (.iload_n 2, 1) := by decide +kernel
theorem dX12_doubles_37 : decode cX12_doubles 37 = .ok (.invokevirtual 396, 3) := by decide +kernel
theorem dX12_doubles_40 : decode cX12_doubles 40 = .ok (.ifCond .eq 22, 3) := by decide +kernel
theorem dX12_doubles_43 : decode cX12_doubles 43 = .ok (.aload_n 0, 1) := by decide +kernel
theorem dX12_doubles_44 : decode cX12_doubles 44 = .ok (.iload_n 1, 1) := by decide +kernel
theorem dX12_doubles_45 : decode cX12_doubles 45 = .ok (.iload 4, 2) := by decide +kernel
theorem dX12_doubles_47 : decode cX12_doubles 47 = .ok (.iconst 1, 1) := by decide +kernel
theorem dX12_doubles_48 : decode cX12_doubles 48 = .ok (.iload_n 2, 1) := by decide +kernel
theorem dX12_doubles_49 : decode cX12_doubles 49 = .ok (.invokevirtual 396, 3) := by decide +kernel
theorem dX12_doubles_52 : decode cX12_doubles 52 = .ok (.ifCond .eq 10, 3) := by decide +kernel
theorem dX12_doubles_55 : decode cX12_doubles 55 = .ok (.iload_n 3, 1) := by decide +kernel
theorem dX12_doubles_56 : decode cX12_doubles 56 = .ok (.iconst 1, 1) := by decide +kernel
theorem dX12_doubles_57 : decode cX12_doubles 57 = .ok (.iload 4, 2) := by decide +kernel
theorem dX12_doubles_59 : decode cX12_doubles 59 = .ok (.ishl, 1) := by decide +kernel
theorem dX12_doubles_60 : decode cX12_doubles 60 = .ok (.ior, 1) := by decide +kernel
theorem dX12_doubles_61 : decode cX12_doubles 61 = .ok (.istore_n 3, 1) := by decide +kernel
theorem dX12_doubles_62 : decode cX12_doubles 62 = .ok (.iinc 4 1, 3) := by decide +kernel
theorem dX12_doubles_65 : decode cX12_doubles 65 = .ok (.goto (-41), 3) := by decide +kernel
theorem dX12_doubles_68 : decode cX12_doubles 68 = .ok (.iload_n 3, 1) := by decide +kernel
theorem dX12_doubles_69 : decode cX12_doubles 69 = .ok (.ireturn, 1) := by decide +kernel
theorem dX12_moved_0 : decode cX12_moved 0 = .ok (.iload_n 1, 1) := by decide +kernel
theorem dX12_moved_1 : decode cX12_moved 1 = .ok (.iconst 0, 1) := by decide +kernel
theorem dX12_moved_2 : decode cX12_moved 2 = .ok (.iconst 3, 1) := by decide +kernel
theorem dX12_moved_3 : decode cX12_moved 3 = .ok (.invokestatic 288, 3) := by decide +kernel
theorem dX12_moved_6 : decode cX12_moved 6 = .ok (.ifCond .eq 11, 3) := by decide +kernel
theorem dX12_moved_9 : decode cX12_moved 9 = .ok (.aload_n 0, 1) := by decide +kernel
theorem dX12_moved_10 : decode cX12_moved 10 = .ok (.iload_n 2, 1) := by decide +kernel
theorem dX12_moved_11 : decode cX12_moved 11 = .ok (.invokevirtual 325, 3) := by decide +kernel
theorem dX12_moved_14 : decode cX12_moved 14 = .ok (.ifCond .ne 5, 3) := by decide +kernel
theorem dX12_moved_17 : decode cX12_moved 17 = .ok (.iconst (-1), 1) := by decide +kernel
theorem dX12_moved_18 : decode cX12_moved 18 = .ok (.ireturn, 1) := by decide +kernel
theorem dX12_moved_19 : decode cX12_moved 19 = .ok (.iload_n 2, 1) := by decide +kernel
theorem dX12_moved_20 : decode cX12_moved 20 = .ok (.iconst 1, 1) := by decide +kernel
theorem dX12_moved_21 : decode cX12_moved 21 = .ok (.isub, 1) := by decide +kernel
theorem dX12_moved_22 : decode cX12_moved 22 = .ok (.istore_n 3, 1) := by decide +kernel
theorem dX12_moved_23 : decode cX12_moved 23 = .ok (.iload_n 3, 1) := by decide +kernel
theorem dX12_moved_24 : decode cX12_moved 24 = .ok (.ifCond .lt 94, 3) := by decide +kernel
theorem dX12_moved_27 : decode cX12_moved 27 = .ok (.aload_n 0, 1) := by decide +kernel
theorem dX12_moved_28 : decode cX12_moved 28 = .ok (.getfield 104, 3) := by decide +kernel
theorem dX12_moved_31 : decode cX12_moved 31 = .ok (.iload_n 3, 1) := by decide +kernel
theorem dX12_moved_32 : decode cX12_moved 32 = .ok (.iaload, 1) := by decide +kernel
theorem dX12_moved_33 : decode cX12_moved 33 = .ok (.bipush 9, 2) := by decide +kernel
theorem dX12_moved_35 : decode cX12_moved 35 = .ok (.if_icmp .ne 77, 3) := by decide +kernel
theorem dX12_moved_38 : decode cX12_moved 38 = .ok (.aload_n 0, 1) := by decide +kernel
theorem dX12_moved_39 : decode cX12_moved 39 = .ok (.getfield 110, 3) := by decide +kernel
theorem dX12_moved_42 : decode cX12_moved 42 = .ok (.iload_n 3, 1) := by decide +kernel
theorem dX12_moved_43 : decode cX12_moved 43 = .ok (.iaload, 1) := by decide +kernel
theorem dX12_moved_44 : decode cX12_moved 44 = .ok (.iload_n 1, 1) := by decide +kernel
theorem dX12_moved_45 : decode cX12_moved 45 = .ok (.if_icmp .eq 6, 3) := by decide +kernel
theorem dX12_moved_48 : decode cX12_moved 48 = .ok (.goto 64, 3) := by decide +kernel
theorem dX12_moved_51 : decode cX12_moved 51 = .ok (.aload_n 0, 1) := by decide +kernel
theorem dX12_moved_52 : decode cX12_moved 52 = .ok (.iload_n 1, 1) := by decide +kernel
theorem dX12_moved_53 : decode cX12_moved 53 = .ok (.iconst 0, 1) := by decide +kernel
theorem dX12_moved_54 : decode cX12_moved 54 = .ok (.iload_n 3, 1) := by decide +kernel
theorem dX12_moved_55 : decode cX12_moved 55 = .ok (.iconst 1, 1) := by decide +kernel
theorem dX12_moved_56 : decode cX12_moved 56 = .ok (.iadd, 1) := by decide +kernel
theorem dX12_moved_57 : decode cX12_moved 57 = .ok (.invokevirtual 400, 3) := by decide +kernel
theorem dX12_moved_60 : decode cX12_moved 60 = .ok (.aload_n 0, 1) := by decide +kernel
theorem dX12_moved_61 : decode cX12_moved 61 = .ok (.iload_n 1, 1) := by decide +kernel
theorem dX12_moved_62 : decode cX12_moved 62 = .ok (.iconst 1, 1) := by decide +kernel
theorem dX12_moved_63 : decode cX12_moved 63 = .ok (.iload_n 3, 1) := by decide +kernel
theorem dX12_moved_64 : decode cX12_moved 64 = .ok (.iconst 1, 1) := by decide +kernel
theorem dX12_moved_65 : decode cX12_moved 65 = .ok (.iadd, 1) := by decide +kernel
theorem dX12_moved_66 : decode cX12_moved 66 = .ok (.invokevirtual 400, 3) := by decide +kernel
theorem dX12_moved_69 : decode cX12_moved 69 = .ok (.if_icmp .le 7, 3) := by decide +kernel
theorem dX12_moved_72 : decode cX12_moved 72 = .ok (.iconst 1, 1) := by decide +kernel
theorem dX12_moved_73 : decode cX12_moved 73 = .ok (.goto 4, 3) := by decide +kernel
theorem dX12_moved_76 : decode cX12_moved 76 = .ok (.iconst 0, 1) := by decide +kernel
theorem dX12_moved_77 : decode cX12_moved 77 = .ok (.istore 4, 2) := by decide +kernel
theorem dX12_moved_79 : decode cX12_moved 79 = .ok (.aload_n 0, 1) := by decide +kernel
theorem dX12_moved_80 : decode cX12_moved 80 = .ok (.iload_n 1, 1) := by decide +kernel
theorem dX12_moved_81 : decode cX12_moved 81 = .ok (.iconst 0, 1) := by decide +kernel
theorem dX12_moved_82 : decode cX12_moved 82 = .ok (.iload_n 3, 1) := by decide +kernel
theorem dX12_moved_83 : decode cX12_moved 83 = .ok (.invokevirtual 400, 3) := by decide +kernel
theorem dX12_moved_86 : decode cX12_moved 86 = .ok (.aload_n 0, 1) := by decide +kernel
theorem dX12_moved_87 : decode cX12_moved 87 = .ok (.iload_n 1, 1) := by decide +kernel
theorem dX12_moved_88 : decode cX12_moved 88 = .ok (.iconst 1, 1) := by decide +kernel
theorem dX12_moved_89 : decode cX12_moved 89 = .ok (.iload_n 3, 1) := by decide +kernel
theorem dX12_moved_90 : decode cX12_moved 90 = .ok (.invokevirtual 400, 3) := by decide +kernel
theorem dX12_moved_93 : decode cX12_moved 93 = .ok (.if_icmp .le 7, 3) := by decide +kernel
theorem dX12_moved_96 : decode cX12_moved 96 = .ok (.iconst 1, 1) := by decide +kernel
theorem dX12_moved_97 : decode cX12_moved 97 = .ok (.goto 4, 3) := by decide +kernel
theorem dX12_moved_100 : decode cX12_moved 100 = .ok (.iconst 0, 1) := by decide +kernel
theorem dX12_moved_101 : decode cX12_moved 101 = .ok (.istore 5, 2) := by decide +kernel
theorem dX12_moved_103 : decode cX12_moved 103 = .ok (.iload 4, 2) := by decide +kernel
theorem dX12_moved_105 : decode cX12_moved 105 = .ok (.iload 5, 2) := by decide +kernel
theorem dX12_moved_107 : decode cX12_moved 107 = .ok (.if_icmp .eq 5, 3) := by decide +kernel
theorem dX12_moved_110 : decode cX12_moved 110 = .ok (.iload_n 3, 1) := by decide +kernel
theorem dX12_moved_111 : decode cX12_moved 111 = .ok (.ireturn, 1) := by decide +kernel
theorem dX12_moved_112 : decode cX12_moved 112 = .ok (.iinc 3 (-1), 3) := by decide +kernel
theorem dX12_moved_115 : decode cX12_moved 115 = .ok (.goto (-92), 3) := by decide +kernel
theorem dX12_moved_118 : decode cX12_moved 118 = .ok (.bipush (-2), 2) := by decide +kernel
theorem dX12_moved_120 : decode cX12_moved 120 = .ok (.ireturn, 1) := by decide +kernel
theorem dX12_reporter_0 : decode cX12_reporter 0 = .ok (.iload_n 1, 1) := by decide +kernel
theorem dX12_reporter_1 : decode cX12_reporter 1 = .ok (.iconst 0, 1) := by decide +kernel
theorem dX12_reporter_2 : decode cX12_reporter 2 = .ok (.iconst 3, 1) := by decide +kernel
theorem dX12_reporter_3 : decode cX12_reporter 3 = .ok (.invokestatic 288, 3) := by decide +kernel
theorem dX12_reporter_6 : decode cX12_reporter 6 = .ok (.ifCond .eq 24, 3) := by decide +kernel
theorem dX12_reporter_9 : decode cX12_reporter 9 = .ok (.iload_n 2, 1) := by decide +kernel
theorem dX12_reporter_10 : decode cX12_reporter 10 = .ok (.iconst 1, 1) := by decide +kernel
theorem dX12_reporter_11 : decode cX12_reporter 11 = .ok (.bipush 6, 2) := by decide +kernel
theorem dX12_reporter_13 : decode cX12_reporter 13 = .ok (.invokestatic 288, 3) := by decide +kernel
theorem dX12_reporter_16 : decode cX12_reporter 16 = .ok (.ifCond .eq 14, 3) := by decide +kernel
theorem dX12_reporter_19 : decode cX12_reporter 19 = .ok (.iload_n 3, 1) := by decide +kernel
theorem dX12_reporter_20 : decode cX12_reporter 20 = .ok (.iconst 0, 1) := by decide +kernel
theorem dX12_reporter_21 : decode cX12_reporter 21 = .ok (.sipush 255, 3) := by decide +kernel
theorem dX12_reporter_24 : decode cX12_reporter 24 = .ok (.invokestatic 288, 3) := by decide +kernel
theorem dX12_reporter_27 : decode cX12_reporter 27 = .ok (.ifCond .ne 5, 3) := by decide +kernel
theorem dX12_reporter_30 : decode cX12_reporter 30 = .ok (.iconst 0, 1) := by decide +kernel
theorem dX12_reporter_31 : decode cX12_reporter 31 = .ok (.ireturn, 1) := by decide +kernel
theorem dX12_reporter_32 : decode cX12_reporter 32 = .ok (.aload_n 0, 1) := by decide +kernel
theorem dX12_reporter_33 : decode cX12_reporter 33 = .ok (.getfield 140, 3) := by decide +kernel
theorem dX12_reporter_36 : decode cX12_reporter 36 = .ok (.iload_n 1, 1) := by decide +kernel
theorem dX12_reporter_37 : decode cX12_reporter 37 = .ok (.iload_n 2, 1) := by decide +kernel
theorem dX12_reporter_38 : decode cX12_reporter 38 = .ok (.iastore, 1) := by decide +kernel
theorem dX12_reporter_39 : decode cX12_reporter 39 = .ok (.aload_n 0, 1) := by decide +kernel
theorem dX12_reporter_40 : decode cX12_reporter 40 = .ok (.getfield 143, 3) := by decide +kernel
theorem dX12_reporter_43 : decode cX12_reporter 43 = .ok (.iload_n 1, 1) := by decide +kernel
theorem dX12_reporter_44 : decode cX12_reporter 44 = .ok (.iload_n 3, 1) := by decide +kernel
theorem dX12_reporter_45 : decode cX12_reporter 45 = .ok (.iastore, 1) := by decide +kernel
theorem dX12_reporter_46 : decode cX12_reporter 46 = .ok (.iconst 1, 1) := by decide +kernel
theorem dX12_reporter_47 : decode cX12_reporter 47 = .ok (.ireturn, 1) := by decide +kernel
theorem dX12_mayTake_0 : decode cX12_mayTake 0 = .ok (.aload_n 0, 1) := by decide +kernel
theorem dX12_mayTake_1 : decode cX12_mayTake 1 = .ok (.getfield 143, 3) := by decide +kernel
theorem dX12_mayTake_4 : decode cX12_mayTake 4 = .ok (.iload_n 2, 1) := by decide +kernel
theorem dX12_mayTake_5 : decode cX12_mayTake 5 = .ok (.iaload, 1) := by decide +kernel
theorem dX12_mayTake_6 : decode cX12_mayTake 6 = .ok (.iload_n 1, 1) := by decide +kernel
theorem dX12_mayTake_7 : decode cX12_mayTake 7 = .ok (.ishr, 1) := by decide +kernel
theorem dX12_mayTake_8 : decode cX12_mayTake 8 = .ok (.iconst 1, 1) := by decide +kernel
theorem dX12_mayTake_9 : decode cX12_mayTake 9 = .ok (.iand, 1) := by decide +kernel
theorem dX12_mayTake_10 : decode cX12_mayTake 10 = .ok (.iconst 1, 1) := by decide +kernel
theorem dX12_mayTake_11 : decode cX12_mayTake 11 = .ok (.if_icmp .ne 5, 3) := by decide +kernel
theorem dX12_mayTake_14 : decode cX12_mayTake 14 = .ok (.iconst 0, 1) := by decide +kernel
theorem dX12_mayTake_15 : decode cX12_mayTake 15 = .ok (.ireturn, 1) := by decide +kernel
theorem dX12_mayTake_16 : decode cX12_mayTake 16 = .ok (.iconst 0, 1) := by decide +kernel
theorem dX12_mayTake_17 : decode cX12_mayTake 17 = .ok (.istore_n 3, 1) := by decide +kernel
theorem dX12_mayTake_18 : decode cX12_mayTake 18 = .ok (.iload_n 3, 1) := by decide +kernel
theorem dX12_mayTake_19 : decode cX12_mayTake 19 = .ok (.iload_n 1, 1) := by decide +kernel
theorem dX12_mayTake_20 : decode cX12_mayTake 20 = .ok (.if_icmp .ge 33, 3) := by decide +kernel
theorem dX12_mayTake_23 : decode cX12_mayTake 23 = .ok (.aload_n 0, 1) := by decide +kernel
theorem dX12_mayTake_24 : decode cX12_mayTake 24 = .ok (.getfield 146, 3) := by decide +kernel
theorem dX12_mayTake_27 : decode cX12_mayTake 27 = .ok (.iload_n 3, 1) := by decide +kernel
theorem dX12_mayTake_28 : decode cX12_mayTake 28 = .ok (.iaload, 1) := by decide +kernel
theorem dX12_mayTake_29 : decode cX12_mayTake 29 = .ok (.iload_n 2, 1) := by decide +kernel
theorem dX12_mayTake_30 : decode cX12_mayTake 30 = .ok (.if_icmp .ne 17, 3) := by decide +kernel
theorem dX12_mayTake_33 : decode cX12_mayTake 33 = .ok (.iload_n 3, 1) := by decide +kernel
theorem dX12_mayTake_34 : decode cX12_mayTake 34 = .ok (.aload_n 0, 1) := by decide +kernel
theorem dX12_mayTake_35 : decode cX12_mayTake 35 = .ok (.getfield 140, 3) := by decide +kernel
theorem dX12_mayTake_38 : decode cX12_mayTake 38 = .ok (.iload_n 2, 1) := by decide +kernel
theorem dX12_mayTake_39 : decode cX12_mayTake 39 = .ok (.iaload, 1) := by decide +kernel
theorem dX12_mayTake_40 : decode cX12_mayTake 40 = .ok (.iadd, 1) := by decide +kernel
theorem dX12_mayTake_41 : decode cX12_mayTake 41 = .ok (.iload_n 1, 1) := by decide +kernel
theorem dX12_mayTake_42 : decode cX12_mayTake 42 = .ok (.if_icmp .lt 5, 3) := by decide +kernel
theorem dX12_mayTake_45 : decode cX12_mayTake 45 = .ok (.iconst 0, 1) := by decide +kernel
theorem dX12_mayTake_46 : decode cX12_mayTake 46 = .ok (.ireturn, 1) := by decide +kernel
theorem dX12_mayTake_47 : decode cX12_mayTake 47 = .ok (.iinc 3 1, 3) := by decide +kernel
theorem dX12_mayTake_50 : decode cX12_mayTake 50 = .ok (.goto (-32), 3) := by decide +kernel
theorem dX12_mayTake_53 : decode cX12_mayTake 53 = .ok (.iconst 1, 1) := by decide +kernel
theorem dX12_mayTake_54 : decode cX12_mayTake 54 = .ok (.ireturn, 1) := by decide +kernel
theorem dX12_roster_0 : decode cX12_roster 0 = .ok (.iload_n 1, 1) := by decide +kernel
theorem dX12_roster_1 : decode cX12_roster 1 = .ok (.iconst 1, 1) := by decide +kernel
theorem dX12_roster_2 : decode cX12_roster 2 = .ok (.bipush 8, 2) := by decide +kernel
theorem dX12_roster_4 : decode cX12_roster 4 = .ok (.invokestatic 288, 3) := by decide +kernel
theorem dX12_roster_7 : decode cX12_roster 7 = .ok (.ifCond .eq 12, 3) := by decide +kernel
theorem dX12_roster_10 : decode cX12_roster 10 = .ok (.iload_n 2, 1) := by decide +kernel
theorem dX12_roster_11 : decode cX12_roster 11 = .ok (.iconst 1, 1) := by decide +kernel
theorem dX12_roster_12 : decode cX12_roster 12 = .ok (.iconst 4, 1) := by decide +kernel
theorem dX12_roster_13 : decode cX12_roster 13 = .ok (.invokestatic 288, 3) := by decide +kernel
theorem dX12_roster_16 : decode cX12_roster 16 = .ok (.ifCond .ne 6, 3) := by decide +kernel
theorem dX12_roster_19 : decode cX12_roster 19 = .ok (.bipush (-100), 2) := by decide +kernel
theorem dX12_roster_21 : decode cX12_roster 21 = .ok (.ireturn, 1) := by decide +kernel
theorem dX12_roster_22 : decode cX12_roster 22 = .ok (.aload_n 0, 1) := by decide +kernel
theorem dX12_roster_23 : decode cX12_roster 23 = .ok (.iconst 0, 1) := by decide +kernel
theorem dX12_roster_24 : decode cX12_roster 24 = .ok (.putfield 403, 3) := by decide +kernel
theorem dX12_roster_27 : decode cX12_roster 27 = .ok (.iconst 0, 1) := by decide +kernel
theorem dX12_roster_28 : decode cX12_roster 28 = .ok (.istore_n 3, 1) := by decide +kernel
theorem dX12_roster_29 : decode cX12_roster 29 = .ok (.iconst (-1), 1) := by decide +kernel
theorem dX12_roster_30 : decode cX12_roster 30 = .ok (.istore 4, 2) := by decide +kernel
theorem dX12_roster_32 : decode cX12_roster 32 = .ok (.iconst 0, 1) := by decide +kernel
theorem dX12_roster_33 : decode cX12_roster 33 = .ok (.istore 5, 2) := by decide +kernel
theorem dX12_roster_35 : decode cX12_roster 35 = .ok (.aload_n 0, 1) := by decide +kernel
theorem dX12_roster_36 : decode cX12_roster 36 = .ok (.getfield 146, 3) := by decide +kernel
theorem dX12_roster_39 : decode cX12_roster 39 = .ok (.iconst 0, 1) := by decide +kernel
theorem dX12_roster_40 : decode cX12_roster 40 = .ok (.iconst (-1), 1) := by decide +kernel
theorem dX12_roster_41 : decode cX12_roster 41 = .ok (.iastore, 1) := by decide +kernel
theorem dX12_roster_42 : decode cX12_roster 42 = .ok (.iload 5, 2) := by decide +kernel
theorem dX12_roster_44 : decode cX12_roster 44 = .ok (.ifCond .lt 197, 3) := by decide +kernel
theorem dX12_roster_47 : decode cX12_roster 47 = .ok (.aload_n 0, 1) := by decide +kernel
theorem dX12_roster_48 : decode cX12_roster 48 = .ok (.getfield 146, 3) := by decide +kernel
theorem dX12_roster_51 : decode cX12_roster 51 = .ok (.iload 5, 2) := by decide +kernel
theorem dX12_roster_53 : decode cX12_roster 53 = .ok (.dup2, 1) := by decide +kernel
theorem dX12_roster_54 : decode cX12_roster 54 = .ok (.iaload, 1) := by decide +kernel
theorem dX12_roster_55 : decode cX12_roster 55 = .ok (.iconst 1, 1) := by decide +kernel
theorem dX12_roster_56 : decode cX12_roster 56 = .ok (.iadd, 1) := by decide +kernel
theorem dX12_roster_57 : decode cX12_roster 57 = .ok (.iastore, 1) := by decide +kernel
theorem dX12_roster_58 : decode cX12_roster 58 = .ok (.aload_n 0, 1) := by decide +kernel
theorem dX12_roster_59 : decode cX12_roster 59 = .ok (.getfield 146, 3) := by decide +kernel
theorem dX12_roster_62 : decode cX12_roster 62 = .ok (.iload 5, 2) := by decide +kernel
theorem dX12_roster_64 : decode cX12_roster 64 = .ok (.iaload, 1) := by decide +kernel
theorem dX12_roster_65 : decode cX12_roster 65 = .ok (.iload_n 2, 1) := by decide +kernel
theorem dX12_roster_66 : decode cX12_roster 66 = .ok (.if_icmp .ne 9, 3) := by decide +kernel
theorem dX12_roster_69 : decode cX12_roster 69 = .ok (.iinc 5 (-1), 3) := by decide +kernel
theorem dX12_roster_72 : decode cX12_roster 72 = .ok (.goto (-30), 3) := by decide +kernel
theorem dX12_roster_75 : decode cX12_roster 75 = .ok (.aload_n 0, 1) := by decide +kernel
theorem dX12_roster_76 : decode cX12_roster 76 = .ok (.iload 5, 2) := by decide +kernel
theorem dX12_roster_78 : decode cX12_roster 78 = .ok (.aload_n 0, 1) := by decide +kernel
theorem dX12_roster_79 : decode cX12_roster 79 = .ok (.getfield 146, 3) := by decide +kernel
theorem dX12_roster_82 : decode cX12_roster 82 = .ok (.iload 5, 2) := by decide +kernel
theorem dX12_roster_84 : decode cX12_roster 84 = .ok (.iaload, 1) := by decide +kernel
theorem dX12_roster_85 : decode cX12_roster 85 = .ok (.invokevirtual 406, 3) := by decide +kernel
theorem dX12_roster_88 : decode cX12_roster 88 = .ok (.ifCond .ne 6, 3) := by decide +kernel
theorem dX12_roster_91 : decode cX12_roster 91 = .ok (.goto (-49), 3) := by decide +kernel
theorem dX12_roster_94 : decode cX12_roster 94 = .ok (.iload 5, 2) := by decide +kernel
theorem dX12_roster_96 : decode cX12_roster 96 = .ok (.iconst 1, 1) := by decide +kernel
theorem dX12_roster_97 : decode cX12_roster 97 = .ok (.iadd, 1) := by decide +kernel
theorem dX12_roster_98 : decode cX12_roster 98 = .ok (.iload_n 3, 1) := by decide +kernel
theorem dX12_roster_99 : decode cX12_roster 99 = .ok (.if_icmp .le 8, 3) := by decide +kernel
theorem dX12_roster_102 : decode cX12_roster 102 = .ok (.iload 5, 2) := by decide +kernel
theorem dX12_roster_104 : decode cX12_roster 104 = .ok (.iconst 1, 1) := by decide +kernel
theorem dX12_roster_105 : decode cX12_roster 105 = .ok (.iadd, 1) := by decide +kernel
theorem dX12_roster_106 : decode cX12_roster 106 = .ok (.istore_n 3, 1) := by decide +kernel
theorem dX12_roster_107 : decode cX12_roster 107 = .ok (.iload 5, 2) := by decide +kernel
theorem dX12_roster_109 : decode cX12_roster 109 = .ok (.iconst 1, 1) := by decide +kernel
theorem dX12_roster_110 : decode cX12_roster 110 = .ok (.iadd, 1) := by decide +kernel
theorem dX12_roster_111 : decode cX12_roster 111 = .ok (.iload_n 1, 1) := by decide +kernel
theorem dX12_roster_112 : decode cX12_roster 112 = .ok (.if_icmp .ge 17, 3) := by decide +kernel
theorem dX12_roster_115 : decode cX12_roster 115 = .ok (.iinc 5 1, 3) := by decide +kernel
theorem dX12_roster_118 : decode cX12_roster 118 = .ok (.aload_n 0, 1) := by decide +kernel
theorem dX12_roster_119 : decode cX12_roster 119 = .ok (.getfield 146, 3) := by decide +kernel
theorem dX12_roster_122 : decode cX12_roster 122 = .ok (.iload 5, 2) := by decide +kernel
theorem dX12_roster_124 : decode cX12_roster 124 = .ok (.iconst (-1), 1) := by decide +kernel
theorem dX12_roster_125 : decode cX12_roster 125 = .ok (.iastore, 1) := by decide +kernel
theorem dX12_roster_126 : decode cX12_roster 126 = .ok (.goto (-84), 3) := by decide +kernel
theorem dX12_roster_129 : decode cX12_roster 129 = .ok (.iconst 0, 1) := by decide +kernel
theorem dX12_roster_130 : decode cX12_roster 130 = .ok (.istore 6, 2) := by decide +kernel
theorem dX12_roster_132 : decode cX12_roster 132 = .ok (.iconst 0, 1) := by decide +kernel
theorem dX12_roster_133 : decode cX12_roster 133 = .ok (.istore 7, 2) := by decide +kernel
theorem dX12_roster_135 : decode cX12_roster 135 = .ok (.iload 7, 2) := by decide +kernel
theorem dX12_roster_137 : decode cX12_roster 137 = .ok (.iload_n 1, 1) := by decide +kernel
theorem dX12_roster_138 : decode cX12_roster 138 = .ok (.if_icmp .ge 46, 3) := by decide +kernel
theorem dX12_roster_141 : decode cX12_roster 141 = .ok (.iload 7, 2) := by decide +kernel
theorem dX12_roster_143 : decode cX12_roster 143 = .ok (.aload_n 0, 1) := by decide +kernel
theorem dX12_roster_144 : decode cX12_roster 144 = .ok (.getfield 140, 3) := by decide +kernel
theorem dX12_roster_147 : decode cX12_roster 147 = .ok (.aload_n 0, 1) := by decide +kernel
theorem dX12_roster_148 : decode cX12_roster 148 = .ok (.getfield 146, 3) := by decide +kernel
theorem dX12_roster_151 : decode cX12_roster 151 = .ok (.iload 7, 2) := by decide +kernel
theorem dX12_roster_153 : decode cX12_roster 153 = .ok (.iaload, 1) := by decide +kernel
theorem dX12_roster_154 : decode cX12_roster 154 = .ok (.iaload, 1) := by decide +kernel
theorem dX12_roster_155 : decode cX12_roster 155 = .ok (.iadd, 1) := by decide +kernel
theorem dX12_roster_156 : decode cX12_roster 156 = .ok (.iload 6, 2) := by decide +kernel
theorem dX12_roster_158 : decode cX12_roster 158 = .ok (.if_icmp .le 20, 3) := by decide +kernel
theorem dX12_roster_161 : decode cX12_roster 161 = .ok (.iload 7, 2) := by decide +kernel
theorem dX12_roster_163 : decode cX12_roster 163 = .ok (.aload_n 0, 1) := by decide +kernel
theorem dX12_roster_164 : decode cX12_roster 164 = .ok (.getfield 140, 3) := by decide +kernel
theorem dX12_roster_167 : decode cX12_roster 167 = .ok (.aload_n 0, 1) := by decide +kernel
theorem dX12_roster_168 : decode cX12_roster 168 = .ok (.getfield 146, 3) := by decide +kernel
theorem dX12_roster_171 : decode cX12_roster 171 = .ok (.iload 7, 2) := by decide +kernel
theorem dX12_roster_173 : decode cX12_roster 173 = .ok (.iaload, 1) := by decide +kernel
theorem dX12_roster_174 : decode cX12_roster 174 = .ok (.iaload, 1) := by decide +kernel
theorem dX12_roster_175 : decode cX12_roster 175 = .ok (.iadd, 1) := by decide +kernel
theorem dX12_roster_176 : decode cX12_roster 176 = .ok (.istore 6, 2) := by decide +kernel
theorem dX12_roster_178 : decode cX12_roster 178 = .ok (.iinc 7 1, 3) := by decide +kernel
theorem dX12_roster_181 : decode cX12_roster 181 = .ok (.goto (-46), 3) := by decide +kernel
theorem dX12_roster_184 : decode cX12_roster 184 = .ok (.iload 4, 2) := by decide +kernel
theorem dX12_roster_186 : decode cX12_roster 186 = .ok (.iconst (-1), 1) := by decide +kernel
theorem dX12_roster_187 : decode cX12_roster 187 = .ok (.if_icmp .eq 13, 3) := by decide +kernel
theorem dX12_roster_190 : decode cX12_roster 190 = .ok (.iload 6, 2) := by decide +kernel
theorem dX12_roster_192 : decode cX12_roster 192 = .ok (.iload 4, 2) := by decide +kernel
theorem dX12_roster_194 : decode cX12_roster 194 = .ok (.if_icmp .lt 6, 3) := by decide +kernel
theorem dX12_roster_197 : decode cX12_roster 197 = .ok (.goto (-155), 3) := by decide +kernel
theorem dX12_roster_200 : decode cX12_roster 200 = .ok (.iload 6, 2) := by decide +kernel
theorem dX12_roster_202 : decode cX12_roster 202 = .ok (.istore 4, 2) := by decide +kernel
theorem dX12_roster_204 : decode cX12_roster 204 = .ok (.aload_n 0, 1) := by decide +kernel
theorem dX12_roster_205 : decode cX12_roster 205 = .ok (.iload_n 1, 1) := by decide +kernel
theorem dX12_roster_206 : decode cX12_roster 206 = .ok (.putfield 403, 3) := by decide +kernel
theorem dX12_roster_209 : decode cX12_roster 209 = .ok (.iconst 0, 1) := by decide +kernel
theorem dX12_roster_210 : decode cX12_roster 210 = .ok (.istore 7, 2) := by decide +kernel
theorem dX12_roster_212 : decode cX12_roster 212 = .ok (.iload 7, 2) := by decide +kernel
theorem dX12_roster_214 : decode cX12_roster 214 = .ok (.iload_n 1, 1) := by decide +kernel
theorem dX12_roster_215 : decode cX12_roster 215 = .ok (.if_icmp .ge 23, 3) := by decide +kernel
theorem dX12_roster_218 : decode cX12_roster 218 = .ok (.aload_n 0, 1) := by decide +kernel
theorem dX12_roster_219 : decode cX12_roster 219 = .ok (.getfield 149, 3) := by decide +kernel
theorem dX12_roster_222 : decode cX12_roster 222 = .ok (.iload 7, 2) := by decide +kernel
theorem dX12_roster_224 : decode cX12_roster 224 = .ok (.aload_n 0, 1) := by decide +kernel
theorem dX12_roster_225 : decode cX12_roster 225 = .ok (.getfield 146, 3) := by decide +kernel
theorem dX12_roster_228 : decode cX12_roster 228 = .ok (.iload 7, 2) := by decide +kernel
theorem dX12_roster_230 : decode cX12_roster 230 = .ok (.iaload, 1) := by decide +kernel
theorem dX12_roster_231 : decode cX12_roster 231 = .ok (.iastore, 1) := by decide +kernel
theorem dX12_roster_232 : decode cX12_roster 232 = .ok (.iinc 7 1, 3) := by decide +kernel
theorem dX12_roster_235 : decode cX12_roster 235 = .ok (.goto (-23), 3) := by decide +kernel
theorem dX12_roster_238 : decode cX12_roster 238 = .ok (.goto (-196), 3) := by decide +kernel
theorem dX12_roster_241 : decode cX12_roster 241 = .ok (.iload 4, 2) := by decide +kernel
theorem dX12_roster_243 : decode cX12_roster 243 = .ok (.iconst (-1), 1) := by decide +kernel
theorem dX12_roster_244 : decode cX12_roster 244 = .ok (.if_icmp .ne 9, 3) := by decide +kernel
theorem dX12_roster_247 : decode cX12_roster 247 = .ok (.iconst (-1), 1) := by decide +kernel
theorem dX12_roster_248 : decode cX12_roster 248 = .ok (.iload_n 3, 1) := by decide +kernel
theorem dX12_roster_249 : decode cX12_roster 249 = .ok (.isub, 1) := by decide +kernel
theorem dX12_roster_250 : decode cX12_roster 250 = .ok (.goto 5, 3) := by decide +kernel
theorem dX12_roster_253 : decode cX12_roster 253 = .ok (.iload 4, 2) := by decide +kernel
theorem dX12_roster_255 : decode cX12_roster 255 = .ok (.ireturn, 1) := by decide +kernel
theorem dX12_turn_0 : decode cX12_turn 0 = .ok (.iload_n 1, 1) := by decide +kernel
theorem dX12_turn_1 : decode cX12_turn 1 = .ok (.iconst 0, 1) := by decide +kernel
theorem dX12_turn_2 : decode cX12_turn 2 = .ok (.aload_n 0, 1) := by decide +kernel
theorem dX12_turn_3 : decode cX12_turn 3 = .ok (.getfield 403, 3) := by decide +kernel
theorem dX12_turn_6 : decode cX12_turn 6 = .ok (.iconst 1, 1) := by decide +kernel
theorem dX12_turn_7 : decode cX12_turn 7 = .ok (.isub, 1) := by decide +kernel
theorem dX12_turn_8 : decode cX12_turn 8 = .ok (.invokestatic 288, 3) := by decide +kernel
theorem dX12_turn_11 : decode cX12_turn 11 = .ok (.ifCond .eq 12, 3) := by decide +kernel
theorem dX12_turn_14 : decode cX12_turn 14 = .ok (.aload_n 0, 1) := by decide +kernel
theorem dX12_turn_15 : decode cX12_turn 15 = .ok (.getfield 149, 3) := by decide +kernel
theorem dX12_turn_18 : decode cX12_turn 18 = .ok (.iload_n 1, 1) := by decide +kernel
theorem dX12_turn_19 : decode cX12_turn 19 = .ok (.iaload, 1) := by decide +kernel
theorem dX12_turn_20 : decode cX12_turn 20 = .ok (.goto 4, 3) := by decide +kernel
theorem dX12_turn_23 : decode cX12_turn 23 = .ok (.iconst (-1), 1) := by decide +kernel
theorem dX12_turn_24 : decode cX12_turn 24 = .ok (.ireturn, 1) := by decide +kernel
theorem dX12_sames_0 : decode cX12_sames 0 = .ok (.iconst 0, 1) := by decide +kernel
theorem dX12_sames_1 : decode cX12_sames 1 = .ok (.istore 4, 2) := by decide +kernel
theorem dX12_sames_3 : decode cX12_sames 3 = .ok (.iload 4, 2) := by decide +kernel
theorem dX12_sames_5 : decode cX12_sames 5 = .ok (.sipush 1000, 3) := by decide +kernel
theorem dX12_sames_8 : decode cX12_sames 8 = .ok (.if_icmp .ge 27, 3) := by decide +kernel
theorem dX12_sames_11 : decode cX12_sames 11 = .ok (.aload_n 0, 1) := by decide +kernel
theorem dX12_sames_12 : decode cX12_sames 12 = .ok (.getfield 152, 3) := by decide +kernel
theorem dX12_sames_15 : decode cX12_sames 15 = .ok (.iload 4, 2) := by decide +kernel
theorem dX12_sames_17 : decode cX12_sames 17 = .ok (.iload 4, 2) := by decide +kernel
theorem dX12_sames_19 : decode cX12_sames 19 = .ok (.iload_n 1, 1) := by decide +kernel
theorem dX12_sames_20 : decode cX12_sames 20 = .ok (.if_icmp .ne 7, 3) := by decide +kernel
theorem dX12_sames_23 : decode cX12_sames 23 = .ok (.iconst 1, 1) := by decide +kernel
theorem dX12_sames_24 : decode cX12_sames 24 = .ok (.goto 4, 3) := by decide +kernel
theorem dX12_sames_27 : decode cX12_sames 27 = .ok (.iconst 0, 1) := by decide +kernel
theorem dX12_sames_28 : decode cX12_sames 28 = .ok (.bastore, 1) := by decide +kernel
theorem dX12_sames_29 : decode cX12_sames 29 = .ok (.iinc 4 1, 3) := by decide +kernel
theorem dX12_sames_32 : decode cX12_sames 32 = .ok (.goto (-29), 3) := by decide +kernel
theorem dX12_sames_35 : decode cX12_sames 35 = .ok (.iconst 1, 1) := by decide +kernel
theorem dX12_sames_36 : decode cX12_sames 36 = .ok (.istore 4, 2) := by decide +kernel
theorem dX12_sames_38 : decode cX12_sames 38 = .ok (.iload 4, 2) := by decide +kernel
theorem dX12_sames_40 : decode cX12_sames 40 = .ok (.ifCond .eq 106, 3) := by decide +kernel
theorem dX12_sames_43 : decode cX12_sames 43 = .ok (.iconst 0, 1) := by decide +kernel
theorem dX12_sames_44 : decode cX12_sames 44 = .ok (.istore 4, 2) := by decide +kernel
theorem dX12_sames_46 : decode cX12_sames 46 = .ok (.iconst 0, 1) := by decide +kernel
theorem dX12_sames_47 : decode cX12_sames 47 = .ok (.istore 5, 2) := by decide +kernel
theorem dX12_sames_49 : decode cX12_sames 49 = .ok (.iload 5, 2) := by decide +kernel
theorem dX12_sames_51 : decode cX12_sames 51 = .ok (.iload_n 3, 1) := by decide +kernel
theorem dX12_sames_52 : decode cX12_sames 52 = .ok (.if_icmp .ge 91, 3) := by decide +kernel
theorem dX12_sames_55 : decode cX12_sames 55 = .ok (.aload_n 0, 1) := by decide +kernel
theorem dX12_sames_56 : decode cX12_sames 56 = .ok (.getfield 104, 3) := by decide +kernel
theorem dX12_sames_59 : decode cX12_sames 59 = .ok (.iload 5, 2) := by decide +kernel
theorem dX12_sames_61 : decode cX12_sames 61 = .ok (.iaload, 1) := by decide +kernel
theorem dX12_sames_62 : decode cX12_sames 62 = .ok (.bipush 8, 2) := by decide +kernel
theorem dX12_sames_64 : decode cX12_sames 64 = .ok (.if_icmp .ne 73, 3) := by decide +kernel
theorem dX12_sames_67 : decode cX12_sames 67 = .ok (.aload_n 0, 1) := by decide +kernel
theorem dX12_sames_68 : decode cX12_sames 68 = .ok (.getfield 107, 3) := by decide +kernel
theorem dX12_sames_71 : decode cX12_sames 71 = .ok (.iload 5, 2) := by decide +kernel
theorem dX12_sames_73 : decode cX12_sames 73 = .ok (.iaload, 1) := by decide +kernel
theorem dX12_sames_74 : decode cX12_sames 74 = .ok (.iload_n 2, 1) := by decide +kernel
theorem dX12_sames_75 : decode cX12_sames 75 = .ok (.if_icmp .gt 62, 3) := by decide +kernel
theorem dX12_sames_78 : decode cX12_sames 78 = .ok (.aload_n 0, 1) := by decide +kernel
theorem dX12_sames_79 : decode cX12_sames 79 = .ok (.getfield 152, 3) := by decide +kernel
theorem dX12_sames_82 : decode cX12_sames 82 = .ok (.aload_n 0, 1) := by decide +kernel
theorem dX12_sames_83 : decode cX12_sames 83 = .ok (.getfield 110, 3) := by decide +kernel
theorem dX12_sames_86 : decode cX12_sames 86 = .ok (.iload 5, 2) := by decide +kernel
theorem dX12_sames_88 : decode cX12_sames 88 = .ok (.iaload, 1) := by decide +kernel
theorem dX12_sames_89 : decode cX12_sames 89 = .ok (.baload, 1) := by decide +kernel
theorem dX12_sames_90 : decode cX12_sames 90 = .ok (.aload_n 0, 1) := by decide +kernel
theorem dX12_sames_91 : decode cX12_sames 91 = .ok (.getfield 152, 3) := by decide +kernel
theorem dX12_sames_94 : decode cX12_sames 94 = .ok (.aload_n 0, 1) := by decide +kernel
theorem dX12_sames_95 : decode cX12_sames 95 = .ok (.getfield 113, 3) := by decide +kernel
theorem dX12_sames_98 : decode cX12_sames 98 = .ok (.iload 5, 2) := by decide +kernel
theorem dX12_sames_100 : decode cX12_sames 100 = .ok (.iaload, 1) := by decide +kernel
theorem dX12_sames_101 : decode cX12_sames 101 = .ok (.baload, 1) := by decide +kernel
theorem dX12_sames_102 : decode cX12_sames 102 = .ok (.if_icmp .ne 6, 3) := by decide +kernel
theorem dX12_sames_105 : decode cX12_sames 105 = .ok (.goto 32, 3) := by decide +kernel
theorem dX12_sames_108 : decode cX12_sames 108 = .ok (.aload_n 0, 1) := by decide +kernel
theorem dX12_sames_109 : decode cX12_sames 109 = .ok (.getfield 152, 3) := by decide +kernel
theorem dX12_sames_112 : decode cX12_sames 112 = .ok (.aload_n 0, 1) := by decide +kernel
theorem dX12_sames_113 : decode cX12_sames 113 = .ok (.getfield 110, 3) := by decide +kernel
theorem dX12_sames_116 : decode cX12_sames 116 = .ok (.iload 5, 2) := by decide +kernel
theorem dX12_sames_118 : decode cX12_sames 118 = .ok (.iaload, 1) := by decide +kernel
theorem dX12_sames_119 : decode cX12_sames 119 = .ok (.iconst 1, 1) := by decide +kernel
theorem dX12_sames_120 : decode cX12_sames 120 = .ok (.bastore, 1) := by decide +kernel
theorem dX12_sames_121 : decode cX12_sames 121 = .ok (.aload_n 0, 1) := by decide +kernel
theorem dX12_sames_122 : decode cX12_sames 122 = .ok (.getfield 152, 3) := by decide +kernel
theorem dX12_sames_125 : decode cX12_sames 125 = .ok (.aload_n 0, 1) := by decide +kernel
theorem dX12_sames_126 : decode cX12_sames 126 = .ok (.getfield 113, 3) := by decide +kernel
theorem dX12_sames_129 : decode cX12_sames 129 = .ok (.iload 5, 2) := by decide +kernel
theorem dX12_sames_131 : decode cX12_sames 131 = .ok (.iaload, 1) := by decide +kernel
theorem dX12_sames_132 : decode cX12_sames 132 = .ok (.iconst 1, 1) := by decide +kernel
theorem dX12_sames_133 : decode cX12_sames 133 = .ok (.bastore, 1) := by decide +kernel
theorem dX12_sames_134 : decode cX12_sames 134 = .ok (.iconst 1, 1) := by decide +kernel
theorem dX12_sames_135 : decode cX12_sames 135 = .ok (.istore 4, 2) := by decide +kernel
theorem dX12_sames_137 : decode cX12_sames 137 = .ok (.iinc 5 1, 3) := by decide +kernel
theorem dX12_sames_140 : decode cX12_sames 140 = .ok (.goto (-91), 3) := by decide +kernel
theorem dX12_sames_143 : decode cX12_sames 143 = .ok (.goto (-105), 3) := by decide +kernel
theorem dX12_sames_146 : decode cX12_sames 146 = .ok (.return_, 1) := by decide +kernel
theorem dX12_same_0 : decode cX12_same 0 = .ok (.iload_n 1, 1) := by decide +kernel
theorem dX12_same_1 : decode cX12_same 1 = .ok (.invokestatic 307, 3) := by decide +kernel
theorem dX12_same_4 : decode cX12_same 4 = .ok (.ifCond .eq 26, 3) := by decide +kernel
theorem dX12_same_7 : decode cX12_same 7 = .ok (.iload_n 2, 1) := by decide +kernel
theorem dX12_same_8 : decode cX12_same 8 = .ok (.invokestatic 307, 3) := by decide +kernel
theorem dX12_same_11 : decode cX12_same 11 = .ok (.ifCond .eq 19, 3) := by decide +kernel
theorem dX12_same_14 : decode cX12_same 14 = .ok (.iload_n 3, 1) := by decide +kernel
theorem dX12_same_15 : decode cX12_same 15 = .ok (.invokestatic 292, 3) := by decide +kernel
theorem dX12_same_18 : decode cX12_same 18 = .ok (.ifCond .eq 12, 3) := by decide +kernel
theorem dX12_same_21 : decode cX12_same 21 = .ok (.aload_n 0, 1) := by decide +kernel
theorem dX12_same_22 : decode cX12_same 22 = .ok (.iload 4, 2) := by decide +kernel
theorem dX12_same_24 : decode cX12_same 24 = .ok (.invokevirtual 325, 3) := by decide +kernel
theorem dX12_same_27 : decode cX12_same 27 = .ok (.ifCond .ne 5, 3) := by decide +kernel
theorem dX12_same_30 : decode cX12_same 30 = .ok (.iconst (-1), 1) := by decide +kernel
theorem dX12_same_31 : decode cX12_same 31 = .ok (.ireturn, 1) := by decide +kernel
theorem dX12_same_32 : decode cX12_same 32 = .ok (.aload_n 0, 1) := by decide +kernel
theorem dX12_same_33 : decode cX12_same 33 = .ok (.iload_n 1, 1) := by decide +kernel
theorem dX12_same_34 : decode cX12_same 34 = .ok (.iload_n 3, 1) := by decide +kernel
theorem dX12_same_35 : decode cX12_same 35 = .ok (.iload 4, 2) := by decide +kernel
theorem dX12_same_37 : decode cX12_same 37 = .ok (.invokevirtual 409, 3) := by decide +kernel
theorem dX12_same_40 : decode cX12_same 40 = .ok (.aload_n 0, 1) := by decide +kernel
theorem dX12_same_41 : decode cX12_same 41 = .ok (.getfield 152, 3) := by decide +kernel
theorem dX12_same_44 : decode cX12_same 44 = .ok (.iload_n 2, 1) := by decide +kernel
theorem dX12_same_45 : decode cX12_same 45 = .ok (.baload, 1) := by decide +kernel
theorem dX12_same_46 : decode cX12_same 46 = .ok (.ifCond .eq 7, 3) := by decide +kernel
theorem dX12_same_49 : decode cX12_same 49 = .ok (.iconst 1, 1) := by decide +kernel
theorem dX12_same_50 : decode cX12_same 50 = .ok (.goto 4, 3) := by decide +kernel
theorem dX12_same_53 : decode cX12_same 53 = .ok (.iconst 0, 1) := by decide +kernel
theorem dX12_same_54 : decode cX12_same 54 = .ok (.ireturn, 1) := by decide +kernel
theorem dX12_namesOf_0 : decode cX12_namesOf 0 = .ok (.aload_n 0, 1) := by decide +kernel
theorem dX12_namesOf_1 : decode cX12_namesOf 1 = .ok (.iload_n 1, 1) := by decide +kernel
theorem dX12_namesOf_2 : decode cX12_namesOf 2 = .ok (.iload_n 2, 1) := by decide +kernel
theorem dX12_namesOf_3 : decode cX12_namesOf 3 = .ok (.iload_n 3, 1) := by decide +kernel
theorem dX12_namesOf_4 : decode cX12_namesOf 4 = .ok (.invokevirtual 409, 3) := by decide +kernel
theorem dX12_namesOf_7 : decode cX12_namesOf 7 = .ok (.iconst (-1), 1) := by decide +kernel
theorem dX12_namesOf_8 : decode cX12_namesOf 8 = .ok (.istore 5, 2) := by decide +kernel
theorem dX12_namesOf_10 : decode cX12_namesOf 10 = .ok (.aload_n 0, 1) := by decide +kernel
theorem dX12_namesOf_11 : decode cX12_namesOf 11 = .ok (.iconst 0, 1) := by decide +kernel
theorem dX12_namesOf_12 : decode cX12_namesOf 12 = .ok (.putfield 376, 3) := by decide +kernel
theorem dX12_namesOf_15 : decode cX12_namesOf 15 = .ok (.iconst 0, 1) := by decide +kernel
theorem dX12_namesOf_16 : decode cX12_namesOf 16 = .ok (.istore 6, 2) := by decide +kernel
theorem dX12_namesOf_18 : decode cX12_namesOf 18 = .ok (.iload 6, 2) := by decide +kernel
theorem dX12_namesOf_20 : decode cX12_namesOf 20 = .ok (.iload_n 2, 1) := by decide +kernel
theorem dX12_namesOf_21 : decode cX12_namesOf 21 = .ok (.if_icmp .gt 113, 3) := by decide +kernel
theorem dX12_namesOf_24 : decode cX12_namesOf 24 = .ok (.aload_n 0, 1) := by decide +kernel
theorem dX12_namesOf_25 : decode cX12_namesOf 25 = .ok (.iload 6, 2) := by decide +kernel
theorem dX12_namesOf_27 : decode cX12_namesOf 27 = .ok (.iload_n 3, 1) := by decide +kernel
theorem dX12_namesOf_28 : decode cX12_namesOf 28 = .ok (.invokevirtual 373, 3) := by decide +kernel
theorem dX12_namesOf_31 : decode cX12_namesOf 31 = .ok (.iconst 0, 1) := by decide +kernel
theorem dX12_namesOf_32 : decode cX12_namesOf 32 = .ok (.istore 7, 2) := by decide +kernel
theorem dX12_namesOf_34 : decode cX12_namesOf 34 = .ok (.iload 7, 2) := by decide +kernel
theorem dX12_namesOf_36 : decode cX12_namesOf 36 = .ok (.aload_n 0, 1) := by decide +kernel
theorem dX12_namesOf_37 : decode cX12_namesOf 37 = .ok (.getfield 370, 3) := by decide +kernel
theorem dX12_namesOf_40 : decode cX12_namesOf 40 = .ok (.if_icmp .ge 88, 3) := by decide +kernel
theorem dX12_namesOf_43 : decode cX12_namesOf 43 = .ok (.aload_n 0, 1) := by decide +kernel
theorem dX12_namesOf_44 : decode cX12_namesOf 44 = .ok (.aload_n 0, 1) := by decide +kernel
theorem dX12_namesOf_45 : decode cX12_namesOf 45 = .ok (.getfield 128, 3) := by decide +kernel
theorem dX12_namesOf_48 : decode cX12_namesOf 48 = .ok (.iload 7, 2) := by decide +kernel
theorem dX12_namesOf_50 : decode cX12_namesOf 50 = .ok (.iaload, 1) := by decide +kernel
theorem dX12_namesOf_51 : decode cX12_namesOf 51 = .ok (.iload_n 2, 1) := by decide +kernel
theorem dX12_namesOf_52 : decode cX12_namesOf 52 = .ok (.iload_n 3, 1) := by decide +kernel
theorem dX12_namesOf_53 : decode cX12_namesOf 53 = .ok (.iload_n 3, 1) := by decide +kernel
theorem dX12_namesOf_54 : decode cX12_namesOf 54 = .ok (.invokevirtual 360, 3) := by decide +kernel
theorem dX12_namesOf_57 : decode cX12_namesOf 57 = .ok (.aload_n 0, 1) := by decide +kernel
theorem dX12_namesOf_58 : decode cX12_namesOf 58 = .ok (.getfield 357, 3) := by decide +kernel
theorem dX12_namesOf_61 : decode cX12_namesOf 61 = .ok (.iconst (-1), 1) := by decide +kernel
theorem dX12_namesOf_62 : decode cX12_namesOf 62 = .ok (.if_icmp .ne 60, 3) := by decide +kernel
theorem dX12_namesOf_65 : decode cX12_namesOf 65 = .ok (.aload_n 0, 1) := by decide +kernel
theorem dX12_namesOf_66 : decode cX12_namesOf 66 = .ok (.getfield 351, 3) := by decide +kernel
theorem dX12_namesOf_69 : decode cX12_namesOf 69 = .ok (.ifCond .ne 53, 3) := by decide +kernel
theorem dX12_namesOf_72 : decode cX12_namesOf 72 = .ok (.aload_n 0, 1) := by decide +kernel
theorem dX12_namesOf_73 : decode cX12_namesOf 73 = .ok (.getfield 334, 3) := by decide +kernel
theorem dX12_namesOf_76 : decode cX12_namesOf 76 = .ok (.ifCond .eq 46, 3) := by decide +kernel
theorem dX12_namesOf_79 : decode cX12_namesOf 79 = .ok (.aload_n 0, 1) := by decide +kernel
theorem dX12_namesOf_80 : decode cX12_namesOf 80 = .ok (.getfield 152, 3) := by decide +kernel
theorem dX12_namesOf_83 : decode cX12_namesOf 83 = .ok (.aload_n 0, 1) := by decide +kernel
theorem dX12_namesOf_84 : decode cX12_namesOf 84 = .ok (.getfield 334, 3) := by decide +kernel
theorem dX12_namesOf_87 : decode cX12_namesOf 87 = .ok (.baload, 1) := by decide +kernel
theorem dX12_namesOf_88 : decode cX12_namesOf 88 = .ok (.ifCond .ne 6, 3) := by decide +kernel
theorem dX12_namesOf_91 : decode cX12_namesOf 91 = .ok (.goto 31, 3) := by decide +kernel
theorem dX12_namesOf_94 : decode cX12_namesOf 94 = .ok (.aload_n 0, 1) := by decide +kernel
theorem dX12_namesOf_95 : decode cX12_namesOf 95 = .ok (.getfield 376, 3) := by decide +kernel
theorem dX12_namesOf_98 : decode cX12_namesOf 98 = .ok (.iload 4, 2) := by decide +kernel
theorem dX12_namesOf_100 : decode cX12_namesOf 100 = .ok (.if_icmp .ne 12, 3) := by decide +kernel
theorem dX12_namesOf_103 : decode cX12_namesOf 103 = .ok (.aload_n 0, 1) := by decide +kernel
theorem dX12_namesOf_104 : decode cX12_namesOf 104 = .ok (.getfield 128, 3) := by decide +kernel
theorem dX12_namesOf_107 : decode cX12_namesOf 107 = .ok (.iload 7, 2) := by decide +kernel
theorem dX12_namesOf_109 : decode cX12_namesOf 109 = .ok (.iaload, 1) := by decide +kernel
theorem dX12_namesOf_110 : decode cX12_namesOf 110 = .ok (.istore 5, 2) := by decide +kernel
theorem dX12_namesOf_112 : decode cX12_namesOf 112 = .ok (.aload_n 0, 1) := by decide +kernel
theorem dX12_namesOf_113 : decode cX12_namesOf 113 = .ok (.dup, 1) := by decide +kernel
theorem dX12_namesOf_114 : decode cX12_namesOf 114 = .ok (.getfield 376, 3) := by decide +kernel
theorem dX12_namesOf_117 : decode cX12_namesOf 117 = .ok (.iconst 1, 1) := by decide +kernel
theorem dX12_namesOf_118 : decode cX12_namesOf 118 = .ok (.iadd, 1) := by decide +kernel
theorem dX12_namesOf_119 : decode cX12_namesOf 119 = .ok (.putfield 376, 3) := by decide +kernel
theorem dX12_namesOf_122 : decode cX12_namesOf 122 = .ok (.iinc 7 1, 3) := by decide +kernel
theorem dX12_namesOf_125 : decode cX12_namesOf 125 = .ok (.goto (-91), 3) := by decide +kernel
theorem dX12_namesOf_128 : decode cX12_namesOf 128 = .ok (.iinc 6 1, 3) := by decide +kernel
theorem dX12_namesOf_131 : decode cX12_namesOf 131 = .ok (.goto (-113), 3) := by decide +kernel
theorem dX12_namesOf_134 : decode cX12_namesOf 134 = .ok (.iload 5, 2) := by decide +kernel
theorem dX12_namesOf_136 : decode cX12_namesOf 136 = .ok (.ireturn, 1) := by decide +kernel
theorem dX12_isAsked_0 : decode cX12_isAsked 0 = .ok (.iload_n 1, 1) := by decide +kernel
theorem dX12_isAsked_1 : decode cX12_isAsked 1 = .ok (.invokestatic 307, 3) := by decide +kernel
theorem dX12_isAsked_4 : decode cX12_isAsked 4 = .ok (.ifCond .eq 22, 3) := by decide +kernel
theorem dX12_isAsked_7 : decode cX12_isAsked 7 = .ok (.iload_n 2, 1) := by decide +kernel
theorem dX12_isAsked_8 : decode cX12_isAsked 8 = .ok (.invokestatic 292, 3) := by decide +kernel
theorem dX12_isAsked_11 : decode cX12_isAsked 11 = .ok (.ifCond .eq 15, 3) := by decide +kernel
theorem dX12_isAsked_14 : decode cX12_isAsked 14 = .ok (.aload_n 0, 1) := by decide +kernel
theorem dX12_isAsked_15 : decode cX12_isAsked 15 = .ok (.iload_n 3, 1) := by decide +kernel
theorem dX12_isAsked_16 : decode cX12_isAsked 16 = .ok (.invokevirtual 325, 3) := by decide +kernel
theorem dX12_isAsked_19 : decode cX12_isAsked 19 = .ok (.ifCond .eq 7, 3) := by decide +kernel
theorem dX12_isAsked_22 : decode cX12_isAsked 22 = .ok (.iconst 1, 1) := by decide +kernel
theorem dX12_isAsked_23 : decode cX12_isAsked 23 = .ok (.goto 4, 3) := by decide +kernel
theorem dX12_isAsked_26 : decode cX12_isAsked 26 = .ok (.iconst 0, 1) := by decide +kernel
theorem dX12_isAsked_27 : decode cX12_isAsked 27 = .ok (.ireturn, 1) := by decide +kernel
theorem dX12_names_0 : decode cX12_names 0 = .ok (.aload_n 0, 1) := by decide +kernel
theorem dX12_names_1 : decode cX12_names 1 = .ok (.iload_n 1, 1) := by decide +kernel
theorem dX12_names_2 : decode cX12_names 2 = .ok (.iload_n 2, 1) := by decide +kernel
theorem dX12_names_3 : decode cX12_names 3 = .ok (.iload_n 3, 1) := by decide +kernel
theorem dX12_names_4 : decode cX12_names 4 = .ok (.invokevirtual 413, 3) := by decide +kernel
theorem dX12_names_7 : decode cX12_names 7 = .ok (.ifCond .ne 5, 3) := by decide +kernel
theorem dX12_names_10 : decode cX12_names 10 = .ok (.iconst (-1), 1) := by decide +kernel
theorem dX12_names_11 : decode cX12_names 11 = .ok (.ireturn, 1) := by decide +kernel
theorem dX12_names_12 : decode cX12_names 12 = .ok (.aload_n 0, 1) := by decide +kernel
theorem dX12_names_13 : decode cX12_names 13 = .ok (.iload_n 1, 1) := by decide +kernel
theorem dX12_names_14 : decode cX12_names 14 = .ok (.iload_n 2, 1) := by decide +kernel
theorem dX12_names_15 : decode cX12_names 15 = .ok (.iload_n 3, 1) := by decide +kernel
theorem dX12_names_16 : decode cX12_names 16 = .ok (.iconst (-1), 1) := by decide +kernel
theorem dX12_names_17 : decode cX12_names 17 = .ok (.invokevirtual 416, 3) := by decide +kernel
theorem dX12_names_20 : decode cX12_names 20 = .ok (.istore 4, 2) := by decide +kernel
theorem dX12_names_22 : decode cX12_names 22 = .ok (.iload 4, 2) := by decide +kernel
theorem dX12_names_24 : decode cX12_names 24 = .ok (.iconst (-1), 1) := by decide +kernel
theorem dX12_names_25 : decode cX12_names 25 = .ok (.if_icmp .ne 10, 3) := by decide +kernel
theorem dX12_names_28 : decode cX12_names 28 = .ok (.aload_n 0, 1) := by decide +kernel
theorem dX12_names_29 : decode cX12_names 29 = .ok (.getfield 376, 3) := by decide +kernel
theorem dX12_names_32 : decode cX12_names 32 = .ok (.goto 4, 3) := by decide +kernel
theorem dX12_names_35 : decode cX12_names 35 = .ok (.iconst (-1), 1) := by decide +kernel
theorem dX12_names_36 : decode cX12_names 36 = .ok (.ireturn, 1) := by decide +kernel
theorem dX12_found_0 : decode cX12_found 0 = .ok (.aload_n 0, 1) := by decide +kernel
theorem dX12_found_1 : decode cX12_found 1 = .ok (.iload_n 1, 1) := by decide +kernel
theorem dX12_found_2 : decode cX12_found 2 = .ok (.iload_n 2, 1) := by decide +kernel
theorem dX12_found_3 : decode cX12_found 3 = .ok (.iload_n 3, 1) := by decide +kernel
theorem dX12_found_4 : decode cX12_found 4 = .ok (.invokevirtual 413, 3) := by decide +kernel
theorem dX12_found_7 : decode cX12_found 7 = .ok (.ifCond .eq 8, 3) := by decide +kernel
theorem dX12_found_10 : decode cX12_found 10 = .ok (.iload 4, 2) := by decide +kernel
theorem dX12_found_12 : decode cX12_found 12 = .ok (.ifCond .ge 7, 3) := by decide +kernel
theorem dX12_found_15 : decode cX12_found 15 = .ok (.iconst (-1), 1) := by decide +kernel
theorem dX12_found_16 : decode cX12_found 16 = .ok (.goto 12, 3) := by decide +kernel
theorem dX12_found_19 : decode cX12_found 19 = .ok (.aload_n 0, 1) := by decide +kernel
theorem dX12_found_20 : decode cX12_found 20 = .ok (.iload_n 1, 1) := by decide +kernel
theorem dX12_found_21 : decode cX12_found 21 = .ok (.iload_n 2, 1) := by decide +kernel
theorem dX12_found_22 : decode cX12_found 22 = .ok (.iload_n 3, 1) := by decide +kernel
theorem dX12_found_23 : decode cX12_found 23 = .ok (.iload 4, 2) := by decide +kernel
theorem dX12_found_25 : decode cX12_found 25 = .ok (.invokevirtual 416, 3) := by decide +kernel
theorem dX12_found_28 : decode cX12_found 28 = .ok (.ireturn, 1) := by decide +kernel
theorem dX12_count_0 : decode cX12_count 0 = .ok (.iload_n 1, 1) := by decide +kernel
theorem dX12_count_1 : decode cX12_count 1 = .ok (.tableswitch 75 0 5 #[39, 44, 49, 54, 61, 68], 39) := by decide +kernel
theorem dX12_count_40 : decode cX12_count 40 = .ok (.aload_n 0, 1) := by decide +kernel
theorem dX12_count_41 : decode cX12_count 41 = .ok (.getfield 298, 3) := by decide +kernel
theorem dX12_count_44 : decode cX12_count 44 = .ok (.ireturn, 1) := by decide +kernel
theorem dX12_count_45 : decode cX12_count 45 = .ok (.aload_n 0, 1) := by decide +kernel
theorem dX12_count_46 : decode cX12_count 46 = .ok (.getfield 221, 3) := by decide +kernel
theorem dX12_count_49 : decode cX12_count 49 = .ok (.ireturn, 1) := by decide +kernel
theorem dX12_count_50 : decode cX12_count 50 = .ok (.aload_n 0, 1) := by decide +kernel
theorem dX12_count_51 : decode cX12_count 51 = .ok (.getfield 159, 3) := by decide +kernel
theorem dX12_count_54 : decode cX12_count 54 = .ok (.ireturn, 1) := by decide +kernel
theorem dX12_count_55 : decode cX12_count 55 = .ok (.aload_n 0, 1) := by decide +kernel
theorem dX12_count_56 : decode cX12_count 56 = .ok (.getfield 134, 3) := by decide +kernel
theorem dX12_count_59 : decode cX12_count 59 = .ok (.iconst 0, 1) := by decide +kernel
theorem dX12_count_60 : decode cX12_count 60 = .ok (.iaload, 1) := by decide +kernel
theorem dX12_count_61 : decode cX12_count 61 = .ok (.ireturn, 1) := by decide +kernel
theorem dX12_count_62 : decode cX12_count 62 = .ok (.aload_n 0, 1) := by decide +kernel
theorem dX12_count_63 : decode cX12_count 63 = .ok (.getfield 134, 3) := by decide +kernel
theorem dX12_count_66 : decode cX12_count 66 = .ok (.iconst 1, 1) := by decide +kernel
theorem dX12_count_67 : decode cX12_count 67 = .ok (.iaload, 1) := by decide +kernel
theorem dX12_count_68 : decode cX12_count 68 = .ok (.ireturn, 1) := by decide +kernel
theorem dX12_count_69 : decode cX12_count 69 = .ok (.aload_n 0, 1) := by decide +kernel
theorem dX12_count_70 : decode cX12_count 70 = .ok (.getfield 134, 3) := by decide +kernel
theorem dX12_count_73 : decode cX12_count 73 = .ok (.iconst 2, 1) := by decide +kernel
theorem dX12_count_74 : decode cX12_count 74 = .ok (.iaload, 1) := by decide +kernel
theorem dX12_count_75 : decode cX12_count 75 = .ok (.ireturn, 1) := by decide +kernel
theorem dX12_count_76 : decode cX12_count 76 = .ok (.iconst (-1), 1) := by decide +kernel
theorem dX12_count_77 : decode cX12_count 77 = .ok (.ireturn, 1) := by decide +kernel
