theorem dL_law_0 : decode cL_law 0 = .ok (.new 10, 3) := by decide +kernel
theorem dL_law_3 : decode cL_law 3 = .ok (.dup, 1) := by decide +kernel
theorem dL_law_4 : decode cL_law 4 = .ok (.invokespecial 159, 3) := by decide +kernel
theorem dL_law_7 : decode cL_law 7 = .ok (.astore_n 1, 1) := by decide +kernel
theorem dL_law_8 : decode cL_law 8 = .ok (.iconst 2, 1) := by decide +kernel
theorem dL_law_9 : decode cL_law 9 = .ok (.aload_n 0, 1) := by decide +kernel
theorem dL_law_10 : decode cL_law 10 = .ok (.iconst 0, 1) := by decide +kernel
theorem dL_law_11 : decode cL_law 11 = .ok (.invokestatic 160, 3) := by decide +kernel
theorem dL_law_14 : decode cL_law 14 = .ok (.iconst 4, 1) := by decide +kernel
theorem dL_law_15 : decode cL_law 15 = .ok (.invokestatic 164, 3) := by decide +kernel
theorem dL_law_18 : decode cL_law 18 = .ok (.iadd, 1) := by decide +kernel
theorem dL_law_19 : decode cL_law 19 = .ok (.istore_n 2, 1) := by decide +kernel
theorem dL_law_20 : decode cL_law 20 = .ok (.bipush 24, 2) := by decide +kernel
theorem dL_law_22 : decode cL_law 22 = .ok (.newarray .int, 2) := by decide +kernel
theorem dL_law_24 : decode cL_law 24 = .ok (.astore_n 3, 1) := by decide +kernel
theorem dL_law_25 : decode cL_law 25 = .ok (.iconst 0, 1) := by decide +kernel
theorem dL_law_26 : decode cL_law 26 = .ok (.istore 4, 2) := by decide +kernel
theorem dL_law_28 : decode cL_law 28 = .ok (.aload_n 1, 1) := by decide +kernel
theorem dL_law_29 : decode cL_law 29 = .ok (.invokestatic 167, 3) := by decide +kernel
theorem dL_law_32 : decode cL_law 32 = .ok (.sipush (-2000), 3) := by decide +kernel
theorem dL_law_35 : decode cL_law 35 = .ok (.if_icmp .ne 24, 3) := by decide +kernel
theorem dL_law_38 : decode cL_law 38 = .ok (.aload_n 1, 1) := by decide +kernel
theorem dL_law_39 : decode cL_law 39 = .ok (.iload_n 2, 1) := by decide +kernel
theorem dL_law_40 : decode cL_law 40 = .ok (.invokestatic 147, 3) := by decide +kernel
theorem dL_law_43 : decode cL_law 43 = .ok (.iconst 4, 1) := by decide +kernel
theorem dL_law_44 : decode cL_law 44 = .ok (.if_icmp .ne 15, 3) := by decide +kernel
theorem dL_law_47 : decode cL_law 47 = .ok (.aload_n 1, 1) := by decide +kernel
theorem dL_law_48 : decode cL_law 48 = .ok (.iload_n 2, 1) := by decide +kernel
theorem dL_law_49 : decode cL_law 49 = .ok (.invokestatic 170, 3) := by decide +kernel
theorem dL_law_52 : decode cL_law 52 = .ok (.ifCond .eq 7, 3) := by decide +kernel
theorem dL_law_55 : decode cL_law 55 = .ok (.iconst 1, 1) := by decide +kernel
theorem dL_law_56 : decode cL_law 56 = .ok (.goto 4, 3) := by decide +kernel
theorem dL_law_59 : decode cL_law 59 = .ok (.iconst 0, 1) := by decide +kernel
theorem dL_law_60 : decode cL_law 60 = .ok (.istore 5, 2) := by decide +kernel
theorem dL_law_62 : decode cL_law 62 = .ok (.iconst 0, 1) := by decide +kernel
theorem dL_law_63 : decode cL_law 63 = .ok (.istore 6, 2) := by decide +kernel
theorem dL_law_65 : decode cL_law 65 = .ok (.iload 6, 2) := by decide +kernel
theorem dL_law_67 : decode cL_law 67 = .ok (.bipush 36, 2) := by decide +kernel
theorem dL_law_69 : decode cL_law 69 = .ok (.if_icmp .ge 780, 3) := by decide +kernel
theorem dL_law_72 : decode cL_law 72 = .ok (.iload 5, 2) := by decide +kernel
theorem dL_law_74 : decode cL_law 74 = .ok (.ifCond .eq 775, 3) := by decide +kernel
theorem dL_law_77 : decode cL_law 77 = .ok (.aload_n 0, 1) := by decide +kernel
theorem dL_law_78 : decode cL_law 78 = .ok (.iconst 1, 1) := by decide +kernel
theorem dL_law_79 : decode cL_law 79 = .ok (.iload 6, 2) := by decide +kernel
theorem dL_law_81 : decode cL_law 81 = .ok (.iadd, 1) := by decide +kernel
theorem dL_law_82 : decode cL_law 82 = .ok (.invokestatic 160, 3) := by decide +kernel
theorem dL_law_85 : decode cL_law 85 = .ok (.istore 7, 2) := by decide +kernel
theorem dL_law_87 : decode cL_law 87 = .ok (.iload 7, 2) := by decide +kernel
theorem dL_law_89 : decode cL_law 89 = .ok (.bipush 6, 2) := by decide +kernel
theorem dL_law_91 : decode cL_law 91 = .ok (.ishr, 1) := by decide +kernel
theorem dL_law_92 : decode cL_law 92 = .ok (.iconst 1, 1) := by decide +kernel
theorem dL_law_93 : decode cL_law 93 = .ok (.iload_n 2, 1) := by decide +kernel
theorem dL_law_94 : decode cL_law 94 = .ok (.ishl, 1) := by decide +kernel
theorem dL_law_95 : decode cL_law 95 = .ok (.invokestatic 164, 3) := by decide +kernel
theorem dL_law_98 : decode cL_law 98 = .ok (.istore 8, 2) := by decide +kernel
theorem dL_law_100 : decode cL_law 100 = .ok (.iload 7, 2) := by decide +kernel
theorem dL_law_102 : decode cL_law 102 = .ok (.bipush 12, 2) := by decide +kernel
theorem dL_law_104 : decode cL_law 104 = .ok (.ishr, 1) := by decide +kernel
theorem dL_law_105 : decode cL_law 105 = .ok (.iconst 1, 1) := by decide +kernel
theorem dL_law_106 : decode cL_law 106 = .ok (.iload_n 2, 1) := by decide +kernel
theorem dL_law_107 : decode cL_law 107 = .ok (.ishl, 1) := by decide +kernel
theorem dL_law_108 : decode cL_law 108 = .ok (.invokestatic 164, 3) := by decide +kernel
theorem dL_law_111 : decode cL_law 111 = .ok (.istore 9, 2) := by decide +kernel
theorem dL_law_113 : decode cL_law 113 = .ok (.aload_n 1, 1) := by decide +kernel
theorem dL_law_114 : decode cL_law 114 = .ok (.iload_n 2, 1) := by decide +kernel
theorem dL_law_115 : decode cL_law 115 = .ok (.invokestatic 143, 3) := by decide +kernel
theorem dL_law_118 : decode cL_law 118 = .ok (.lstore 10, 2) := by decide +kernel
theorem dL_law_120 : decode cL_law 120 = .ok (.aload_n 1, 1) := by decide +kernel
theorem dL_law_121 : decode cL_law 121 = .ok (.iload 8, 2) := by decide +kernel
theorem dL_law_123 : decode cL_law 123 = .ok (.invokestatic 97, 3) := by decide +kernel
theorem dL_law_126 : decode cL_law 126 = .ok (.iconst 1, 1) := by decide +kernel
theorem dL_law_127 : decode cL_law 127 = .ok (.if_icmp .ne 7, 3) := by decide +kernel
theorem dL_law_130 : decode cL_law 130 = .ok (.iconst 1, 1) := by decide +kernel
theorem dL_law_131 : decode cL_law 131 = .ok (.goto 4, 3) := by decide +kernel
theorem dL_law_134 : decode cL_law 134 = .ok (.iconst 0, 1) := by decide +kernel
theorem dL_law_135 : decode cL_law 135 = .ok (.istore 12, 2) := by decide +kernel
theorem dL_law_137 : decode cL_law 137 = .ok (.iload 12, 2) := by decide +kernel
theorem dL_law_139 : decode cL_law 139 = .ok (.ifCond .eq 17, 3) := by decide +kernel
theorem dL_law_142 : decode cL_law 142 = .ok (.aload_n 1, 1) := by decide +kernel
theorem dL_law_143 : decode cL_law 143 = .ok (.iload 9, 2) := by decide +kernel
theorem dL_law_145 : decode cL_law 145 = .ok (.invokestatic 97, 3) := by decide +kernel
theorem dL_law_148 : decode cL_law 148 = .ok (.iconst 1, 1) := by decide +kernel
theorem dL_law_149 : decode cL_law 149 = .ok (.if_icmp .ne 7, 3) := by decide +kernel
theorem dL_law_152 : decode cL_law 152 = .ok (.iconst 1, 1) := by decide +kernel
theorem dL_law_153 : decode cL_law 153 = .ok (.goto 4, 3) := by decide +kernel
theorem dL_law_156 : decode cL_law 156 = .ok (.iconst 0, 1) := by decide +kernel
theorem dL_law_157 : decode cL_law 157 = .ok (.istore 13, 2) := by decide +kernel
theorem dL_law_159 : decode cL_law 159 = .ok (.iconst 0, 1) := by decide +kernel
theorem dL_law_160 : decode cL_law 160 = .ok (.istore 14, 2) := by decide +kernel
theorem dL_law_162 : decode cL_law 162 = .ok (.iconst 0, 1) := by decide +kernel
theorem dL_law_163 : decode cL_law 163 = .ok (.istore 15, 2) := by decide +kernel
theorem dL_law_165 : decode cL_law 165 = .ok (.iload 7, 2) := by decide +kernel
theorem dL_law_167 : decode cL_law 167 = .ok (.bipush 8, 2) := by decide +kernel
theorem dL_law_169 : decode cL_law 169 = .ok (.invokestatic 164, 3) := by decide +kernel
theorem dL_law_172 : decode cL_law 172 = .ok (.tableswitch 284 0 4 #[36, 36, 96, 159, 159], 36) := by decide +kernel
theorem dL_law_208 : decode cL_law 208 = .ok (.aload_n 1, 1) := by decide +kernel
theorem dL_law_209 : decode cL_law 209 = .ok (.iload 8, 2) := by decide +kernel
theorem dL_law_211 : decode cL_law 211 = .ok (.invokestatic 149, 3) := by decide +kernel
theorem dL_law_214 : decode cL_law 214 = .ok (.istore 14, 2) := by decide +kernel
theorem dL_law_216 : decode cL_law 216 = .ok (.iload 12, 2) := by decide +kernel
theorem dL_law_218 : decode cL_law 218 = .ok (.ifCond .eq 32, 3) := by decide +kernel
theorem dL_law_221 : decode cL_law 221 = .ok (.iload 14, 2) := by decide +kernel
theorem dL_law_223 : decode cL_law 223 = .ok (.ifCond .lt 23, 3) := by decide +kernel
theorem dL_law_226 : decode cL_law 226 = .ok (.aload_n 1, 1) := by decide +kernel
theorem dL_law_227 : decode cL_law 227 = .ok (.iload 8, 2) := by decide +kernel
theorem dL_law_229 : decode cL_law 229 = .ok (.invokestatic 97, 3) := by decide +kernel
theorem dL_law_232 : decode cL_law 232 = .ok (.ifCond .ne 14, 3) := by decide +kernel
theorem dL_law_235 : decode cL_law 235 = .ok (.iload 14, 2) := by decide +kernel
theorem dL_law_237 : decode cL_law 237 = .ok (.iload 4, 2) := by decide +kernel
theorem dL_law_239 : decode cL_law 239 = .ok (.if_icmp .gt 7, 3) := by decide +kernel
theorem dL_law_242 : decode cL_law 242 = .ok (.iconst 1, 1) := by decide +kernel
theorem dL_law_243 : decode cL_law 243 = .ok (.goto 20, 3) := by decide +kernel
theorem dL_law_246 : decode cL_law 246 = .ok (.iconst 0, 1) := by decide +kernel
theorem dL_law_247 : decode cL_law 247 = .ok (.goto 16, 3) := by decide +kernel
theorem dL_law_250 : decode cL_law 250 = .ok (.iload 14, 2) := by decide +kernel
theorem dL_law_252 : decode cL_law 252 = .ok (.sipush (-2000), 3) := by decide +kernel
theorem dL_law_255 : decode cL_law 255 = .ok (.if_icmp .ne 7, 3) := by decide +kernel
theorem dL_law_258 : decode cL_law 258 = .ok (.iconst 1, 1) := by decide +kernel
theorem dL_law_259 : decode cL_law 259 = .ok (.goto 4, 3) := by decide +kernel
theorem dL_law_262 : decode cL_law 262 = .ok (.iconst 0, 1) := by decide +kernel
theorem dL_law_263 : decode cL_law 263 = .ok (.istore 5, 2) := by decide +kernel
theorem dL_law_265 : decode cL_law 265 = .ok (.goto 251, 3) := by decide +kernel
theorem dL_law_268 : decode cL_law 268 = .ok (.aload_n 1, 1) := by decide +kernel
theorem dL_law_269 : decode cL_law 269 = .ok (.iload 8, 2) := by decide +kernel
theorem dL_law_271 : decode cL_law 271 = .ok (.invokestatic 151, 3) := by decide +kernel
theorem dL_law_274 : decode cL_law 274 = .ok (.istore 14, 2) := by decide +kernel
theorem dL_law_276 : decode cL_law 276 = .ok (.iload 12, 2) := by decide +kernel
theorem dL_law_278 : decode cL_law 278 = .ok (.ifCond .eq 19, 3) := by decide +kernel
theorem dL_law_281 : decode cL_law 281 = .ok (.iload 14, 2) := by decide +kernel
theorem dL_law_283 : decode cL_law 283 = .ok (.sipush (-2000), 3) := by decide +kernel
theorem dL_law_286 : decode cL_law 286 = .ok (.if_icmp .ne 7, 3) := by decide +kernel
theorem dL_law_289 : decode cL_law 289 = .ok (.iconst 1, 1) := by decide +kernel
theorem dL_law_290 : decode cL_law 290 = .ok (.goto 36, 3) := by decide +kernel
theorem dL_law_293 : decode cL_law 293 = .ok (.iconst 0, 1) := by decide +kernel
theorem dL_law_294 : decode cL_law 294 = .ok (.goto 32, 3) := by decide +kernel
theorem dL_law_297 : decode cL_law 297 = .ok (.iload 14, 2) := by decide +kernel
theorem dL_law_299 : decode cL_law 299 = .ok (.iconst 1, 1) := by decide +kernel
theorem dL_law_300 : decode cL_law 300 = .ok (.iload_n 2, 1) := by decide +kernel
theorem dL_law_301 : decode cL_law 301 = .ok (.ishl, 1) := by decide +kernel
theorem dL_law_302 : decode cL_law 302 = .ok (.aload_n 1, 1) := by decide +kernel
theorem dL_law_303 : decode cL_law 303 = .ok (.iload_n 2, 1) := by decide +kernel
theorem dL_law_304 : decode cL_law 304 = .ok (.invokestatic 125, 3) := by decide +kernel
theorem dL_law_307 : decode cL_law 307 = .ok (.isub, 1) := by decide +kernel
theorem dL_law_308 : decode cL_law 308 = .ok (.if_icmp .ne 17, 3) := by decide +kernel
theorem dL_law_311 : decode cL_law 311 = .ok (.aload_n 1, 1) := by decide +kernel
theorem dL_law_312 : decode cL_law 312 = .ok (.iload 8, 2) := by decide +kernel
theorem dL_law_314 : decode cL_law 314 = .ok (.invokestatic 97, 3) := by decide +kernel
theorem dL_law_317 : decode cL_law 317 = .ok (.iconst 1, 1) := by decide +kernel
theorem dL_law_318 : decode cL_law 318 = .ok (.if_icmp .ne 7, 3) := by decide +kernel
theorem dL_law_321 : decode cL_law 321 = .ok (.iconst 1, 1) := by decide +kernel
theorem dL_law_322 : decode cL_law 322 = .ok (.goto 4, 3) := by decide +kernel
theorem dL_law_325 : decode cL_law 325 = .ok (.iconst 0, 1) := by decide +kernel
theorem dL_law_326 : decode cL_law 326 = .ok (.istore 5, 2) := by decide +kernel
theorem dL_law_328 : decode cL_law 328 = .ok (.goto 188, 3) := by decide +kernel
theorem dL_law_331 : decode cL_law 331 = .ok (.aload_n 1, 1) := by decide +kernel
theorem dL_law_332 : decode cL_law 332 = .ok (.iload 8, 2) := by decide +kernel
theorem dL_law_334 : decode cL_law 334 = .ok (.iload 9, 2) := by decide +kernel
theorem dL_law_336 : decode cL_law 336 = .ok (.invokestatic 153, 3) := by decide +kernel
theorem dL_law_339 : decode cL_law 339 = .ok (.istore 14, 2) := by decide +kernel
theorem dL_law_341 : decode cL_law 341 = .ok (.iload 14, 2) := by decide +kernel
theorem dL_law_343 : decode cL_law 343 = .ok (.iload 13, 2) := by decide +kernel
theorem dL_law_345 : decode cL_law 345 = .ok (.ifCond .eq 15, 3) := by decide +kernel
theorem dL_law_348 : decode cL_law 348 = .ok (.iload 4, 2) := by decide +kernel
theorem dL_law_350 : decode cL_law 350 = .ok (.bipush 24, 2) := by decide +kernel
theorem dL_law_352 : decode cL_law 352 = .ok (.if_icmp .ge 8, 3) := by decide +kernel
theorem dL_law_355 : decode cL_law 355 = .ok (.iload 4, 2) := by decide +kernel
theorem dL_law_357 : decode cL_law 357 = .ok (.goto 6, 3) := by decide +kernel
theorem dL_law_360 : decode cL_law 360 = .ok (.sipush (-2000), 3) := by decide +kernel
theorem dL_law_363 : decode cL_law 363 = .ok (.if_icmp .ne 7, 3) := by decide +kernel
theorem dL_law_366 : decode cL_law 366 = .ok (.iconst 1, 1) := by decide +kernel
theorem dL_law_367 : decode cL_law 367 = .ok (.goto 4, 3) := by decide +kernel
theorem dL_law_370 : decode cL_law 370 = .ok (.iconst 0, 1) := by decide +kernel
theorem dL_law_371 : decode cL_law 371 = .ok (.istore 5, 2) := by decide +kernel
theorem dL_law_373 : decode cL_law 373 = .ok (.iload 14, 2) := by decide +kernel
theorem dL_law_375 : decode cL_law 375 = .ok (.ifCond .lt 7, 3) := by decide +kernel
theorem dL_law_378 : decode cL_law 378 = .ok (.iconst 1, 1) := by decide +kernel
theorem dL_law_379 : decode cL_law 379 = .ok (.goto 4, 3) := by decide +kernel
theorem dL_law_382 : decode cL_law 382 = .ok (.iconst 0, 1) := by decide +kernel
theorem dL_law_383 : decode cL_law 383 = .ok (.istore 15, 2) := by decide +kernel
theorem dL_law_385 : decode cL_law 385 = .ok (.iload 15, 2) := by decide +kernel
theorem dL_law_387 : decode cL_law 387 = .ok (.iconst 1, 1) := by decide +kernel
theorem dL_law_388 : decode cL_law 388 = .ok (.if_icmp .ne 128, 3) := by decide +kernel
theorem dL_law_391 : decode cL_law 391 = .ok (.aload_n 3, 1) := by decide +kernel
theorem dL_law_392 : decode cL_law 392 = .ok (.iload 4, 2) := by decide +kernel
theorem dL_law_394 : decode cL_law 394 = .ok (.iload 8, 2) := by decide +kernel
theorem dL_law_396 : decode cL_law 396 = .ok (.iastore, 1) := by decide +kernel
theorem dL_law_397 : decode cL_law 397 = .ok (.iinc 4 1, 3) := by decide +kernel
theorem dL_law_400 : decode cL_law 400 = .ok (.iload 5, 2) := by decide +kernel
theorem dL_law_402 : decode cL_law 402 = .ok (.ifCond .eq 48, 3) := by decide +kernel
theorem dL_law_405 : decode cL_law 405 = .ok (.aload_n 1, 1) := by decide +kernel
theorem dL_law_406 : decode cL_law 406 = .ok (.iload 14, 2) := by decide +kernel
theorem dL_law_408 : decode cL_law 408 = .ok (.invokestatic 137, 3) := by decide +kernel
theorem dL_law_411 : decode cL_law 411 = .ok (.iload 8, 2) := by decide +kernel
theorem dL_law_413 : decode cL_law 413 = .ok (.iload 9, 2) := by decide +kernel
theorem dL_law_415 : decode cL_law 415 = .ok (.if_icmp .ne 7, 3) := by decide +kernel
theorem dL_law_418 : decode cL_law 418 = .ok (.iconst 1, 1) := by decide +kernel
theorem dL_law_419 : decode cL_law 419 = .ok (.goto 4, 3) := by decide +kernel
theorem dL_law_422 : decode cL_law 422 = .ok (.iconst 0, 1) := by decide +kernel
theorem dL_law_423 : decode cL_law 423 = .ok (.if_icmp .ne 27, 3) := by decide +kernel
theorem dL_law_426 : decode cL_law 426 = .ok (.aload_n 1, 1) := by decide +kernel
theorem dL_law_427 : decode cL_law 427 = .ok (.iload 14, 2) := by decide +kernel
theorem dL_law_429 : decode cL_law 429 = .ok (.invokestatic 139, 3) := by decide +kernel
theorem dL_law_432 : decode cL_law 432 = .ok (.iload 8, 2) := by decide +kernel
theorem dL_law_434 : decode cL_law 434 = .ok (.if_icmp .ne 16, 3) := by decide +kernel
theorem dL_law_437 : decode cL_law 437 = .ok (.aload_n 1, 1) := by decide +kernel
theorem dL_law_438 : decode cL_law 438 = .ok (.iload 14, 2) := by decide +kernel
theorem dL_law_440 : decode cL_law 440 = .ok (.invokestatic 141, 3) := by decide +kernel
theorem dL_law_443 : decode cL_law 443 = .ok (.ifCond .ne 7, 3) := by decide +kernel
theorem dL_law_446 : decode cL_law 446 = .ok (.iconst 1, 1) := by decide +kernel
theorem dL_law_447 : decode cL_law 447 = .ok (.goto 4, 3) := by decide +kernel
theorem dL_law_450 : decode cL_law 450 = .ok (.iconst 0, 1) := by decide +kernel
theorem dL_law_451 : decode cL_law 451 = .ok (.istore 5, 2) := by decide +kernel
theorem dL_law_453 : decode cL_law 453 = .ok (.goto 63, 3) := by decide +kernel
theorem dL_law_456 : decode cL_law 456 = .ok (.aload_n 1, 1) := by decide +kernel
theorem dL_law_457 : decode cL_law 457 = .ok (.iconst 0, 1) := by decide +kernel
theorem dL_law_458 : decode cL_law 458 = .ok (.invokestatic 157, 3) := by decide +kernel
theorem dL_law_461 : decode cL_law 461 = .ok (.istore 16, 2) := by decide +kernel
theorem dL_law_463 : decode cL_law 463 = .ok (.iconst 1, 1) := by decide +kernel
theorem dL_law_464 : decode cL_law 464 = .ok (.iload 7, 2) := by decide +kernel
theorem dL_law_466 : decode cL_law 466 = .ok (.bipush 18, 2) := by decide +kernel
theorem dL_law_468 : decode cL_law 468 = .ok (.ishr, 1) := by decide +kernel
theorem dL_law_469 : decode cL_law 469 = .ok (.iconst 3, 1) := by decide +kernel
theorem dL_law_470 : decode cL_law 470 = .ok (.invokestatic 164, 3) := by decide +kernel
theorem dL_law_473 : decode cL_law 473 = .ok (.iadd, 1) := by decide +kernel
theorem dL_law_474 : decode cL_law 474 = .ok (.istore 17, 2) := by decide +kernel
theorem dL_law_476 : decode cL_law 476 = .ok (.aload_n 1, 1) := by decide +kernel
theorem dL_law_477 : decode cL_law 477 = .ok (.iload 17, 2) := by decide +kernel
theorem dL_law_479 : decode cL_law 479 = .ok (.invokestatic 155, 3) := by decide +kernel
theorem dL_law_482 : decode cL_law 482 = .ok (.istore 14, 2) := by decide +kernel
theorem dL_law_484 : decode cL_law 484 = .ok (.iload 14, 2) := by decide +kernel
theorem dL_law_486 : decode cL_law 486 = .ok (.ifCond .lt 27, 3) := by decide +kernel
theorem dL_law_489 : decode cL_law 489 = .ok (.iload 14, 2) := by decide +kernel
theorem dL_law_491 : decode cL_law 491 = .ok (.iload 17, 2) := by decide +kernel
theorem dL_law_493 : decode cL_law 493 = .ok (.iload 16, 2) := by decide +kernel
theorem dL_law_495 : decode cL_law 495 = .ok (.imul, 1) := by decide +kernel
theorem dL_law_496 : decode cL_law 496 = .ok (.if_icmp .gt 17, 3) := by decide +kernel
theorem dL_law_499 : decode cL_law 499 = .ok (.aload_n 1, 1) := by decide +kernel
theorem dL_law_500 : decode cL_law 500 = .ok (.iconst 0, 1) := by decide +kernel
theorem dL_law_501 : decode cL_law 501 = .ok (.invokestatic 157, 3) := by decide +kernel
theorem dL_law_504 : decode cL_law 504 = .ok (.iload 16, 2) := by decide +kernel
theorem dL_law_506 : decode cL_law 506 = .ok (.if_icmp .gt 7, 3) := by decide +kernel
theorem dL_law_509 : decode cL_law 509 = .ok (.iconst 1, 1) := by decide +kernel
theorem dL_law_510 : decode cL_law 510 = .ok (.goto 4, 3) := by decide +kernel
theorem dL_law_513 : decode cL_law 513 = .ok (.iconst 0, 1) := by decide +kernel
theorem dL_law_514 : decode cL_law 514 = .ok (.istore 5, 2) := by decide +kernel
theorem dL_law_516 : decode cL_law 516 = .ok (.iload 5, 2) := by decide +kernel
theorem dL_law_518 : decode cL_law 518 = .ok (.ifCond .eq 51, 3) := by decide +kernel
theorem dL_law_521 : decode cL_law 521 = .ok (.iload 14, 2) := by decide +kernel
theorem dL_law_523 : decode cL_law 523 = .ok (.ifCond .lt 46, 3) := by decide +kernel
theorem dL_law_526 : decode cL_law 526 = .ok (.iload 7, 2) := by decide +kernel
