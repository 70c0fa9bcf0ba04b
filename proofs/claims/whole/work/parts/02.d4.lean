theorem dX10_title_232 : decode cX10_title 232 = .ok (.iaload, 1) := by decide +kernel
theorem dX10_title_233 : decode cX10_title 233 = .ok (.ifCond .le 8, 3) := by decide +kernel
theorem dX10_title_236 : decode cX10_title 236 = .ok (.iload 4, 2) := by decide +kernel
theorem dX10_title_238 : decode cX10_title 238 = .ok (.goto 4, 3) := by decide +kernel
theorem dX10_title_241 : decode cX10_title 241 = .ok (.iconst 0, 1) := by decide +kernel
theorem dX10_title_242 : decode cX10_title 242 = .ok (.iadd, 1) := by decide +kernel
theorem dX10_title_243 : decode cX10_title 243 = .ok (.istore 5, 2) := by decide +kernel
theorem dX10_title_245 : decode cX10_title 245 = .ok (.iconst 0, 1) := by decide +kernel
theorem dX10_title_246 : decode cX10_title 246 = .ok (.istore 6, 2) := by decide +kernel
theorem dX10_title_248 : decode cX10_title 248 = .ok (.iload 6, 2) := by decide +kernel
theorem dX10_title_250 : decode cX10_title 250 = .ok (.aload_n 0, 1) := by decide +kernel
theorem dX10_title_251 : decode cX10_title 251 = .ok (.getfield 107, 3) := by decide +kernel
theorem dX10_title_254 : decode cX10_title 254 = .ok (.iload 5, 2) := by decide +kernel
theorem dX10_title_256 : decode cX10_title 256 = .ok (.iaload, 1) := by decide +kernel
theorem dX10_title_257 : decode cX10_title 257 = .ok (.if_icmp .ge 31, 3) := by decide +kernel
theorem dX10_title_260 : decode cX10_title 260 = .ok (.aload_n 0, 1) := by decide +kernel
theorem dX10_title_261 : decode cX10_title 261 = .ok (.getfield 68, 3) := by decide +kernel
theorem dX10_title_264 : decode cX10_title 264 = .ok (.iload 6, 2) := by decide +kernel
theorem dX10_title_266 : decode cX10_title 266 = .ok (.aload_n 0, 1) := by decide +kernel
theorem dX10_title_267 : decode cX10_title 267 = .ok (.getfield 7, 3) := by decide +kernel
theorem dX10_title_270 : decode cX10_title 270 = .ok (.aload_n 0, 1) := by decide +kernel
theorem dX10_title_271 : decode cX10_title 271 = .ok (.getfield 104, 3) := by decide +kernel
theorem dX10_title_274 : decode cX10_title 274 = .ok (.iload 5, 2) := by decide +kernel
theorem dX10_title_276 : decode cX10_title 276 = .ok (.iaload, 1) := by decide +kernel
theorem dX10_title_277 : decode cX10_title 277 = .ok (.iload 6, 2) := by decide +kernel
theorem dX10_title_279 : decode cX10_title 279 = .ok (.iadd, 1) := by decide +kernel
theorem dX10_title_280 : decode cX10_title 280 = .ok (.iaload, 1) := by decide +kernel
theorem dX10_title_281 : decode cX10_title 281 = .ok (.iastore, 1) := by decide +kernel
theorem dX10_title_282 : decode cX10_title 282 = .ok (.iinc 6 1, 3) := by decide +kernel
theorem dX10_title_285 : decode cX10_title 285 = .ok (.goto (-37), 3) := by decide +kernel
theorem dX10_title_288 : decode cX10_title 288 = .ok (.aload_n 0, 1) := by decide +kernel
theorem dX10_title_289 : decode cX10_title 289 = .ok (.aload_n 0, 1) := by decide +kernel
theorem dX10_title_290 : decode cX10_title 290 = .ok (.getfield 107, 3) := by decide +kernel
theorem dX10_title_293 : decode cX10_title 293 = .ok (.iload 5, 2) := by decide +kernel
theorem dX10_title_295 : decode cX10_title 295 = .ok (.iaload, 1) := by decide +kernel
theorem dX10_title_296 : decode cX10_title 296 = .ok (.aload_n 0, 1) := by decide +kernel
theorem dX10_title_297 : decode cX10_title 297 = .ok (.getfield 86, 3) := by decide +kernel
theorem dX10_title_300 : decode cX10_title 300 = .ok (.iload 4, 2) := by decide +kernel
theorem dX10_title_302 : decode cX10_title 302 = .ok (.iaload, 1) := by decide +kernel
theorem dX10_title_303 : decode cX10_title 303 = .ok (.ifCond .le 13, 3) := by decide +kernel
theorem dX10_title_306 : decode cX10_title 306 = .ok (.aload_n 0, 1) := by decide +kernel
theorem dX10_title_307 : decode cX10_title 307 = .ok (.getfield 86, 3) := by decide +kernel
theorem dX10_title_310 : decode cX10_title 310 = .ok (.iload 4, 2) := by decide +kernel
theorem dX10_title_312 : decode cX10_title 312 = .ok (.iaload, 1) := by decide +kernel
theorem dX10_title_313 : decode cX10_title 313 = .ok (.goto 5, 3) := by decide +kernel
theorem dX10_title_316 : decode cX10_title 316 = .ok (.bipush 20, 2) := by decide +kernel
theorem dX10_title_318 : decode cX10_title 318 = .ok (.invokevirtual 147, 3) := by decide +kernel
theorem dX10_title_321 : decode cX10_title 321 = .ok (.ifCond .ne 30, 3) := by decide +kernel
theorem dX10_title_324 : decode cX10_title 324 = .ok (.iload_n 3, 1) := by decide +kernel
theorem dX10_title_325 : decode cX10_title 325 = .ok (.ifCond .lt 16, 3) := by decide +kernel
theorem dX10_title_328 : decode cX10_title 328 = .ok (.aload_n 0, 1) := by decide +kernel
theorem dX10_title_329 : decode cX10_title 329 = .ok (.getfield 104, 3) := by decide +kernel
theorem dX10_title_332 : decode cX10_title 332 = .ok (.iload 5, 2) := by decide +kernel
theorem dX10_title_334 : decode cX10_title 334 = .ok (.iaload, 1) := by decide +kernel
theorem dX10_title_335 : decode cX10_title 335 = .ok (.iconst 1, 1) := by decide +kernel
theorem dX10_title_336 : decode cX10_title 336 = .ok (.isub, 1) := by decide +kernel
theorem dX10_title_337 : decode cX10_title 337 = .ok (.iload_n 3, 1) := by decide +kernel
theorem dX10_title_338 : decode cX10_title 338 = .ok (.if_icmp .ge 13, 3) := by decide +kernel
theorem dX10_title_341 : decode cX10_title 341 = .ok (.aload_n 0, 1) := by decide +kernel
theorem dX10_title_342 : decode cX10_title 342 = .ok (.getfield 104, 3) := by decide +kernel
theorem dX10_title_345 : decode cX10_title 345 = .ok (.iload 5, 2) := by decide +kernel
theorem dX10_title_347 : decode cX10_title 347 = .ok (.iaload, 1) := by decide +kernel
theorem dX10_title_348 : decode cX10_title 348 = .ok (.iconst 1, 1) := by decide +kernel
theorem dX10_title_349 : decode cX10_title 349 = .ok (.isub, 1) := by decide +kernel
theorem dX10_title_350 : decode cX10_title 350 = .ok (.istore_n 3, 1) := by decide +kernel
theorem dX10_title_351 : decode cX10_title 351 = .ok (.iinc 4 1, 3) := by decide +kernel
theorem dX10_title_354 : decode cX10_title 354 = .ok (.goto (-150), 3) := by decide +kernel
theorem dX10_title_357 : decode cX10_title 357 = .ok (.iload_n 3, 1) := by decide +kernel
theorem dX10_title_358 : decode cX10_title 358 = .ok (.ifCond .lt 10, 3) := by decide +kernel
theorem dX10_title_361 : decode cX10_title 361 = .ok (.aload_n 0, 1) := by decide +kernel
theorem dX10_title_362 : decode cX10_title 362 = .ok (.iconst 4, 1) := by decide +kernel
theorem dX10_title_363 : decode cX10_title 363 = .ok (.iload_n 3, 1) := by decide +kernel
theorem dX10_title_364 : decode cX10_title 364 = .ok (.invokevirtual 183, 3) := by decide +kernel
theorem dX10_title_367 : decode cX10_title 367 = .ok (.ireturn, 1) := by decide +kernel
theorem dX10_title_368 : decode cX10_title 368 = .ok (.aload_n 0, 1) := by decide +kernel
theorem dX10_title_369 : decode cX10_title 369 = .ok (.getfield 95, 3) := by decide +kernel
theorem dX10_title_372 : decode cX10_title 372 = .ok (.aload_n 0, 1) := by decide +kernel
theorem dX10_title_373 : decode cX10_title 373 = .ok (.getfield 205, 3) := by decide +kernel
theorem dX10_title_376 : decode cX10_title 376 = .ok (.aload_n 0, 1) := by decide +kernel
theorem dX10_title_377 : decode cX10_title 377 = .ok (.getfield 214, 3) := by decide +kernel
theorem dX10_title_380 : decode cX10_title 380 = .ok (.iastore, 1) := by decide +kernel
theorem dX10_title_381 : decode cX10_title 381 = .ok (.aload_n 0, 1) := by decide +kernel
theorem dX10_title_382 : decode cX10_title 382 = .ok (.dup, 1) := by decide +kernel
theorem dX10_title_383 : decode cX10_title 383 = .ok (.getfield 214, 3) := by decide +kernel
theorem dX10_title_386 : decode cX10_title 386 = .ok (.iconst 1, 1) := by decide +kernel
theorem dX10_title_387 : decode cX10_title 387 = .ok (.iadd, 1) := by decide +kernel
theorem dX10_title_388 : decode cX10_title 388 = .ok (.putfield 214, 3) := by decide +kernel
theorem dX10_title_391 : decode cX10_title 391 = .ok (.aload_n 0, 1) := by decide +kernel
theorem dX10_title_392 : decode cX10_title 392 = .ok (.dup, 1) := by decide +kernel
theorem dX10_title_393 : decode cX10_title 393 = .ok (.getfield 205, 3) := by decide +kernel
theorem dX10_title_396 : decode cX10_title 396 = .ok (.iconst 1, 1) := by decide +kernel
theorem dX10_title_397 : decode cX10_title 397 = .ok (.iadd, 1) := by decide +kernel
theorem dX10_title_398 : decode cX10_title 398 = .ok (.putfield 205, 3) := by decide +kernel
theorem dX10_title_401 : decode cX10_title 401 = .ok (.aload_n 0, 1) := by decide +kernel
theorem dX10_title_402 : decode cX10_title 402 = .ok (.invokevirtual 189, 3) := by decide +kernel
theorem dX10_title_405 : decode cX10_title 405 = .ok (.iconst 1, 1) := by decide +kernel
theorem dX10_title_406 : decode cX10_title 406 = .ok (.ireturn, 1) := by decide +kernel
theorem dX10_cutItem_0 : decode cX10_cutItem 0 = .ok (.aload_n 0, 1) := by decide +kernel
theorem dX10_cutItem_1 : decode cX10_cutItem 1 = .ok (.getfield 163, 3) := by decide +kernel
theorem dX10_cutItem_4 : decode cX10_cutItem 4 = .ok (.iconst 2, 1) := by decide +kernel
theorem dX10_cutItem_5 : decode cX10_cutItem 5 = .ok (.if_icmp .eq 13, 3) := by decide +kernel
theorem dX10_cutItem_8 : decode cX10_cutItem 8 = .ok (.aload_n 0, 1) := by decide +kernel
theorem dX10_cutItem_9 : decode cX10_cutItem 9 = .ok (.iconst 1, 1) := by decide +kernel
theorem dX10_cutItem_10 : decode cX10_cutItem 10 = .ok (.aload_n 0, 1) := by decide +kernel
theorem dX10_cutItem_11 : decode cX10_cutItem 11 = .ok (.getfield 160, 3) := by decide +kernel
theorem dX10_cutItem_14 : decode cX10_cutItem 14 = .ok (.invokevirtual 183, 3) := by decide +kernel
theorem dX10_cutItem_17 : decode cX10_cutItem 17 = .ok (.ireturn, 1) := by decide +kernel
theorem dX10_cutItem_18 : decode cX10_cutItem 18 = .ok (.aload_n 0, 1) := by decide +kernel
theorem dX10_cutItem_19 : decode cX10_cutItem 19 = .ok (.getfield 173, 3) := by decide +kernel
theorem dX10_cutItem_22 : decode cX10_cutItem 22 = .ok (.istore_n 1, 1) := by decide +kernel
theorem dX10_cutItem_23 : decode cX10_cutItem 23 = .ok (.aload_n 0, 1) := by decide +kernel
theorem dX10_cutItem_24 : decode cX10_cutItem 24 = .ok (.getfield 101, 3) := by decide +kernel
theorem dX10_cutItem_27 : decode cX10_cutItem 27 = .ok (.iload_n 1, 1) := by decide +kernel
theorem dX10_cutItem_28 : decode cX10_cutItem 28 = .ok (.iaload, 1) := by decide +kernel
theorem dX10_cutItem_29 : decode cX10_cutItem 29 = .ok (.ifCond .le 13, 3) := by decide +kernel
theorem dX10_cutItem_32 : decode cX10_cutItem 32 = .ok (.aload_n 0, 1) := by decide +kernel
theorem dX10_cutItem_33 : decode cX10_cutItem 33 = .ok (.iconst 3, 1) := by decide +kernel
theorem dX10_cutItem_34 : decode cX10_cutItem 34 = .ok (.aload_n 0, 1) := by decide +kernel
theorem dX10_cutItem_35 : decode cX10_cutItem 35 = .ok (.getfield 160, 3) := by decide +kernel
theorem dX10_cutItem_38 : decode cX10_cutItem 38 = .ok (.invokevirtual 183, 3) := by decide +kernel
theorem dX10_cutItem_41 : decode cX10_cutItem 41 = .ok (.ireturn, 1) := by decide +kernel
theorem dX10_cutItem_42 : decode cX10_cutItem 42 = .ok (.aload_n 0, 1) := by decide +kernel
theorem dX10_cutItem_43 : decode cX10_cutItem 43 = .ok (.invokevirtual 189, 3) := by decide +kernel
theorem dX10_cutItem_46 : decode cX10_cutItem 46 = .ok (.aload_n 0, 1) := by decide +kernel
theorem dX10_cutItem_47 : decode cX10_cutItem 47 = .ok (.iconst 1, 1) := by decide +kernel
theorem dX10_cutItem_48 : decode cX10_cutItem 48 = .ok (.sipush 999, 3) := by decide +kernel
theorem dX10_cutItem_51 : decode cX10_cutItem 51 = .ok (.invokevirtual 195, 3) := by decide +kernel
theorem dX10_cutItem_54 : decode cX10_cutItem 54 = .ok (.ifCond .ne 5, 3) := by decide +kernel
theorem dX10_cutItem_57 : decode cX10_cutItem 57 = .ok (.iconst 0, 1) := by decide +kernel
theorem dX10_cutItem_58 : decode cX10_cutItem 58 = .ok (.ireturn, 1) := by decide +kernel
theorem dX10_cutItem_59 : decode cX10_cutItem 59 = .ok (.aload_n 0, 1) := by decide +kernel
theorem dX10_cutItem_60 : decode cX10_cutItem 60 = .ok (.getfield 186, 3) := by decide +kernel
theorem dX10_cutItem_63 : decode cX10_cutItem 63 = .ok (.istore_n 2, 1) := by decide +kernel
theorem dX10_cutItem_64 : decode cX10_cutItem 64 = .ok (.aload_n 0, 1) := by decide +kernel
theorem dX10_cutItem_65 : decode cX10_cutItem 65 = .ok (.getfield 160, 3) := by decide +kernel
theorem dX10_cutItem_68 : decode cX10_cutItem 68 = .ok (.istore_n 3, 1) := by decide +kernel
theorem dX10_cutItem_69 : decode cX10_cutItem 69 = .ok (.aload_n 0, 1) := by decide +kernel
theorem dX10_cutItem_70 : decode cX10_cutItem 70 = .ok (.iconst 1, 1) := by decide +kernel
theorem dX10_cutItem_71 : decode cX10_cutItem 71 = .ok (.sipush 999, 3) := by decide +kernel
theorem dX10_cutItem_74 : decode cX10_cutItem 74 = .ok (.invokevirtual 195, 3) := by decide +kernel
theorem dX10_cutItem_77 : decode cX10_cutItem 77 = .ok (.ifCond .ne 5, 3) := by decide +kernel
theorem dX10_cutItem_80 : decode cX10_cutItem 80 = .ok (.iconst 0, 1) := by decide +kernel
theorem dX10_cutItem_81 : decode cX10_cutItem 81 = .ok (.ireturn, 1) := by decide +kernel
theorem dX10_cutItem_82 : decode cX10_cutItem 82 = .ok (.aload_n 0, 1) := by decide +kernel
theorem dX10_cutItem_83 : decode cX10_cutItem 83 = .ok (.getfield 186, 3) := by decide +kernel
theorem dX10_cutItem_86 : decode cX10_cutItem 86 = .ok (.iload_n 2, 1) := by decide +kernel
theorem dX10_cutItem_87 : decode cX10_cutItem 87 = .ok (.if_icmp .gt 10, 3) := by decide +kernel
theorem dX10_cutItem_90 : decode cX10_cutItem 90 = .ok (.aload_n 0, 1) := by decide +kernel
theorem dX10_cutItem_91 : decode cX10_cutItem 91 = .ok (.iconst 3, 1) := by decide +kernel
theorem dX10_cutItem_92 : decode cX10_cutItem 92 = .ok (.iload_n 3, 1) := by decide +kernel
theorem dX10_cutItem_93 : decode cX10_cutItem 93 = .ok (.invokevirtual 183, 3) := by decide +kernel
theorem dX10_cutItem_96 : decode cX10_cutItem 96 = .ok (.ireturn, 1) := by decide +kernel
theorem dX10_cutItem_97 : decode cX10_cutItem 97 = .ok (.aload_n 0, 1) := by decide +kernel
theorem dX10_cutItem_98 : decode cX10_cutItem 98 = .ok (.getfield 98, 3) := by decide +kernel
theorem dX10_cutItem_101 : decode cX10_cutItem 101 = .ok (.iload_n 1, 1) := by decide +kernel
theorem dX10_cutItem_102 : decode cX10_cutItem 102 = .ok (.iload_n 2, 1) := by decide +kernel
theorem dX10_cutItem_103 : decode cX10_cutItem 103 = .ok (.iastore, 1) := by decide +kernel
theorem dX10_cutItem_104 : decode cX10_cutItem 104 = .ok (.aload_n 0, 1) := by decide +kernel
theorem dX10_cutItem_105 : decode cX10_cutItem 105 = .ok (.getfield 101, 3) := by decide +kernel
theorem dX10_cutItem_108 : decode cX10_cutItem 108 = .ok (.iload_n 1, 1) := by decide +kernel
theorem dX10_cutItem_109 : decode cX10_cutItem 109 = .ok (.aload_n 0, 1) := by decide +kernel
theorem dX10_cutItem_110 : decode cX10_cutItem 110 = .ok (.getfield 186, 3) := by decide +kernel
theorem dX10_cutItem_113 : decode cX10_cutItem 113 = .ok (.iastore, 1) := by decide +kernel
theorem dX10_cutItem_114 : decode cX10_cutItem 114 = .ok (.aload_n 0, 1) := by decide +kernel
theorem dX10_cutItem_115 : decode cX10_cutItem 115 = .ok (.dup, 1) := by decide +kernel
theorem dX10_cutItem_116 : decode cX10_cutItem 116 = .ok (.getfield 217, 3) := by decide +kernel
theorem dX10_cutItem_119 : decode cX10_cutItem 119 = .ok (.iconst 1, 1) := by decide +kernel
theorem dX10_cutItem_120 : decode cX10_cutItem 120 = .ok (.iadd, 1) := by decide +kernel
theorem dX10_cutItem_121 : decode cX10_cutItem 121 = .ok (.putfield 217, 3) := by decide +kernel
theorem dX10_cutItem_124 : decode cX10_cutItem 124 = .ok (.aload_n 0, 1) := by decide +kernel
theorem dX10_cutItem_125 : decode cX10_cutItem 125 = .ok (.invokevirtual 198, 3) := by decide +kernel
theorem dX10_cutItem_128 : decode cX10_cutItem 128 = .ok (.ireturn, 1) := by decide +kernel
theorem dX10_item_0 : decode cX10_item 0 = .ok (.aload_n 0, 1) := by decide +kernel
theorem dX10_item_1 : decode cX10_item 1 = .ok (.getfield 163, 3) := by decide +kernel
theorem dX10_item_4 : decode cX10_item 4 = .ok (.iconst 1, 1) := by decide +kernel
theorem dX10_item_5 : decode cX10_item 5 = .ok (.if_icmp .ne 11, 3) := by decide +kernel
theorem dX10_item_8 : decode cX10_item 8 = .ok (.aload_n 0, 1) := by decide +kernel
theorem dX10_item_9 : decode cX10_item 9 = .ok (.getfield 173, 3) := by decide +kernel
theorem dX10_item_12 : decode cX10_item 12 = .ok (.iconst 5, 1) := by decide +kernel
theorem dX10_item_13 : decode cX10_item 13 = .ok (.if_icmp .ge 13, 3) := by decide +kernel
theorem dX10_item_16 : decode cX10_item 16 = .ok (.aload_n 0, 1) := by decide +kernel
theorem dX10_item_17 : decode cX10_item 17 = .ok (.iconst 1, 1) := by decide +kernel
theorem dX10_item_18 : decode cX10_item 18 = .ok (.aload_n 0, 1) := by decide +kernel
theorem dX10_item_19 : decode cX10_item 19 = .ok (.getfield 160, 3) := by decide +kernel
theorem dX10_item_22 : decode cX10_item 22 = .ok (.invokevirtual 183, 3) := by decide +kernel
theorem dX10_item_25 : decode cX10_item 25 = .ok (.ireturn, 1) := by decide +kernel
theorem dX10_item_26 : decode cX10_item 26 = .ok (.aload_n 0, 1) := by decide +kernel
theorem dX10_item_27 : decode cX10_item 27 = .ok (.getfield 173, 3) := by decide +kernel
theorem dX10_item_30 : decode cX10_item 30 = .ok (.bipush 7, 2) := by decide +kernel
theorem dX10_item_32 : decode cX10_item 32 = .ok (.if_icmp .ne 15, 3) := by decide +kernel
theorem dX10_item_35 : decode cX10_item 35 = .ok (.aload_n 0, 1) := by decide +kernel
theorem dX10_item_36 : decode cX10_item 36 = .ok (.getfield 217, 3) := by decide +kernel
theorem dX10_item_39 : decode cX10_item 39 = .ok (.bipush 8, 2) := by decide +kernel
theorem dX10_item_41 : decode cX10_item 41 = .ok (.if_icmp .ne 25, 3) := by decide +kernel
theorem dX10_item_44 : decode cX10_item 44 = .ok (.goto 12, 3) := by decide +kernel
theorem dX10_item_47 : decode cX10_item 47 = .ok (.aload_n 0, 1) := by decide +kernel
theorem dX10_item_48 : decode cX10_item 48 = .ok (.getfield 205, 3) := by decide +kernel
theorem dX10_item_51 : decode cX10_item 51 = .ok (.bipush 40, 2) := by decide +kernel
theorem dX10_item_53 : decode cX10_item 53 = .ok (.if_icmp .ne 13, 3) := by decide +kernel
theorem dX10_item_56 : decode cX10_item 56 = .ok (.aload_n 0, 1) := by decide +kernel
theorem dX10_item_57 : decode cX10_item 57 = .ok (.iconst 2, 1) := by decide +kernel
theorem dX10_item_58 : decode cX10_item 58 = .ok (.aload_n 0, 1) := by decide +kernel
theorem dX10_item_59 : decode cX10_item 59 = .ok (.getfield 160, 3) := by decide +kernel
theorem dX10_item_62 : decode cX10_item 62 = .ok (.invokevirtual 183, 3) := by decide +kernel
theorem dX10_item_65 : decode cX10_item 65 = .ok (.ireturn, 1) := by decide +kernel
theorem dX10_item_66 : decode cX10_item 66 = .ok (.aload_n 0, 1) := by decide +kernel
theorem dX10_item_67 : decode cX10_item 67 = .ok (.getfield 173, 3) := by decide +kernel
theorem dX10_item_70 : decode cX10_item 70 = .ok (.istore_n 1, 1) := by decide +kernel
theorem dX10_item_71 : decode cX10_item 71 = .ok (.aload_n 0, 1) := by decide +kernel
theorem dX10_item_72 : decode cX10_item 72 = .ok (.invokevirtual 189, 3) := by decide +kernel
theorem dX10_item_75 : decode cX10_item 75 = .ok (.iload_n 1, 1) := by decide +kernel
theorem dX10_item_76 : decode cX10_item 76 = .ok (.bipush 7, 2) := by decide +kernel
theorem dX10_item_78 : decode cX10_item 78 = .ok (.if_icmp .ne 8, 3) := by decide +kernel
theorem dX10_item_81 : decode cX10_item 81 = .ok (.aload_n 0, 1) := by decide +kernel
theorem dX10_item_82 : decode cX10_item 82 = .ok (.invokevirtual 220, 3) := by decide +kernel
theorem dX10_item_85 : decode cX10_item 85 = .ok (.ireturn, 1) := by decide +kernel
theorem dX10_item_86 : decode cX10_item 86 = .ok (.iload_n 1, 1) := by decide +kernel
theorem dX10_item_87 : decode cX10_item 87 = .ok (.iconst 5, 1) := by decide +kernel
theorem dX10_item_88 : decode cX10_item 88 = .ok (.if_icmp .ne 8, 3) := by decide +kernel
theorem dX10_item_91 : decode cX10_item 91 = .ok (.aload_n 0, 1) := by decide +kernel
theorem dX10_item_92 : decode cX10_item 92 = .ok (.invokevirtual 223, 3) := by decide +kernel
theorem dX10_item_95 : decode cX10_item 95 = .ok (.ireturn, 1) := by decide +kernel
theorem dX10_item_96 : decode cX10_item 96 = .ok (.aload_n 0, 1) := by decide +kernel
theorem dX10_item_97 : decode cX10_item 97 = .ok (.invokevirtual 208, 3) := by decide +kernel
theorem dX10_item_100 : decode cX10_item 100 = .ok (.ifCond .ne 5, 3) := by decide +kernel
theorem dX10_item_103 : decode cX10_item 103 = .ok (.iconst 0, 1) := by decide +kernel
theorem dX10_item_104 : decode cX10_item 104 = .ok (.ireturn, 1) := by decide +kernel
theorem dX10_item_105 : decode cX10_item 105 = .ok (.aload_n 0, 1) := by decide +kernel
theorem dX10_item_106 : decode cX10_item 106 = .ok (.getfield 95, 3) := by decide +kernel
theorem dX10_item_109 : decode cX10_item 109 = .ok (.aload_n 0, 1) := by decide +kernel
theorem dX10_item_110 : decode cX10_item 110 = .ok (.getfield 205, 3) := by decide +kernel
theorem dX10_item_113 : decode cX10_item 113 = .ok (.iconst (-1), 1) := by decide +kernel
theorem dX10_item_114 : decode cX10_item 114 = .ok (.iastore, 1) := by decide +kernel
theorem dX10_item_115 : decode cX10_item 115 = .ok (.aload_n 0, 1) := by decide +kernel
theorem dX10_item_116 : decode cX10_item 116 = .ok (.dup, 1) := by decide +kernel
theorem dX10_item_117 : decode cX10_item 117 = .ok (.getfield 205, 3) := by decide +kernel
theorem dX10_item_120 : decode cX10_item 120 = .ok (.iconst 1, 1) := by decide +kernel
theorem dX10_item_121 : decode cX10_item 121 = .ok (.iadd, 1) := by decide +kernel
theorem dX10_item_122 : decode cX10_item 122 = .ok (.putfield 205, 3) := by decide +kernel
theorem dX10_item_125 : decode cX10_item 125 = .ok (.aload_n 0, 1) := by decide +kernel
theorem dX10_item_126 : decode cX10_item 126 = .ok (.invokevirtual 198, 3) := by decide +kernel
theorem dX10_item_129 : decode cX10_item 129 = .ok (.ireturn, 1) := by decide +kernel
theorem dX10_reads_0 : decode cX10_reads 0 = .ok (.iconst 0, 1) := by decide +kernel
theorem dX10_reads_1 : decode cX10_reads 1 = .ok (.istore_n 1, 1) := by decide +kernel
theorem dX10_reads_2 : decode cX10_reads 2 = .ok (.iload_n 1, 1) := by decide +kernel
theorem dX10_reads_3 : decode cX10_reads 3 = .ok (.iconst 4, 1) := by decide +kernel
theorem dX10_reads_4 : decode cX10_reads 4 = .ok (.if_icmp .ge 23, 3) := by decide +kernel
theorem dX10_reads_7 : decode cX10_reads 7 = .ok (.aload_n 0, 1) := by decide +kernel
theorem dX10_reads_8 : decode cX10_reads 8 = .ok (.getfield 86, 3) := by decide +kernel
theorem dX10_reads_11 : decode cX10_reads 11 = .ok (.iload_n 1, 1) := by decide +kernel
theorem dX10_reads_12 : decode cX10_reads 12 = .ok (.iconst 0, 1) := by decide +kernel
theorem dX10_reads_13 : decode cX10_reads 13 = .ok (.iastore, 1) := by decide +kernel
theorem dX10_reads_14 : decode cX10_reads 14 = .ok (.aload_n 0, 1) := by decide +kernel
theorem dX10_reads_15 : decode cX10_reads 15 = .ok (.getfield 89, 3) := by decide +kernel
theorem dX10_reads_18 : decode cX10_reads 18 = .ok (.iload_n 1, 1) := by decide +kernel
theorem dX10_reads_19 : decode cX10_reads 19 = .ok (.iconst 0, 1) := by decide +kernel
theorem dX10_reads_20 : decode cX10_reads 20 = .ok (.iastore, 1) := by decide +kernel
theorem dX10_reads_21 : decode cX10_reads 21 = .ok (.iinc 1 1, 3) := by decide +kernel
theorem dX10_reads_24 : decode cX10_reads 24 = .ok (.goto (-22), 3) := by decide +kernel
theorem dX10_reads_27 : decode cX10_reads 27 = .ok (.iconst 0, 1) := by decide +kernel
theorem dX10_reads_28 : decode cX10_reads 28 = .ok (.istore_n 1, 1) := by decide +kernel
theorem dX10_reads_29 : decode cX10_reads 29 = .ok (.iload_n 1, 1) := by decide +kernel
theorem dX10_reads_30 : decode cX10_reads 30 = .ok (.bipush 8, 2) := by decide +kernel
theorem dX10_reads_32 : decode cX10_reads 32 = .ok (.if_icmp .ge 16, 3) := by decide +kernel
theorem dX10_reads_35 : decode cX10_reads 35 = .ok (.aload_n 0, 1) := by decide +kernel
theorem dX10_reads_36 : decode cX10_reads 36 = .ok (.getfield 101, 3) := by decide +kernel
theorem dX10_reads_39 : decode cX10_reads 39 = .ok (.iload_n 1, 1) := by decide +kernel
theorem dX10_reads_40 : decode cX10_reads 40 = .ok (.iconst 0, 1) := by decide +kernel
theorem dX10_reads_41 : decode cX10_reads 41 = .ok (.iastore, 1) := by decide +kernel
theorem dX10_reads_42 : decode cX10_reads 42 = .ok (.iinc 1 1, 3) := by decide +kernel
theorem dX10_reads_45 : decode cX10_reads 45 = .ok (.goto (-16), 3) := by decide +kernel
theorem dX10_reads_48 : decode cX10_reads 48 = .ok (.aload_n 0, 1) := by decide +kernel
theorem dX10_reads_49 : decode cX10_reads 49 = .ok (.iconst 0, 1) := by decide +kernel
theorem dX10_reads_50 : decode cX10_reads 50 = .ok (.putfield 192, 3) := by decide +kernel
theorem dX10_reads_53 : decode cX10_reads 53 = .ok (.aload_n 0, 1) := by decide +kernel
theorem dX10_reads_54 : decode cX10_reads 54 = .ok (.iconst 0, 1) := by decide +kernel
theorem dX10_reads_55 : decode cX10_reads 55 = .ok (.putfield 205, 3) := by decide +kernel
theorem dX10_reads_58 : decode cX10_reads 58 = .ok (.aload_n 0, 1) := by decide +kernel
theorem dX10_reads_59 : decode cX10_reads 59 = .ok (.iconst 0, 1) := by decide +kernel
theorem dX10_reads_60 : decode cX10_reads 60 = .ok (.putfield 214, 3) := by decide +kernel
theorem dX10_reads_63 : decode cX10_reads 63 = .ok (.aload_n 0, 1) := by decide +kernel
theorem dX10_reads_64 : decode cX10_reads 64 = .ok (.iconst 0, 1) := by decide +kernel
theorem dX10_reads_65 : decode cX10_reads 65 = .ok (.putfield 217, 3) := by decide +kernel
theorem dX10_reads_68 : decode cX10_reads 68 = .ok (.aload_n 0, 1) := by decide +kernel
theorem dX10_reads_69 : decode cX10_reads 69 = .ok (.iconst 0, 1) := by decide +kernel
theorem dX10_reads_70 : decode cX10_reads 70 = .ok (.putfield 157, 3) := by decide +kernel
theorem dX10_reads_73 : decode cX10_reads 73 = .ok (.aload_n 0, 1) := by decide +kernel
theorem dX10_reads_74 : decode cX10_reads 74 = .ok (.invokevirtual 189, 3) := by decide +kernel
theorem dX10_reads_77 : decode cX10_reads 77 = .ok (.aload_n 0, 1) := by decide +kernel
theorem dX10_reads_78 : decode cX10_reads 78 = .ok (.getfield 163, 3) := by decide +kernel
theorem dX10_reads_81 : decode cX10_reads 81 = .ok (.iconst 1, 1) := by decide +kernel
theorem dX10_reads_82 : decode cX10_reads 82 = .ok (.if_icmp .ne 11, 3) := by decide +kernel
theorem dX10_reads_85 : decode cX10_reads 85 = .ok (.aload_n 0, 1) := by decide +kernel
theorem dX10_reads_86 : decode cX10_reads 86 = .ok (.getfield 173, 3) := by decide +kernel
theorem dX10_reads_89 : decode cX10_reads 89 = .ok (.iconst 1, 1) := by decide +kernel
theorem dX10_reads_90 : decode cX10_reads 90 = .ok (.if_icmp .eq 13, 3) := by decide +kernel
theorem dX10_reads_93 : decode cX10_reads 93 = .ok (.aload_n 0, 1) := by decide +kernel
theorem dX10_reads_94 : decode cX10_reads 94 = .ok (.iconst 1, 1) := by decide +kernel
theorem dX10_reads_95 : decode cX10_reads 95 = .ok (.aload_n 0, 1) := by decide +kernel
theorem dX10_reads_96 : decode cX10_reads 96 = .ok (.getfield 160, 3) := by decide +kernel
theorem dX10_reads_99 : decode cX10_reads 99 = .ok (.invokevirtual 183, 3) := by decide +kernel
theorem dX10_reads_102 : decode cX10_reads 102 = .ok (.ireturn, 1) := by decide +kernel
theorem dX10_reads_103 : decode cX10_reads 103 = .ok (.aload_n 0, 1) := by decide +kernel
theorem dX10_reads_104 : decode cX10_reads 104 = .ok (.invokevirtual 189, 3) := by decide +kernel
theorem dX10_reads_107 : decode cX10_reads 107 = .ok (.aload_n 0, 1) := by decide +kernel
theorem dX10_reads_108 : decode cX10_reads 108 = .ok (.iconst 1, 1) := by decide +kernel
theorem dX10_reads_109 : decode cX10_reads 109 = .ok (.iconst 4, 1) := by decide +kernel
theorem dX10_reads_110 : decode cX10_reads 110 = .ok (.invokevirtual 195, 3) := by decide +kernel
theorem dX10_reads_113 : decode cX10_reads 113 = .ok (.ifCond .ne 5, 3) := by decide +kernel
theorem dX10_reads_116 : decode cX10_reads 116 = .ok (.iconst 0, 1) := by decide +kernel
theorem dX10_reads_117 : decode cX10_reads 117 = .ok (.ireturn, 1) := by decide +kernel
theorem dX10_reads_118 : decode cX10_reads 118 = .ok (.aload_n 0, 1) := by decide +kernel
theorem dX10_reads_119 : decode cX10_reads 119 = .ok (.aload_n 0, 1) := by decide +kernel
theorem dX10_reads_120 : decode cX10_reads 120 = .ok (.getfield 186, 3) := by decide +kernel
theorem dX10_reads_123 : decode cX10_reads 123 = .ok (.putfield 202, 3) := by decide +kernel
theorem dX10_reads_126 : decode cX10_reads 126 = .ok (.aload_n 0, 1) := by decide +kernel
theorem dX10_reads_127 : decode cX10_reads 127 = .ok (.invokevirtual 198, 3) := by decide +kernel
theorem dX10_reads_130 : decode cX10_reads 130 = .ok (.ifCond .ne 5, 3) := by decide +kernel
theorem dX10_reads_133 : decode cX10_reads 133 = .ok (.iconst 0, 1) := by decide +kernel
theorem dX10_reads_134 : decode cX10_reads 134 = .ok (.ireturn, 1) := by decide +kernel
theorem dX10_reads_135 : decode cX10_reads 135 = .ok (.aload_n 0, 1) := by decide +kernel
theorem dX10_reads_136 : decode cX10_reads 136 = .ok (.getfield 163, 3) := by decide +kernel
theorem dX10_reads_139 : decode cX10_reads 139 = .ok (.iconst 1, 1) := by decide +kernel
theorem dX10_reads_140 : decode cX10_reads 140 = .ok (.if_icmp .ne 28, 3) := by decide +kernel
theorem dX10_reads_143 : decode cX10_reads 143 = .ok (.aload_n 0, 1) := by decide +kernel
theorem dX10_reads_144 : decode cX10_reads 144 = .ok (.getfield 173, 3) := by decide +kernel
theorem dX10_reads_147 : decode cX10_reads 147 = .ok (.iconst 2, 1) := by decide +kernel
theorem dX10_reads_148 : decode cX10_reads 148 = .ok (.if_icmp .lt 20, 3) := by decide +kernel
theorem dX10_reads_151 : decode cX10_reads 151 = .ok (.aload_n 0, 1) := by decide +kernel
theorem dX10_reads_152 : decode cX10_reads 152 = .ok (.getfield 173, 3) := by decide +kernel
theorem dX10_reads_155 : decode cX10_reads 155 = .ok (.iconst 4, 1) := by decide +kernel
theorem dX10_reads_156 : decode cX10_reads 156 = .ok (.if_icmp .gt 12, 3) := by decide +kernel
theorem dX10_reads_159 : decode cX10_reads 159 = .ok (.aload_n 0, 1) := by decide +kernel
theorem dX10_reads_160 : decode cX10_reads 160 = .ok (.invokevirtual 226, 3) := by decide +kernel
theorem dX10_reads_163 : decode cX10_reads 163 = .ok (.ifCond .ne (-28), 3) := by decide +kernel
theorem dX10_reads_166 : decode cX10_reads 166 = .ok (.iconst 0, 1) := by decide +kernel
theorem dX10_reads_167 : decode cX10_reads 167 = .ok (.ireturn, 1) := by decide +kernel
theorem dX10_reads_168 : decode cX10_reads 168 = .ok (.aload_n 0, 1) := by decide +kernel
theorem dX10_reads_169 : decode cX10_reads 169 = .ok (.getfield 163, 3) := by decide +kernel
theorem dX10_reads_172 : decode cX10_reads 172 = .ok (.ifCond .eq 12, 3) := by decide +kernel
theorem dX10_reads_175 : decode cX10_reads 175 = .ok (.aload_n 0, 1) := by decide +kernel
theorem dX10_reads_176 : decode cX10_reads 176 = .ok (.invokevirtual 229, 3) := by decide +kernel
theorem dX10_reads_179 : decode cX10_reads 179 = .ok (.ifCond .ne (-11), 3) := by decide +kernel
theorem dX10_reads_182 : decode cX10_reads 182 = .ok (.iconst 0, 1) := by decide +kernel
theorem dX10_reads_183 : decode cX10_reads 183 = .ok (.ireturn, 1) := by decide +kernel
theorem dX10_reads_184 : decode cX10_reads 184 = .ok (.iconst 1, 1) := by decide +kernel
theorem dX10_reads_185 : decode cX10_reads 185 = .ok (.ireturn, 1) := by decide +kernel
theorem dX10_text_0 : decode cX10_text 0 = .ok (.aload_n 0, 1) := by decide +kernel
theorem dX10_text_1 : decode cX10_text 1 = .ok (.iconst 0, 1) := by decide +kernel
theorem dX10_text_2 : decode cX10_text 2 = .ok (.putfield 113, 3) := by decide +kernel
theorem dX10_text_5 : decode cX10_text 5 = .ok (.iload_n 1, 1) := by decide +kernel
theorem dX10_text_6 : decode cX10_text 6 = .ok (.ifCond .lt 11, 3) := by decide +kernel
theorem dX10_text_9 : decode cX10_text 9 = .ok (.iload_n 1, 1) := by decide +kernel
theorem dX10_text_10 : decode cX10_text 10 = .ok (.aload_n 0, 1) := by decide +kernel
theorem dX10_text_11 : decode cX10_text 11 = .ok (.getfield 116, 3) := by decide +kernel
theorem dX10_text_14 : decode cX10_text 14 = .ok (.if_icmp .le 6, 3) := by decide +kernel
theorem dX10_text_17 : decode cX10_text 17 = .ok (.bipush (-2), 2) := by decide +kernel
theorem dX10_text_19 : decode cX10_text 19 = .ok (.ireturn, 1) := by decide +kernel
theorem dX10_text_20 : decode cX10_text 20 = .ok (.aload_n 0, 1) := by decide +kernel
theorem dX10_text_21 : decode cX10_text 21 = .ok (.iload_n 1, 1) := by decide +kernel
theorem dX10_text_22 : decode cX10_text 22 = .ok (.putfield 154, 3) := by decide +kernel
theorem dX10_text_25 : decode cX10_text 25 = .ok (.aload_n 0, 1) := by decide +kernel
theorem dX10_text_26 : decode cX10_text 26 = .ok (.iconst 0, 1) := by decide +kernel
theorem dX10_text_27 : decode cX10_text 27 = .ok (.putfield 116, 3) := by decide +kernel
theorem dX10_text_30 : decode cX10_text 30 = .ok (.aload_n 0, 1) := by decide +kernel
theorem dX10_text_31 : decode cX10_text 31 = .ok (.iconst 0, 1) := by decide +kernel
theorem dX10_text_32 : decode cX10_text 32 = .ok (.putfield 151, 3) := by decide +kernel
theorem dX10_text_35 : decode cX10_text 35 = .ok (.aload_n 0, 1) := by decide +kernel
theorem dX10_text_36 : decode cX10_text 36 = .ok (.iconst (-1), 1) := by decide +kernel
theorem dX10_text_37 : decode cX10_text 37 = .ok (.putfield 83, 3) := by decide +kernel
theorem dX10_text_40 : decode cX10_text 40 = .ok (.aload_n 0, 1) := by decide +kernel
theorem dX10_text_41 : decode cX10_text 41 = .ok (.invokevirtual 232, 3) := by decide +kernel
theorem dX10_text_44 : decode cX10_text 44 = .ok (.ifCond .ne 5, 3) := by decide +kernel
theorem dX10_text_47 : decode cX10_text 47 = .ok (.iconst (-1), 1) := by decide +kernel
theorem dX10_text_48 : decode cX10_text 48 = .ok (.ireturn, 1) := by decide +kernel
theorem dX10_text_49 : decode cX10_text 49 = .ok (.aload_n 0, 1) := by decide +kernel
theorem dX10_text_50 : decode cX10_text 50 = .ok (.aload_n 0, 1) := by decide +kernel
theorem dX10_text_51 : decode cX10_text 51 = .ok (.getfield 202, 3) := by decide +kernel
theorem dX10_text_54 : decode cX10_text 54 = .ok (.putfield 13, 3) := by decide +kernel
theorem dX10_text_57 : decode cX10_text 57 = .ok (.aload_n 0, 1) := by decide +kernel
theorem dX10_text_58 : decode cX10_text 58 = .ok (.aload_n 0, 1) := by decide +kernel
theorem dX10_text_59 : decode cX10_text 59 = .ok (.getfield 192, 3) := by decide +kernel
theorem dX10_text_62 : decode cX10_text 62 = .ok (.ifCond .le 10, 3) := by decide +kernel
theorem dX10_text_65 : decode cX10_text 65 = .ok (.aload_n 0, 1) := by decide +kernel
theorem dX10_text_66 : decode cX10_text 66 = .ok (.getfield 192, 3) := by decide +kernel
theorem dX10_text_69 : decode cX10_text 69 = .ok (.goto 4, 3) := by decide +kernel
theorem dX10_text_72 : decode cX10_text 72 = .ok (.iconst 4, 1) := by decide +kernel
theorem dX10_text_73 : decode cX10_text 73 = .ok (.putfield 23, 3) := by decide +kernel
theorem dX10_text_76 : decode cX10_text 76 = .ok (.aload_n 0, 1) := by decide +kernel
theorem dX10_text_77 : decode cX10_text 77 = .ok (.aload_n 0, 1) := by decide +kernel
theorem dX10_text_78 : decode cX10_text 78 = .ok (.getfield 205, 3) := by decide +kernel
theorem dX10_text_81 : decode cX10_text 81 = .ok (.putfield 235, 3) := by decide +kernel
theorem dX10_text_84 : decode cX10_text 84 = .ok (.aload_n 0, 1) := by decide +kernel
theorem dX10_text_85 : decode cX10_text 85 = .ok (.aload_n 0, 1) := by decide +kernel
theorem dX10_text_86 : decode cX10_text 86 = .ok (.getfield 214, 3) := by decide +kernel
theorem dX10_text_89 : decode cX10_text 89 = .ok (.putfield 238, 3) := by decide +kernel
theorem dX10_text_92 : decode cX10_text 92 = .ok (.aload_n 0, 1) := by decide +kernel
theorem dX10_text_93 : decode cX10_text 93 = .ok (.aload_n 0, 1) := by decide +kernel
theorem dX10_text_94 : decode cX10_text 94 = .ok (.getfield 217, 3) := by decide +kernel
theorem dX10_text_97 : decode cX10_text 97 = .ok (.putfield 241, 3) := by decide +kernel
theorem dX10_text_100 : decode cX10_text 100 = .ok (.iconst 0, 1) := by decide +kernel
theorem dX10_text_101 : decode cX10_text 101 = .ok (.istore_n 2, 1) := by decide +kernel
theorem dX10_text_102 : decode cX10_text 102 = .ok (.iload_n 2, 1) := by decide +kernel
theorem dX10_text_103 : decode cX10_text 103 = .ok (.iconst 4, 1) := by decide +kernel
theorem dX10_text_104 : decode cX10_text 104 = .ok (.if_icmp .ge 60, 3) := by decide +kernel
theorem dX10_text_107 : decode cX10_text 107 = .ok (.aload_n 0, 1) := by decide +kernel
theorem dX10_text_108 : decode cX10_text 108 = .ok (.getfield 17, 3) := by decide +kernel
theorem dX10_text_111 : decode cX10_text 111 = .ok (.iload_n 2, 1) := by decide +kernel
theorem dX10_text_112 : decode cX10_text 112 = .ok (.aload_n 0, 1) := by decide +kernel
theorem dX10_text_113 : decode cX10_text 113 = .ok (.getfield 86, 3) := by decide +kernel
theorem dX10_text_116 : decode cX10_text 116 = .ok (.iload_n 2, 1) := by decide +kernel
theorem dX10_text_117 : decode cX10_text 117 = .ok (.iaload, 1) := by decide +kernel
theorem dX10_text_118 : decode cX10_text 118 = .ok (.ifCond .le 12, 3) := by decide +kernel
theorem dX10_text_121 : decode cX10_text 121 = .ok (.aload_n 0, 1) := by decide +kernel
theorem dX10_text_122 : decode cX10_text 122 = .ok (.getfield 86, 3) := by decide +kernel
theorem dX10_text_125 : decode cX10_text 125 = .ok (.iload_n 2, 1) := by decide +kernel
theorem dX10_text_126 : decode cX10_text 126 = .ok (.iaload, 1) := by decide +kernel
theorem dX10_text_127 : decode cX10_text 127 = .ok (.goto 5, 3) := by decide +kernel
theorem dX10_text_130 : decode cX10_text 130 = .ok (.bipush 20, 2) := by decide +kernel
theorem dX10_text_132 : decode cX10_text 132 = .ok (.iastore, 1) := by decide +kernel
theorem dX10_text_133 : decode cX10_text 133 = .ok (.aload_n 0, 1) := by decide +kernel
theorem dX10_text_134 : decode cX10_text 134 = .ok (.getfield 20, 3) := by decide +kernel
theorem dX10_text_137 : decode cX10_text 137 = .ok (.iload_n 2, 1) := by decide +kernel
theorem dX10_text_138 : decode cX10_text 138 = .ok (.aload_n 0, 1) := by decide +kernel
theorem dX10_text_139 : decode cX10_text 139 = .ok (.getfield 89, 3) := by decide +kernel
theorem dX10_text_142 : decode cX10_text 142 = .ok (.iload_n 2, 1) := by decide +kernel
theorem dX10_text_143 : decode cX10_text 143 = .ok (.iaload, 1) := by decide +kernel
theorem dX10_text_144 : decode cX10_text 144 = .ok (.ifCond .le 12, 3) := by decide +kernel
theorem dX10_text_147 : decode cX10_text 147 = .ok (.aload_n 0, 1) := by decide +kernel
theorem dX10_text_148 : decode cX10_text 148 = .ok (.getfield 89, 3) := by decide +kernel
theorem dX10_text_151 : decode cX10_text 151 = .ok (.iload_n 2, 1) := by decide +kernel
theorem dX10_text_152 : decode cX10_text 152 = .ok (.iaload, 1) := by decide +kernel
theorem dX10_text_153 : decode cX10_text 153 = .ok (.goto 4, 3) := by decide +kernel
theorem dX10_text_156 : decode cX10_text 156 = .ok (.iconst 4, 1) := by decide +kernel
theorem dX10_text_157 : decode cX10_text 157 = .ok (.iastore, 1) := by decide +kernel
theorem dX10_text_158 : decode cX10_text 158 = .ok (.iinc 2 1, 3) := by decide +kernel
theorem dX10_text_161 : decode cX10_text 161 = .ok (.goto (-59), 3) := by decide +kernel
theorem dX10_text_164 : decode cX10_text 164 = .ok (.iconst 0, 1) := by decide +kernel
theorem dX10_text_165 : decode cX10_text 165 = .ok (.istore_n 2, 1) := by decide +kernel
theorem dX10_text_166 : decode cX10_text 166 = .ok (.iload_n 2, 1) := by decide +kernel
theorem dX10_text_167 : decode cX10_text 167 = .ok (.bipush 8, 2) := by decide +kernel
theorem dX10_text_169 : decode cX10_text 169 = .ok (.if_icmp .ge 33, 3) := by decide +kernel
theorem dX10_text_172 : decode cX10_text 172 = .ok (.aload_n 0, 1) := by decide +kernel
theorem dX10_text_173 : decode cX10_text 173 = .ok (.getfield 35, 3) := by decide +kernel
theorem dX10_text_176 : decode cX10_text 176 = .ok (.iload_n 2, 1) := by decide +kernel
theorem dX10_text_177 : decode cX10_text 177 = .ok (.aload_n 0, 1) := by decide +kernel
theorem dX10_text_178 : decode cX10_text 178 = .ok (.getfield 98, 3) := by decide +kernel
theorem dX10_text_181 : decode cX10_text 181 = .ok (.iload_n 2, 1) := by decide +kernel
theorem dX10_text_182 : decode cX10_text 182 = .ok (.iaload, 1) := by decide +kernel
theorem dX10_text_183 : decode cX10_text 183 = .ok (.iastore, 1) := by decide +kernel
theorem dX10_text_184 : decode cX10_text 184 = .ok (.aload_n 0, 1) := by decide +kernel
theorem dX10_text_185 : decode cX10_text 185 = .ok (.getfield 38, 3) := by decide +kernel
theorem dX10_text_188 : decode cX10_text 188 = .ok (.iload_n 2, 1) := by decide +kernel
theorem dX10_text_189 : decode cX10_text 189 = .ok (.aload_n 0, 1) := by decide +kernel
theorem dX10_text_190 : decode cX10_text 190 = .ok (.getfield 101, 3) := by decide +kernel
theorem dX10_text_193 : decode cX10_text 193 = .ok (.iload_n 2, 1) := by decide +kernel
theorem dX10_text_194 : decode cX10_text 194 = .ok (.iaload, 1) := by decide +kernel
theorem dX10_text_195 : decode cX10_text 195 = .ok (.iastore, 1) := by decide +kernel
theorem dX10_text_196 : decode cX10_text 196 = .ok (.iinc 2 1, 3) := by decide +kernel
theorem dX10_text_199 : decode cX10_text 199 = .ok (.goto (-33), 3) := by decide +kernel
theorem dX10_text_202 : decode cX10_text 202 = .ok (.iconst 0, 1) := by decide +kernel
theorem dX10_text_203 : decode cX10_text 203 = .ok (.istore_n 2, 1) := by decide +kernel
theorem dX10_text_204 : decode cX10_text 204 = .ok (.iload_n 2, 1) := by decide +kernel
theorem dX10_text_205 : decode cX10_text 205 = .ok (.aload_n 0, 1) := by decide +kernel
theorem dX10_text_206 : decode cX10_text 206 = .ok (.getfield 235, 3) := by decide +kernel
theorem dX10_text_209 : decode cX10_text 209 = .ok (.if_icmp .ge 54, 3) := by decide +kernel
theorem dX10_text_212 : decode cX10_text 212 = .ok (.aload_n 0, 1) := by decide +kernel
theorem dX10_text_213 : decode cX10_text 213 = .ok (.getfield 26, 3) := by decide +kernel
theorem dX10_text_216 : decode cX10_text 216 = .ok (.iload_n 2, 1) := by decide +kernel
theorem dX10_text_217 : decode cX10_text 217 = .ok (.aload_n 0, 1) := by decide +kernel
theorem dX10_text_218 : decode cX10_text 218 = .ok (.getfield 92, 3) := by decide +kernel
theorem dX10_text_221 : decode cX10_text 221 = .ok (.iload_n 2, 1) := by decide +kernel
theorem dX10_text_222 : decode cX10_text 222 = .ok (.iaload, 1) := by decide +kernel
theorem dX10_text_223 : decode cX10_text 223 = .ok (.iastore, 1) := by decide +kernel
theorem dX10_text_224 : decode cX10_text 224 = .ok (.aload_n 0, 1) := by decide +kernel
theorem dX10_text_225 : decode cX10_text 225 = .ok (.getfield 29, 3) := by decide +kernel
theorem dX10_text_228 : decode cX10_text 228 = .ok (.iload_n 2, 1) := by decide +kernel
theorem dX10_text_229 : decode cX10_text 229 = .ok (.aload_n 0, 1) := by decide +kernel
theorem dX10_text_230 : decode cX10_text 230 = .ok (.getfield 95, 3) := by decide +kernel
theorem dX10_text_233 : decode cX10_text 233 = .ok (.iload_n 2, 1) := by decide +kernel
theorem dX10_text_234 : decode cX10_text 234 = .ok (.iaload, 1) := by decide +kernel
theorem dX10_text_235 : decode cX10_text 235 = .ok (.iastore, 1) := by decide +kernel
theorem dX10_text_236 : decode cX10_text 236 = .ok (.aload_n 0, 1) := by decide +kernel
theorem dX10_text_237 : decode cX10_text 237 = .ok (.getfield 95, 3) := by decide +kernel
theorem dX10_text_240 : decode cX10_text 240 = .ok (.iload_n 2, 1) := by decide +kernel
theorem dX10_text_241 : decode cX10_text 241 = .ok (.iaload, 1) := by decide +kernel
theorem dX10_text_242 : decode cX10_text 242 = .ok (.ifCond .lt 15, 3) := by decide +kernel
theorem dX10_text_245 : decode cX10_text 245 = .ok (.aload_n 0, 1) := by decide +kernel
theorem dX10_text_246 : decode cX10_text 246 = .ok (.getfield 32, 3) := by decide +kernel
theorem dX10_text_249 : decode cX10_text 249 = .ok (.aload_n 0, 1) := by decide +kernel
theorem dX10_text_250 : decode cX10_text 250 = .ok (.getfield 95, 3) := by decide +kernel
theorem dX10_text_253 : decode cX10_text 253 = .ok (.iload_n 2, 1) := by decide +kernel
theorem dX10_text_254 : decode cX10_text 254 = .ok (.iaload, 1) := by decide +kernel
theorem dX10_text_255 : decode cX10_text 255 = .ok (.iload_n 2, 1) := by decide +kernel
theorem dX10_text_256 : decode cX10_text 256 = .ok (.iastore, 1) := by decide +kernel
theorem dX10_text_257 : decode cX10_text 257 = .ok (.iinc 2 1, 3) := by decide +kernel
theorem dX10_text_260 : decode cX10_text 260 = .ok (.goto (-56), 3) := by decide +kernel
theorem dX10_text_263 : decode cX10_text 263 = .ok (.iconst 0, 1) := by decide +kernel
theorem dX10_text_264 : decode cX10_text 264 = .ok (.istore_n 2, 1) := by decide +kernel
theorem dX10_text_265 : decode cX10_text 265 = .ok (.iload_n 2, 1) := by decide +kernel
theorem dX10_text_266 : decode cX10_text 266 = .ok (.iconst 4, 1) := by decide +kernel
theorem dX10_text_267 : decode cX10_text 267 = .ok (.aload_n 0, 1) := by decide +kernel
theorem dX10_text_268 : decode cX10_text 268 = .ok (.getfield 238, 3) := by decide +kernel
theorem dX10_text_271 : decode cX10_text 271 = .ok (.imul, 1) := by decide +kernel
theorem dX10_text_272 : decode cX10_text 272 = .ok (.if_icmp .ge 91, 3) := by decide +kernel
theorem dX10_text_275 : decode cX10_text 275 = .ok (.aload_n 0, 1) := by decide +kernel
theorem dX10_text_276 : decode cX10_text 276 = .ok (.getfield 48, 3) := by decide +kernel
theorem dX10_text_279 : decode cX10_text 279 = .ok (.iload_n 2, 1) := by decide +kernel
theorem dX10_text_280 : decode cX10_text 280 = .ok (.aload_n 0, 1) := by decide +kernel
theorem dX10_text_281 : decode cX10_text 281 = .ok (.getfield 107, 3) := by decide +kernel
theorem dX10_text_284 : decode cX10_text 284 = .ok (.iload_n 2, 1) := by decide +kernel
theorem dX10_text_285 : decode cX10_text 285 = .ok (.iaload, 1) := by decide +kernel
theorem dX10_text_286 : decode cX10_text 286 = .ok (.ifCond .le 7, 3) := by decide +kernel
theorem dX10_text_289 : decode cX10_text 289 = .ok (.iconst 1, 1) := by decide +kernel
theorem dX10_text_290 : decode cX10_text 290 = .ok (.goto 4, 3) := by decide +kernel
theorem dX10_text_293 : decode cX10_text 293 = .ok (.iconst 0, 1) := by decide +kernel
theorem dX10_text_294 : decode cX10_text 294 = .ok (.bastore, 1) := by decide +kernel
theorem dX10_text_295 : decode cX10_text 295 = .ok (.aload_n 0, 1) := by decide +kernel
theorem dX10_text_296 : decode cX10_text 296 = .ok (.getfield 45, 3) := by decide +kernel
theorem dX10_text_299 : decode cX10_text 299 = .ok (.iload_n 2, 1) := by decide +kernel
theorem dX10_text_300 : decode cX10_text 300 = .ok (.aload_n 0, 1) := by decide +kernel
theorem dX10_text_301 : decode cX10_text 301 = .ok (.getfield 107, 3) := by decide +kernel
theorem dX10_text_304 : decode cX10_text 304 = .ok (.iload_n 2, 1) := by decide +kernel
theorem dX10_text_305 : decode cX10_text 305 = .ok (.iaload, 1) := by decide +kernel
theorem dX10_text_306 : decode cX10_text 306 = .ok (.iastore, 1) := by decide +kernel
theorem dX10_text_307 : decode cX10_text 307 = .ok (.iconst 0, 1) := by decide +kernel
theorem dX10_text_308 : decode cX10_text 308 = .ok (.istore_n 3, 1) := by decide +kernel
theorem dX10_text_309 : decode cX10_text 309 = .ok (.iload_n 3, 1) := by decide +kernel
theorem dX10_text_310 : decode cX10_text 310 = .ok (.aload_n 0, 1) := by decide +kernel
theorem dX10_text_311 : decode cX10_text 311 = .ok (.getfield 45, 3) := by decide +kernel
theorem dX10_text_314 : decode cX10_text 314 = .ok (.iload_n 2, 1) := by decide +kernel
theorem dX10_text_315 : decode cX10_text 315 = .ok (.iaload, 1) := by decide +kernel
theorem dX10_text_316 : decode cX10_text 316 = .ok (.if_icmp .ge 41, 3) := by decide +kernel
theorem dX10_text_319 : decode cX10_text 319 = .ok (.iload_n 3, 1) := by decide +kernel
theorem dX10_text_320 : decode cX10_text 320 = .ok (.sipush 500, 3) := by decide +kernel
theorem dX10_text_323 : decode cX10_text 323 = .ok (.if_icmp .ge 34, 3) := by decide +kernel
theorem dX10_text_326 : decode cX10_text 326 = .ok (.aload_n 0, 1) := by decide +kernel
theorem dX10_text_327 : decode cX10_text 327 = .ok (.getfield 42, 3) := by decide +kernel
theorem dX10_text_330 : decode cX10_text 330 = .ok (.sipush 500, 3) := by decide +kernel
theorem dX10_text_333 : decode cX10_text 333 = .ok (.iload_n 2, 1) := by decide +kernel
theorem dX10_text_334 : decode cX10_text 334 = .ok (.imul, 1) := by decide +kernel
theorem dX10_text_335 : decode cX10_text 335 = .ok (.iload_n 3, 1) := by decide +kernel
theorem dX10_text_336 : decode cX10_text 336 = .ok (.iadd, 1) := by decide +kernel
theorem dX10_text_337 : decode cX10_text 337 = .ok (.aload_n 0, 1) := by decide +kernel
theorem dX10_text_338 : decode cX10_text 338 = .ok (.getfield 7, 3) := by decide +kernel
theorem dX10_text_341 : decode cX10_text 341 = .ok (.aload_n 0, 1) := by decide +kernel
theorem dX10_text_342 : decode cX10_text 342 = .ok (.getfield 104, 3) := by decide +kernel
theorem dX10_text_345 : decode cX10_text 345 = .ok (.iload_n 2, 1) := by decide +kernel
theorem dX10_text_346 : decode cX10_text 346 = .ok (.iaload, 1) := by decide +kernel
theorem dX10_text_347 : decode cX10_text 347 = .ok (.iload_n 3, 1) := by decide +kernel
theorem dX10_text_348 : decode cX10_text 348 = .ok (.iadd, 1) := by decide +kernel
theorem dX10_text_349 : decode cX10_text 349 = .ok (.iaload, 1) := by decide +kernel
theorem dX10_text_350 : decode cX10_text 350 = .ok (.iastore, 1) := by decide +kernel
theorem dX10_text_351 : decode cX10_text 351 = .ok (.iinc 3 1, 3) := by decide +kernel
theorem dX10_text_354 : decode cX10_text 354 = .ok (.goto (-45), 3) := by decide +kernel
theorem dX10_text_357 : decode cX10_text 357 = .ok (.iinc 2 1, 3) := by decide +kernel
theorem dX10_text_360 : decode cX10_text 360 = .ok (.goto (-95), 3) := by decide +kernel
theorem dX10_text_363 : decode cX10_text 363 = .ok (.aload_n 0, 1) := by decide +kernel
theorem dX10_text_364 : decode cX10_text 364 = .ok (.invokevirtual 244, 3) := by decide +kernel
theorem dX10_text_367 : decode cX10_text 367 = .ok (.aload_n 0, 1) := by decide +kernel
theorem dX10_text_368 : decode cX10_text 368 = .ok (.getfield 238, 3) := by decide +kernel
theorem dX10_text_371 : decode cX10_text 371 = .ok (.ireturn, 1) := by decide +kernel
theorem dX10_fault_0 : decode cX10_fault 0 = .ok (.aload_n 0, 1) := by decide +kernel
theorem dX10_fault_1 : decode cX10_fault 1 = .ok (.iconst 0, 1) := by decide +kernel
theorem dX10_fault_2 : decode cX10_fault 2 = .ok (.putfield 113, 3) := by decide +kernel
theorem dX10_fault_5 : decode cX10_fault 5 = .ok (.iload_n 1, 1) := by decide +kernel
theorem dX10_fault_6 : decode cX10_fault 6 = .ok (.ifCond .ne 10, 3) := by decide +kernel
theorem dX10_fault_9 : decode cX10_fault 9 = .ok (.aload_n 0, 1) := by decide +kernel
theorem dX10_fault_10 : decode cX10_fault 10 = .ok (.getfield 151, 3) := by decide +kernel
theorem dX10_fault_13 : decode cX10_fault 13 = .ok (.goto 16, 3) := by decide +kernel
theorem dX10_fault_16 : decode cX10_fault 16 = .ok (.iload_n 1, 1) := by decide +kernel
theorem dX10_fault_17 : decode cX10_fault 17 = .ok (.iconst 1, 1) := by decide +kernel
theorem dX10_fault_18 : decode cX10_fault 18 = .ok (.if_icmp .ne 10, 3) := by decide +kernel
theorem dX10_fault_21 : decode cX10_fault 21 = .ok (.aload_n 0, 1) := by decide +kernel
theorem dX10_fault_22 : decode cX10_fault 22 = .ok (.getfield 83, 3) := by decide +kernel
theorem dX10_fault_25 : decode cX10_fault 25 = .ok (.goto 4, 3) := by decide +kernel
theorem dX10_fault_28 : decode cX10_fault 28 = .ok (.iconst (-1), 1) := by decide +kernel
theorem dX10_fault_29 : decode cX10_fault 29 = .ok (.ireturn, 1) := by decide +kernel
theorem dX10_opens_0 : decode cX10_opens 0 = .ok (.iconst 0, 1) := by decide +kernel
theorem dX10_opens_1 : decode cX10_opens 1 = .ok (.istore_n 1, 1) := by decide +kernel
theorem dX10_opens_2 : decode cX10_opens 2 = .ok (.iload_n 1, 1) := by decide +kernel
theorem dX10_opens_3 : decode cX10_opens 3 = .ok (.bipush 8, 2) := by decide +kernel
theorem dX10_opens_5 : decode cX10_opens 5 = .ok (.if_icmp .ge 16, 3) := by decide +kernel
theorem dX10_opens_8 : decode cX10_opens 8 = .ok (.aload_n 0, 1) := by decide +kernel
theorem dX10_opens_9 : decode cX10_opens 9 = .ok (.getfield 52, 3) := by decide +kernel
theorem dX10_opens_12 : decode cX10_opens 12 = .ok (.iload_n 1, 1) := by decide +kernel
theorem dX10_opens_13 : decode cX10_opens 13 = .ok (.iconst 0, 1) := by decide +kernel
theorem dX10_opens_14 : decode cX10_opens 14 = .ok (.bastore, 1) := by decide +kernel
theorem dX10_opens_15 : decode cX10_opens 15 = .ok (.iinc 1 1, 3) := by decide +kernel
theorem dX10_opens_18 : decode cX10_opens 18 = .ok (.goto (-16), 3) := by decide +kernel
theorem dX10_opens_21 : decode cX10_opens 21 = .ok (.iconst 0, 1) := by decide +kernel
theorem dX10_opens_22 : decode cX10_opens 22 = .ok (.istore_n 1, 1) := by decide +kernel
theorem dX10_opens_23 : decode cX10_opens 23 = .ok (.iload_n 1, 1) := by decide +kernel
theorem dX10_opens_24 : decode cX10_opens 24 = .ok (.sipush 160, 3) := by decide +kernel
theorem dX10_opens_27 : decode cX10_opens 27 = .ok (.if_icmp .ge 16, 3) := by decide +kernel
theorem dX10_opens_30 : decode cX10_opens 30 = .ok (.aload_n 0, 1) := by decide +kernel
theorem dX10_opens_31 : decode cX10_opens 31 = .ok (.getfield 55, 3) := by decide +kernel
theorem dX10_opens_34 : decode cX10_opens 34 = .ok (.iload_n 1, 1) := by decide +kernel
theorem dX10_opens_35 : decode cX10_opens 35 = .ok (.iconst 0, 1) := by decide +kernel
theorem dX10_opens_36 : decode cX10_opens 36 = .ok (.bastore, 1) := by decide +kernel
theorem dX10_opens_37 : decode cX10_opens 37 = .ok (.iinc 1 1, 3) := by decide +kernel
theorem dX10_opens_40 : decode cX10_opens 40 = .ok (.goto (-17), 3) := by decide +kernel
theorem dX10_opens_43 : decode cX10_opens 43 = .ok (.aload_n 0, 1) := by decide +kernel
theorem dX10_opens_44 : decode cX10_opens 44 = .ok (.iconst 0, 1) := by decide +kernel
theorem dX10_opens_45 : decode cX10_opens 45 = .ok (.putfield 247, 3) := by decide +kernel
theorem dX10_opens_48 : decode cX10_opens 48 = .ok (.aload_n 0, 1) := by decide +kernel
theorem dX10_opens_49 : decode cX10_opens 49 = .ok (.iconst 1, 1) := by decide +kernel
theorem dX10_opens_50 : decode cX10_opens 50 = .ok (.putfield 64, 3) := by decide +kernel
theorem dX10_opens_53 : decode cX10_opens 53 = .ok (.aload_n 0, 1) := by decide +kernel
theorem dX10_opens_54 : decode cX10_opens 54 = .ok (.iconst 0, 1) := by decide +kernel
theorem dX10_opens_55 : decode cX10_opens 55 = .ok (.putfield 250, 3) := by decide +kernel
theorem dX10_opens_58 : decode cX10_opens 58 = .ok (.return_, 1) := by decide +kernel
theorem dX10_begin_0 : decode cX10_begin 0 = .ok (.aload_n 0, 1) := by decide +kernel
theorem dX10_begin_1 : decode cX10_begin 1 = .ok (.iconst 0, 1) := by decide +kernel
theorem dX10_begin_2 : decode cX10_begin 2 = .ok (.putfield 113, 3) := by decide +kernel
theorem dX10_begin_5 : decode cX10_begin 5 = .ok (.aload_n 0, 1) := by decide +kernel
theorem dX10_begin_6 : decode cX10_begin 6 = .ok (.invokevirtual 244, 3) := by decide +kernel
theorem dX10_begin_9 : decode cX10_begin 9 = .ok (.return_, 1) := by decide +kernel
theorem dX10_isCut_0 : decode cX10_isCut 0 = .ok (.iconst 0, 1) := by decide +kernel
theorem dX10_isCut_1 : decode cX10_isCut 1 = .ok (.istore_n 2, 1) := by decide +kernel
theorem dX10_isCut_2 : decode cX10_isCut 2 = .ok (.iconst 0, 1) := by decide +kernel
theorem dX10_isCut_3 : decode cX10_isCut 3 = .ok (.istore_n 3, 1) := by decide +kernel
theorem dX10_isCut_4 : decode cX10_isCut 4 = .ok (.iload_n 3, 1) := by decide +kernel
theorem dX10_isCut_5 : decode cX10_isCut 5 = .ok (.bipush 8, 2) := by decide +kernel
theorem dX10_isCut_7 : decode cX10_isCut 7 = .ok (.if_icmp .ge 48, 3) := by decide +kernel
theorem dX10_isCut_10 : decode cX10_isCut 10 = .ok (.iload_n 2, 1) := by decide +kernel
theorem dX10_isCut_11 : decode cX10_isCut 11 = .ok (.ifCond .ne 32, 3) := by decide +kernel
theorem dX10_isCut_14 : decode cX10_isCut 14 = .ok (.aload_n 0, 1) := by decide +kernel
theorem dX10_isCut_15 : decode cX10_isCut 15 = .ok (.getfield 52, 3) := by decide +kernel
theorem dX10_isCut_18 : decode cX10_isCut 18 = .ok (.iload_n 3, 1) := by decide +kernel
theorem dX10_isCut_19 : decode cX10_isCut 19 = .ok (.baload, 1) := by decide +kernel
theorem dX10_isCut_20 : decode cX10_isCut 20 = .ok (.ifCond .eq 27, 3) := by decide +kernel
theorem dX10_isCut_23 : decode cX10_isCut 23 = .ok (.iload_n 1, 1) := by decide +kernel
theorem dX10_isCut_24 : decode cX10_isCut 24 = .ok (.aload_n 0, 1) := by decide +kernel
theorem dX10_isCut_25 : decode cX10_isCut 25 = .ok (.getfield 35, 3) := by decide +kernel
theorem dX10_isCut_28 : decode cX10_isCut 28 = .ok (.iload_n 3, 1) := by decide +kernel
theorem dX10_isCut_29 : decode cX10_isCut 29 = .ok (.iaload, 1) := by decide +kernel
theorem dX10_isCut_30 : decode cX10_isCut 30 = .ok (.if_icmp .lt 17, 3) := by decide +kernel
theorem dX10_isCut_33 : decode cX10_isCut 33 = .ok (.iload_n 1, 1) := by decide +kernel
theorem dX10_isCut_34 : decode cX10_isCut 34 = .ok (.aload_n 0, 1) := by decide +kernel
theorem dX10_isCut_35 : decode cX10_isCut 35 = .ok (.getfield 38, 3) := by decide +kernel
theorem dX10_isCut_38 : decode cX10_isCut 38 = .ok (.iload_n 3, 1) := by decide +kernel
theorem dX10_isCut_39 : decode cX10_isCut 39 = .ok (.iaload, 1) := by decide +kernel
theorem dX10_isCut_40 : decode cX10_isCut 40 = .ok (.if_icmp .ge 7, 3) := by decide +kernel
theorem dX10_isCut_43 : decode cX10_isCut 43 = .ok (.iconst 1, 1) := by decide +kernel
theorem dX10_isCut_44 : decode cX10_isCut 44 = .ok (.goto 4, 3) := by decide +kernel
theorem dX10_isCut_47 : decode cX10_isCut 47 = .ok (.iconst 0, 1) := by decide +kernel
theorem dX10_isCut_48 : decode cX10_isCut 48 = .ok (.istore_n 2, 1) := by decide +kernel
theorem dX10_isCut_49 : decode cX10_isCut 49 = .ok (.iinc 3 1, 3) := by decide +kernel
theorem dX10_isCut_52 : decode cX10_isCut 52 = .ok (.goto (-48), 3) := by decide +kernel
theorem dX10_isCut_55 : decode cX10_isCut 55 = .ok (.iload_n 2, 1) := by decide +kernel
theorem dX10_isCut_56 : decode cX10_isCut 56 = .ok (.ireturn, 1) := by decide +kernel
theorem dX10_goesOn_0 : decode cX10_goesOn 0 = .ok (.aload_n 0, 1) := by decide +kernel
theorem dX10_goesOn_1 : decode cX10_goesOn 1 = .ok (.aload_n 0, 1) := by decide +kernel
theorem dX10_goesOn_2 : decode cX10_goesOn 2 = .ok (.getfield 247, 3) := by decide +kernel
theorem dX10_goesOn_5 : decode cX10_goesOn 5 = .ok (.invokevirtual 253, 3) := by decide +kernel
theorem dX10_goesOn_8 : decode cX10_goesOn 8 = .ok (.ifCond .eq 16, 3) := by decide +kernel
theorem dX10_goesOn_11 : decode cX10_goesOn 11 = .ok (.aload_n 0, 1) := by decide +kernel
theorem dX10_goesOn_12 : decode cX10_goesOn 12 = .ok (.dup, 1) := by decide +kernel
theorem dX10_goesOn_13 : decode cX10_goesOn 13 = .ok (.getfield 247, 3) := by decide +kernel
theorem dX10_goesOn_16 : decode cX10_goesOn 16 = .ok (.iconst 1, 1) := by decide +kernel
theorem dX10_goesOn_17 : decode cX10_goesOn 17 = .ok (.iadd, 1) := by decide +kernel
theorem dX10_goesOn_18 : decode cX10_goesOn 18 = .ok (.putfield 247, 3) := by decide +kernel
theorem dX10_goesOn_21 : decode cX10_goesOn 21 = .ok (.goto (-21), 3) := by decide +kernel
theorem dX10_goesOn_24 : decode cX10_goesOn 24 = .ok (.return_, 1) := by decide +kernel
theorem dX10_cut_0 : decode cX10_cut 0 = .ok (.aload_n 0, 1) := by decide +kernel
theorem dX10_cut_1 : decode cX10_cut 1 = .ok (.iconst 0, 1) := by decide +kernel
theorem dX10_cut_2 : decode cX10_cut 2 = .ok (.putfield 113, 3) := by decide +kernel
theorem dX10_cut_5 : decode cX10_cut 5 = .ok (.iload_n 1, 1) := by decide +kernel
theorem dX10_cut_6 : decode cX10_cut 6 = .ok (.ifCond .lt 18, 3) := by decide +kernel
theorem dX10_cut_9 : decode cX10_cut 9 = .ok (.iload_n 1, 1) := by decide +kernel
theorem dX10_cut_10 : decode cX10_cut 10 = .ok (.bipush 7, 2) := by decide +kernel
theorem dX10_cut_12 : decode cX10_cut 12 = .ok (.if_icmp .gt 12, 3) := by decide +kernel
theorem dX10_cut_15 : decode cX10_cut 15 = .ok (.aload_n 0, 1) := by decide +kernel
theorem dX10_cut_16 : decode cX10_cut 16 = .ok (.getfield 38, 3) := by decide +kernel
theorem dX10_cut_19 : decode cX10_cut 19 = .ok (.iload_n 1, 1) := by decide +kernel
theorem dX10_cut_20 : decode cX10_cut 20 = .ok (.iaload, 1) := by decide +kernel
theorem dX10_cut_21 : decode cX10_cut 21 = .ok (.ifCond .ne 5, 3) := by decide +kernel
theorem dX10_cut_24 : decode cX10_cut 24 = .ok (.iconst 0, 1) := by decide +kernel
theorem dX10_cut_25 : decode cX10_cut 25 = .ok (.ireturn, 1) := by decide +kernel
theorem dX10_cut_26 : decode cX10_cut 26 = .ok (.aload_n 0, 1) := by decide +kernel
theorem dX10_cut_27 : decode cX10_cut 27 = .ok (.getfield 52, 3) := by decide +kernel
theorem dX10_cut_30 : decode cX10_cut 30 = .ok (.iload_n 1, 1) := by decide +kernel
theorem dX10_cut_31 : decode cX10_cut 31 = .ok (.iload_n 2, 1) := by decide +kernel
theorem dX10_cut_32 : decode cX10_cut 32 = .ok (.bastore, 1) := by decide +kernel
theorem dX10_cut_33 : decode cX10_cut 33 = .ok (.aload_n 0, 1) := by decide +kernel
theorem dX10_cut_34 : decode cX10_cut 34 = .ok (.invokevirtual 256, 3) := by decide +kernel
theorem dX10_cut_37 : decode cX10_cut 37 = .ok (.iconst 1, 1) := by decide +kernel
theorem dX10_cut_38 : decode cX10_cut 38 = .ok (.ireturn, 1) := by decide +kernel
theorem dX10_isTitle_0 : decode cX10_isTitle 0 = .ok (.iload_n 1, 1) := by decide +kernel
theorem dX10_isTitle_1 : decode cX10_isTitle 1 = .ok (.ifCond .lt 15, 3) := by decide +kernel
theorem dX10_isTitle_4 : decode cX10_isTitle 4 = .ok (.iload_n 1, 1) := by decide +kernel
theorem dX10_isTitle_5 : decode cX10_isTitle 5 = .ok (.aload_n 0, 1) := by decide +kernel
theorem dX10_isTitle_6 : decode cX10_isTitle 6 = .ok (.getfield 238, 3) := by decide +kernel
theorem dX10_isTitle_9 : decode cX10_isTitle 9 = .ok (.if_icmp .ge 7, 3) := by decide +kernel
theorem dX10_isTitle_12 : decode cX10_isTitle 12 = .ok (.iconst 1, 1) := by decide +kernel
theorem dX10_isTitle_13 : decode cX10_isTitle 13 = .ok (.goto 4, 3) := by decide +kernel
theorem dX10_isTitle_16 : decode cX10_isTitle 16 = .ok (.iconst 0, 1) := by decide +kernel
theorem dX10_isTitle_17 : decode cX10_isTitle 17 = .ok (.ireturn, 1) := by decide +kernel
theorem dX10_isTongue_0 : decode cX10_isTongue 0 = .ok (.iload_n 1, 1) := by decide +kernel
theorem dX10_isTongue_1 : decode cX10_isTongue 1 = .ok (.ifCond .lt 15, 3) := by decide +kernel
theorem dX10_isTongue_4 : decode cX10_isTongue 4 = .ok (.iload_n 1, 1) := by decide +kernel
theorem dX10_isTongue_5 : decode cX10_isTongue 5 = .ok (.aload_n 0, 1) := by decide +kernel
theorem dX10_isTongue_6 : decode cX10_isTongue 6 = .ok (.getfield 13, 3) := by decide +kernel
theorem dX10_isTongue_9 : decode cX10_isTongue 9 = .ok (.if_icmp .ge 7, 3) := by decide +kernel
theorem dX10_isTongue_12 : decode cX10_isTongue 12 = .ok (.iconst 1, 1) := by decide +kernel
theorem dX10_isTongue_13 : decode cX10_isTongue 13 = .ok (.goto 4, 3) := by decide +kernel
theorem dX10_isTongue_16 : decode cX10_isTongue 16 = .ok (.iconst 0, 1) := by decide +kernel
theorem dX10_isTongue_17 : decode cX10_isTongue 17 = .ok (.ireturn, 1) := by decide +kernel
theorem dX10_change_0 : decode cX10_change 0 = .ok (.aload_n 0, 1) := by decide +kernel
theorem dX10_change_1 : decode cX10_change 1 = .ok (.iconst 0, 1) := by decide +kernel
theorem dX10_change_2 : decode cX10_change 2 = .ok (.putfield 113, 3) := by decide +kernel
theorem dX10_change_5 : decode cX10_change 5 = .ok (.aload_n 0, 1) := by decide +kernel
theorem dX10_change_6 : decode cX10_change 6 = .ok (.iload_n 1, 1) := by decide +kernel
theorem dX10_change_7 : decode cX10_change 7 = .ok (.invokevirtual 259, 3) := by decide +kernel
theorem dX10_change_10 : decode cX10_change 10 = .ok (.ifCond .eq 23, 3) := by decide +kernel
theorem dX10_change_13 : decode cX10_change 13 = .ok (.aload_n 0, 1) := by decide +kernel
theorem dX10_change_14 : decode cX10_change 14 = .ok (.iload_n 2, 1) := by decide +kernel
theorem dX10_change_15 : decode cX10_change 15 = .ok (.invokevirtual 262, 3) := by decide +kernel
theorem dX10_change_18 : decode cX10_change 18 = .ok (.ifCond .eq 15, 3) := by decide +kernel
theorem dX10_change_21 : decode cX10_change 21 = .ok (.iload_n 3, 1) := by decide +kernel
theorem dX10_change_22 : decode cX10_change 22 = .ok (.ifCond .lt 11, 3) := by decide +kernel
theorem dX10_change_25 : decode cX10_change 25 = .ok (.iload_n 3, 1) := by decide +kernel
theorem dX10_change_26 : decode cX10_change 26 = .ok (.aload_n 0, 1) := by decide +kernel
theorem dX10_change_27 : decode cX10_change 27 = .ok (.getfield 116, 3) := by decide +kernel
theorem dX10_change_30 : decode cX10_change 30 = .ok (.if_icmp .le 5, 3) := by decide +kernel
theorem dX10_change_33 : decode cX10_change 33 = .ok (.iconst 0, 1) := by decide +kernel
theorem dX10_change_34 : decode cX10_change 34 = .ok (.ireturn, 1) := by decide +kernel
theorem dX10_change_35 : decode cX10_change 35 = .ok (.iconst 4, 1) := by decide +kernel
theorem dX10_change_36 : decode cX10_change 36 = .ok (.iload_n 1, 1) := by decide +kernel
theorem dX10_change_37 : decode cX10_change 37 = .ok (.imul, 1) := by decide +kernel
theorem dX10_change_38 : decode cX10_change 38 = .ok (.iload_n 2, 1) := by decide +kernel
theorem dX10_change_39 : decode cX10_change 39 = .ok (.iadd, 1) := by decide +kernel
theorem dX10_change_40 : decode cX10_change 40 = .ok (.istore 4, 2) := by decide +kernel
theorem dX10_change_42 : decode cX10_change 42 = .ok (.iload_n 3, 1) := by decide +kernel
theorem dX10_change_43 : decode cX10_change 43 = .ok (.ifCond .ne 18, 3) := by decide +kernel
theorem dX10_change_46 : decode cX10_change 46 = .ok (.aload_n 0, 1) := by decide +kernel
theorem dX10_change_47 : decode cX10_change 47 = .ok (.getfield 55, 3) := by decide +kernel
theorem dX10_change_50 : decode cX10_change 50 = .ok (.iload 4, 2) := by decide +kernel
theorem dX10_change_52 : decode cX10_change 52 = .ok (.iconst 0, 1) := by decide +kernel
theorem dX10_change_53 : decode cX10_change 53 = .ok (.bastore, 1) := by decide +kernel
theorem dX10_change_54 : decode cX10_change 54 = .ok (.aload_n 0, 1) := by decide +kernel
theorem dX10_change_55 : decode cX10_change 55 = .ok (.iconst 0, 1) := by decide +kernel
theorem dX10_change_56 : decode cX10_change 56 = .ok (.putfield 116, 3) := by decide +kernel
theorem dX10_change_59 : decode cX10_change 59 = .ok (.iconst 1, 1) := by decide +kernel
theorem dX10_change_60 : decode cX10_change 60 = .ok (.ireturn, 1) := by decide +kernel
theorem dX10_change_61 : decode cX10_change 61 = .ok (.iconst 0, 1) := by decide +kernel
theorem dX10_change_62 : decode cX10_change 62 = .ok (.istore 5, 2) := by decide +kernel
theorem dX10_change_64 : decode cX10_change 64 = .ok (.iload 5, 2) := by decide +kernel
theorem dX10_change_66 : decode cX10_change 66 = .ok (.iload_n 3, 1) := by decide +kernel
theorem dX10_change_67 : decode cX10_change 67 = .ok (.if_icmp .ge 61, 3) := by decide +kernel
theorem dX10_change_70 : decode cX10_change 70 = .ok (.aload_n 0, 1) := by decide +kernel
theorem dX10_change_71 : decode cX10_change 71 = .ok (.getfield 7, 3) := by decide +kernel
theorem dX10_change_74 : decode cX10_change 74 = .ok (.iload 5, 2) := by decide +kernel
theorem dX10_change_76 : decode cX10_change 76 = .ok (.iaload, 1) := by decide +kernel
theorem dX10_change_77 : decode cX10_change 77 = .ok (.bipush 32, 2) := by decide +kernel
theorem dX10_change_79 : decode cX10_change 79 = .ok (.if_icmp .lt 27, 3) := by decide +kernel
theorem dX10_change_82 : decode cX10_change 82 = .ok (.aload_n 0, 1) := by decide +kernel
theorem dX10_change_83 : decode cX10_change 83 = .ok (.getfield 7, 3) := by decide +kernel
theorem dX10_change_86 : decode cX10_change 86 = .ok (.iload 5, 2) := by decide +kernel
theorem dX10_change_88 : decode cX10_change 88 = .ok (.iaload, 1) := by decide +kernel
theorem dX10_change_89 : decode cX10_change 89 = .ok (.bipush 126, 2) := by decide +kernel
theorem dX10_change_91 : decode cX10_change 91 = .ok (.if_icmp .gt 15, 3) := by decide +kernel
theorem dX10_change_94 : decode cX10_change 94 = .ok (.aload_n 0, 1) := by decide +kernel
theorem dX10_change_95 : decode cX10_change 95 = .ok (.getfield 7, 3) := by decide +kernel
theorem dX10_change_98 : decode cX10_change 98 = .ok (.iload 5, 2) := by decide +kernel
theorem dX10_change_100 : decode cX10_change 100 = .ok (.iaload, 1) := by decide +kernel
theorem dX10_change_101 : decode cX10_change 101 = .ok (.bipush 34, 2) := by decide +kernel
theorem dX10_change_103 : decode cX10_change 103 = .ok (.if_icmp .ne 5, 3) := by decide +kernel
theorem dX10_change_106 : decode cX10_change 106 = .ok (.iconst 0, 1) := by decide +kernel
theorem dX10_change_107 : decode cX10_change 107 = .ok (.ireturn, 1) := by decide +kernel
theorem dX10_change_108 : decode cX10_change 108 = .ok (.aload_n 0, 1) := by decide +kernel
theorem dX10_change_109 : decode cX10_change 109 = .ok (.getfield 68, 3) := by decide +kernel
theorem dX10_change_112 : decode cX10_change 112 = .ok (.iload 5, 2) := by decide +kernel
theorem dX10_change_114 : decode cX10_change 114 = .ok (.aload_n 0, 1) := by decide +kernel
theorem dX10_change_115 : decode cX10_change 115 = .ok (.getfield 7, 3) := by decide +kernel
theorem dX10_change_118 : decode cX10_change 118 = .ok (.iload 5, 2) := by decide +kernel
theorem dX10_change_120 : decode cX10_change 120 = .ok (.iaload, 1) := by decide +kernel
theorem dX10_change_121 : decode cX10_change 121 = .ok (.iastore, 1) := by decide +kernel
theorem dX10_change_122 : decode cX10_change 122 = .ok (.iinc 5 1, 3) := by decide +kernel
theorem dX10_change_125 : decode cX10_change 125 = .ok (.goto (-61), 3) := by decide +kernel
theorem dX10_change_128 : decode cX10_change 128 = .ok (.aload_n 0, 1) := by decide +kernel
theorem dX10_change_129 : decode cX10_change 129 = .ok (.iconst 0, 1) := by decide +kernel
theorem dX10_change_130 : decode cX10_change 130 = .ok (.iload_n 3, 1) := by decide +kernel
theorem dX10_change_131 : decode cX10_change 131 = .ok (.invokevirtual 211, 3) := by decide +kernel
theorem dX10_change_134 : decode cX10_change 134 = .ok (.ifCond .eq 17, 3) := by decide +kernel
theorem dX10_change_137 : decode cX10_change 137 = .ok (.aload_n 0, 1) := by decide +kernel
theorem dX10_change_138 : decode cX10_change 138 = .ok (.iload_n 3, 1) := by decide +kernel
theorem dX10_change_139 : decode cX10_change 139 = .ok (.aload_n 0, 1) := by decide +kernel
theorem dX10_change_140 : decode cX10_change 140 = .ok (.getfield 17, 3) := by decide +kernel
theorem dX10_change_143 : decode cX10_change 143 = .ok (.iload_n 2, 1) := by decide +kernel
theorem dX10_change_144 : decode cX10_change 144 = .ok (.iaload, 1) := by decide +kernel
theorem dX10_change_145 : decode cX10_change 145 = .ok (.invokevirtual 147, 3) := by decide +kernel
theorem dX10_change_148 : decode cX10_change 148 = .ok (.ifCond .ne 5, 3) := by decide +kernel
theorem dX10_change_151 : decode cX10_change 151 = .ok (.iconst 0, 1) := by decide +kernel
theorem dX10_change_152 : decode cX10_change 152 = .ok (.ireturn, 1) := by decide +kernel
theorem dX10_change_153 : decode cX10_change 153 = .ok (.aload_n 0, 1) := by decide +kernel
theorem dX10_change_154 : decode cX10_change 154 = .ok (.getfield 55, 3) := by decide +kernel
theorem dX10_change_157 : decode cX10_change 157 = .ok (.iload 4, 2) := by decide +kernel
theorem dX10_change_159 : decode cX10_change 159 = .ok (.iconst 1, 1) := by decide +kernel
theorem dX10_change_160 : decode cX10_change 160 = .ok (.bastore, 1) := by decide +kernel
theorem dX10_change_161 : decode cX10_change 161 = .ok (.aload_n 0, 1) := by decide +kernel
theorem dX10_change_162 : decode cX10_change 162 = .ok (.getfield 61, 3) := by decide +kernel
theorem dX10_change_165 : decode cX10_change 165 = .ok (.iload 4, 2) := by decide +kernel
theorem dX10_change_167 : decode cX10_change 167 = .ok (.iload_n 3, 1) := by decide +kernel
theorem dX10_change_168 : decode cX10_change 168 = .ok (.iastore, 1) := by decide +kernel
theorem dX10_change_169 : decode cX10_change 169 = .ok (.iconst 0, 1) := by decide +kernel
theorem dX10_change_170 : decode cX10_change 170 = .ok (.istore 5, 2) := by decide +kernel
theorem dX10_change_172 : decode cX10_change 172 = .ok (.iload 5, 2) := by decide +kernel
theorem dX10_change_174 : decode cX10_change 174 = .ok (.iload_n 3, 1) := by decide +kernel
theorem dX10_change_175 : decode cX10_change 175 = .ok (.if_icmp .ge 30, 3) := by decide +kernel
theorem dX10_change_178 : decode cX10_change 178 = .ok (.aload_n 0, 1) := by decide +kernel
theorem dX10_change_179 : decode cX10_change 179 = .ok (.getfield 58, 3) := by decide +kernel
theorem dX10_change_182 : decode cX10_change 182 = .ok (.sipush 500, 3) := by decide +kernel
theorem dX10_change_185 : decode cX10_change 185 = .ok (.iload 4, 2) := by decide +kernel
theorem dX10_change_187 : decode cX10_change 187 = .ok (.imul, 1) := by decide +kernel
theorem dX10_change_188 : decode cX10_change 188 = .ok (.iload 5, 2) := by decide +kernel
theorem dX10_change_190 : decode cX10_change 190 = .ok (.iadd, 1) := by decide +kernel
theorem dX10_change_191 : decode cX10_change 191 = .ok (.aload_n 0, 1) := by decide +kernel
theorem dX10_change_192 : decode cX10_change 192 = .ok (.getfield 7, 3) := by decide +kernel
theorem dX10_change_195 : decode cX10_change 195 = .ok (.iload 5, 2) := by decide +kernel
theorem dX10_change_197 : decode cX10_change 197 = .ok (.iaload, 1) := by decide +kernel
theorem dX10_change_198 : decode cX10_change 198 = .ok (.iastore, 1) := by decide +kernel
theorem dX10_change_199 : decode cX10_change 199 = .ok (.iinc 5 1, 3) := by decide +kernel
theorem dX10_change_202 : decode cX10_change 202 = .ok (.goto (-30), 3) := by decide +kernel
theorem dX10_change_205 : decode cX10_change 205 = .ok (.aload_n 0, 1) := by decide +kernel
theorem dX10_change_206 : decode cX10_change 206 = .ok (.iconst 0, 1) := by decide +kernel
theorem dX10_change_207 : decode cX10_change 207 = .ok (.putfield 116, 3) := by decide +kernel
theorem dX10_change_210 : decode cX10_change 210 = .ok (.iconst 1, 1) := by decide +kernel
theorem dX10_change_211 : decode cX10_change 211 = .ok (.ireturn, 1) := by decide +kernel
theorem dX10_heard_0 : decode cX10_heard 0 = .ok (.aload_n 0, 1) := by decide +kernel
theorem dX10_heard_1 : decode cX10_heard 1 = .ok (.iconst 0, 1) := by decide +kernel
theorem dX10_heard_2 : decode cX10_heard 2 = .ok (.putfield 113, 3) := by decide +kernel
theorem dX10_heard_5 : decode cX10_heard 5 = .ok (.iload_n 1, 1) := by decide +kernel
theorem dX10_heard_6 : decode cX10_heard 6 = .ok (.iconst 1, 1) := by decide +kernel
theorem dX10_heard_7 : decode cX10_heard 7 = .ok (.if_icmp .lt 17, 3) := by decide +kernel
theorem dX10_heard_10 : decode cX10_heard 10 = .ok (.iload_n 1, 1) := by decide +kernel
theorem dX10_heard_11 : decode cX10_heard 11 = .ok (.sipush 999, 3) := by decide +kernel
theorem dX10_heard_14 : decode cX10_heard 14 = .ok (.if_icmp .gt 10, 3) := by decide +kernel
theorem dX10_heard_17 : decode cX10_heard 17 = .ok (.aload_n 0, 1) := by decide +kernel
theorem dX10_heard_18 : decode cX10_heard 18 = .ok (.getfield 64, 3) := by decide +kernel
theorem dX10_heard_21 : decode cX10_heard 21 = .ok (.ifCond .ne 5, 3) := by decide +kernel
theorem dX10_heard_24 : decode cX10_heard 24 = .ok (.iconst (-1), 1) := by decide +kernel
theorem dX10_heard_25 : decode cX10_heard 25 = .ok (.ireturn, 1) := by decide +kernel
theorem dX10_heard_26 : decode cX10_heard 26 = .ok (.iload_n 1, 1) := by decide +kernel
theorem dX10_heard_27 : decode cX10_heard 27 = .ok (.aload_n 0, 1) := by decide +kernel
theorem dX10_heard_28 : decode cX10_heard 28 = .ok (.getfield 247, 3) := by decide +kernel
theorem dX10_heard_31 : decode cX10_heard 31 = .ok (.if_icmp .lt 26, 3) := by decide +kernel
theorem dX10_heard_34 : decode cX10_heard 34 = .ok (.iload_n 1, 1) := by decide +kernel
theorem dX10_heard_35 : decode cX10_heard 35 = .ok (.aload_n 0, 1) := by decide +kernel
theorem dX10_heard_36 : decode cX10_heard 36 = .ok (.getfield 247, 3) := by decide +kernel
theorem dX10_heard_39 : decode cX10_heard 39 = .ok (.iconst 4, 1) := by decide +kernel
theorem dX10_heard_40 : decode cX10_heard 40 = .ok (.iadd, 1) := by decide +kernel
theorem dX10_heard_41 : decode cX10_heard 41 = .ok (.if_icmp .gt 16, 3) := by decide +kernel
theorem dX10_heard_44 : decode cX10_heard 44 = .ok (.aload_n 0, 1) := by decide +kernel
theorem dX10_heard_45 : decode cX10_heard 45 = .ok (.iload_n 1, 1) := by decide +kernel
theorem dX10_heard_46 : decode cX10_heard 46 = .ok (.putfield 247, 3) := by decide +kernel
theorem dX10_heard_49 : decode cX10_heard 49 = .ok (.aload_n 0, 1) := by decide +kernel
theorem dX10_heard_50 : decode cX10_heard 50 = .ok (.iconst 0, 1) := by decide +kernel
theorem dX10_heard_51 : decode cX10_heard 51 = .ok (.putfield 250, 3) := by decide +kernel
theorem dX10_heard_54 : decode cX10_heard 54 = .ok (.goto 73, 3) := by decide +kernel
theorem dX10_heard_57 : decode cX10_heard 57 = .ok (.aload_n 0, 1) := by decide +kernel
theorem dX10_heard_58 : decode cX10_heard 58 = .ok (.getfield 250, 3) := by decide +kernel
theorem dX10_heard_61 : decode cX10_heard 61 = .ok (.ifCond .le 34, 3) := by decide +kernel
theorem dX10_heard_64 : decode cX10_heard 64 = .ok (.iload_n 1, 1) := by decide +kernel
theorem dX10_heard_65 : decode cX10_heard 65 = .ok (.aload_n 0, 1) := by decide +kernel
theorem dX10_heard_66 : decode cX10_heard 66 = .ok (.getfield 265, 3) := by decide +kernel
theorem dX10_heard_69 : decode cX10_heard 69 = .ok (.iconst 1, 1) := by decide +kernel
theorem dX10_heard_70 : decode cX10_heard 70 = .ok (.iadd, 1) := by decide +kernel
theorem dX10_heard_71 : decode cX10_heard 71 = .ok (.if_icmp .ne 24, 3) := by decide +kernel
theorem dX10_heard_74 : decode cX10_heard 74 = .ok (.iload_n 1, 1) := by decide +kernel
theorem dX10_heard_75 : decode cX10_heard 75 = .ok (.aload_n 0, 1) := by decide +kernel
theorem dX10_heard_76 : decode cX10_heard 76 = .ok (.getfield 247, 3) := by decide +kernel
theorem dX10_heard_79 : decode cX10_heard 79 = .ok (.if_icmp .le 16, 3) := by decide +kernel
theorem dX10_heard_82 : decode cX10_heard 82 = .ok (.aload_n 0, 1) := by decide +kernel
theorem dX10_heard_83 : decode cX10_heard 83 = .ok (.iload_n 1, 1) := by decide +kernel
theorem dX10_heard_84 : decode cX10_heard 84 = .ok (.putfield 247, 3) := by decide +kernel
theorem dX10_heard_87 : decode cX10_heard 87 = .ok (.aload_n 0, 1) := by decide +kernel
theorem dX10_heard_88 : decode cX10_heard 88 = .ok (.iconst 0, 1) := by decide +kernel
theorem dX10_heard_89 : decode cX10_heard 89 = .ok (.putfield 250, 3) := by decide +kernel
theorem dX10_heard_92 : decode cX10_heard 92 = .ok (.goto 35, 3) := by decide +kernel
theorem dX10_heard_95 : decode cX10_heard 95 = .ok (.aload_n 0, 1) := by decide +kernel
theorem dX10_heard_96 : decode cX10_heard 96 = .ok (.dup, 1) := by decide +kernel
theorem dX10_heard_97 : decode cX10_heard 97 = .ok (.getfield 250, 3) := by decide +kernel
theorem dX10_heard_100 : decode cX10_heard 100 = .ok (.iconst 1, 1) := by decide +kernel
theorem dX10_heard_101 : decode cX10_heard 101 = .ok (.iadd, 1) := by decide +kernel
theorem dX10_heard_102 : decode cX10_heard 102 = .ok (.putfield 250, 3) := by decide +kernel
theorem dX10_heard_105 : decode cX10_heard 105 = .ok (.aload_n 0, 1) := by decide +kernel
theorem dX10_heard_106 : decode cX10_heard 106 = .ok (.iload_n 1, 1) := by decide +kernel
theorem dX10_heard_107 : decode cX10_heard 107 = .ok (.putfield 265, 3) := by decide +kernel
theorem dX10_heard_110 : decode cX10_heard 110 = .ok (.aload_n 0, 1) := by decide +kernel
theorem dX10_heard_111 : decode cX10_heard 111 = .ok (.aload_n 0, 1) := by decide +kernel
theorem dX10_heard_112 : decode cX10_heard 112 = .ok (.getfield 250, 3) := by decide +kernel
theorem dX10_heard_115 : decode cX10_heard 115 = .ok (.iconst 3, 1) := by decide +kernel
theorem dX10_heard_116 : decode cX10_heard 116 = .ok (.if_icmp .ge 7, 3) := by decide +kernel
theorem dX10_heard_119 : decode cX10_heard 119 = .ok (.iconst 1, 1) := by decide +kernel
theorem dX10_heard_120 : decode cX10_heard 120 = .ok (.goto 4, 3) := by decide +kernel
theorem dX10_heard_123 : decode cX10_heard 123 = .ok (.iconst 0, 1) := by decide +kernel
theorem dX10_heard_124 : decode cX10_heard 124 = .ok (.putfield 64, 3) := by decide +kernel
theorem dX10_heard_127 : decode cX10_heard 127 = .ok (.aload_n 0, 1) := by decide +kernel
theorem dX10_heard_128 : decode cX10_heard 128 = .ok (.invokevirtual 256, 3) := by decide +kernel
theorem dX10_heard_131 : decode cX10_heard 131 = .ok (.aload_n 0, 1) := by decide +kernel
theorem dX10_heard_132 : decode cX10_heard 132 = .ok (.getfield 247, 3) := by decide +kernel
theorem dX10_heard_135 : decode cX10_heard 135 = .ok (.ireturn, 1) := by decide +kernel
theorem dX10_hand_0 : decode cX10_hand 0 = .ok (.aload_n 0, 1) := by decide +kernel
theorem dX10_hand_1 : decode cX10_hand 1 = .ok (.iconst 0, 1) := by decide +kernel
theorem dX10_hand_2 : decode cX10_hand 2 = .ok (.putfield 113, 3) := by decide +kernel
theorem dX10_hand_5 : decode cX10_hand 5 = .ok (.iload_n 1, 1) := by decide +kernel
theorem dX10_hand_6 : decode cX10_hand 6 = .ok (.ifCond .lt 10, 3) := by decide +kernel
theorem dX10_hand_9 : decode cX10_hand 9 = .ok (.iload_n 1, 1) := by decide +kernel
theorem dX10_hand_10 : decode cX10_hand 10 = .ok (.sipush 999, 3) := by decide +kernel
theorem dX10_hand_13 : decode cX10_hand 13 = .ok (.if_icmp .le 5, 3) := by decide +kernel
theorem dX10_hand_16 : decode cX10_hand 16 = .ok (.iconst (-1), 1) := by decide +kernel
theorem dX10_hand_17 : decode cX10_hand 17 = .ok (.ireturn, 1) := by decide +kernel
theorem dX10_hand_18 : decode cX10_hand 18 = .ok (.aload_n 0, 1) := by decide +kernel
theorem dX10_hand_19 : decode cX10_hand 19 = .ok (.iload_n 1, 1) := by decide +kernel
theorem dX10_hand_20 : decode cX10_hand 20 = .ok (.putfield 247, 3) := by decide +kernel
theorem dX10_hand_23 : decode cX10_hand 23 = .ok (.aload_n 0, 1) := by decide +kernel
theorem dX10_hand_24 : decode cX10_hand 24 = .ok (.iconst 0, 1) := by decide +kernel
theorem dX10_hand_25 : decode cX10_hand 25 = .ok (.putfield 250, 3) := by decide +kernel
theorem dX10_hand_28 : decode cX10_hand 28 = .ok (.aload_n 0, 1) := by decide +kernel
theorem dX10_hand_29 : decode cX10_hand 29 = .ok (.iload_n 2, 1) := by decide +kernel
theorem dX10_hand_30 : decode cX10_hand 30 = .ok (.putfield 64, 3) := by decide +kernel
theorem dX10_hand_33 : decode cX10_hand 33 = .ok (.aload_n 0, 1) := by decide +kernel
theorem dX10_hand_34 : decode cX10_hand 34 = .ok (.invokevirtual 256, 3) := by decide +kernel
theorem dX10_hand_37 : decode cX10_hand 37 = .ok (.aload_n 0, 1) := by decide +kernel
theorem dX10_hand_38 : decode cX10_hand 38 = .ok (.getfield 247, 3) := by decide +kernel
theorem dX10_hand_41 : decode cX10_hand 41 = .ok (.ireturn, 1) := by decide +kernel
theorem dX10_steps_0 : decode cX10_steps 0 = .ok (.iconst 0, 1) := by decide +kernel
theorem dX10_steps_1 : decode cX10_steps 1 = .ok (.istore_n 2, 1) := by decide +kernel
theorem dX10_steps_2 : decode cX10_steps 2 = .ok (.iconst 0, 1) := by decide +kernel
theorem dX10_steps_3 : decode cX10_steps 3 = .ok (.istore_n 3, 1) := by decide +kernel
theorem dX10_steps_4 : decode cX10_steps 4 = .ok (.iload_n 3, 1) := by decide +kernel
theorem dX10_steps_5 : decode cX10_steps 5 = .ok (.aload_n 0, 1) := by decide +kernel
theorem dX10_steps_6 : decode cX10_steps 6 = .ok (.getfield 13, 3) := by decide +kernel
theorem dX10_steps_9 : decode cX10_steps 9 = .ok (.if_icmp .ge 32, 3) := by decide +kernel
theorem dX10_steps_12 : decode cX10_steps 12 = .ok (.aload_n 0, 1) := by decide +kernel
theorem dX10_steps_13 : decode cX10_steps 13 = .ok (.iload_n 1, 1) := by decide +kernel
theorem dX10_steps_14 : decode cX10_steps 14 = .ok (.iload_n 3, 1) := by decide +kernel
theorem dX10_steps_15 : decode cX10_steps 15 = .ok (.invokevirtual 268, 3) := by decide +kernel
theorem dX10_steps_18 : decode cX10_steps 18 = .ok (.aload_n 0, 1) := by decide +kernel
theorem dX10_steps_19 : decode cX10_steps 19 = .ok (.getfield 133, 3) := by decide +kernel
theorem dX10_steps_22 : decode cX10_steps 22 = .ok (.iload_n 2, 1) := by decide +kernel
theorem dX10_steps_23 : decode cX10_steps 23 = .ok (.if_icmp .le 10, 3) := by decide +kernel
theorem dX10_steps_26 : decode cX10_steps 26 = .ok (.aload_n 0, 1) := by decide +kernel
theorem dX10_steps_27 : decode cX10_steps 27 = .ok (.getfield 133, 3) := by decide +kernel
theorem dX10_steps_30 : decode cX10_steps 30 = .ok (.goto 4, 3) := by decide +kernel
theorem dX10_steps_33 : decode cX10_steps 33 = .ok (.iload_n 2, 1) := by decide +kernel
theorem dX10_steps_34 : decode cX10_steps 34 = .ok (.istore_n 2, 1) := by decide +kernel
theorem dX10_steps_35 : decode cX10_steps 35 = .ok (.iinc 3 1, 3) := by decide +kernel
theorem dX10_steps_38 : decode cX10_steps 38 = .ok (.goto (-34), 3) := by decide +kernel
theorem dX10_steps_41 : decode cX10_steps 41 = .ok (.iload_n 2, 1) := by decide +kernel
theorem dX10_steps_42 : decode cX10_steps 42 = .ok (.ireturn, 1) := by decide +kernel
theorem dX10_endOf_0 : decode cX10_endOf 0 = .ok (.iload_n 1, 1) := by decide +kernel
theorem dX10_endOf_1 : decode cX10_endOf 1 = .ok (.iconst 1, 1) := by decide +kernel
theorem dX10_endOf_2 : decode cX10_endOf 2 = .ok (.iadd, 1) := by decide +kernel
theorem dX10_endOf_3 : decode cX10_endOf 3 = .ok (.aload_n 0, 1) := by decide +kernel
theorem dX10_endOf_4 : decode cX10_endOf 4 = .ok (.getfield 235, 3) := by decide +kernel
theorem dX10_endOf_7 : decode cX10_endOf 7 = .ok (.if_icmp .ge 14, 3) := by decide +kernel
theorem dX10_endOf_10 : decode cX10_endOf 10 = .ok (.aload_n 0, 1) := by decide +kernel
theorem dX10_endOf_11 : decode cX10_endOf 11 = .ok (.getfield 26, 3) := by decide +kernel
theorem dX10_endOf_14 : decode cX10_endOf 14 = .ok (.iload_n 1, 1) := by decide +kernel
theorem dX10_endOf_15 : decode cX10_endOf 15 = .ok (.iconst 1, 1) := by decide +kernel
theorem dX10_endOf_16 : decode cX10_endOf 16 = .ok (.iadd, 1) := by decide +kernel
theorem dX10_endOf_17 : decode cX10_endOf 17 = .ok (.iaload, 1) := by decide +kernel
theorem dX10_endOf_18 : decode cX10_endOf 18 = .ok (.goto 6, 3) := by decide +kernel
theorem dX10_endOf_21 : decode cX10_endOf 21 = .ok (.sipush 1000, 3) := by decide +kernel
theorem dX10_endOf_24 : decode cX10_endOf 24 = .ok (.ireturn, 1) := by decide +kernel
theorem dX10_bars_0 : decode cX10_bars 0 = .ok (.iconst 0, 1) := by decide +kernel
theorem dX10_bars_1 : decode cX10_bars 1 = .ok (.istore_n 3, 1) := by decide +kernel
theorem dX10_bars_2 : decode cX10_bars 2 = .ok (.aload_n 0, 1) := by decide +kernel
theorem dX10_bars_3 : decode cX10_bars 3 = .ok (.getfield 26, 3) := by decide +kernel
theorem dX10_bars_6 : decode cX10_bars 6 = .ok (.aload_n 0, 1) := by decide +kernel
theorem dX10_bars_7 : decode cX10_bars 7 = .ok (.getfield 32, 3) := by decide +kernel
theorem dX10_bars_10 : decode cX10_bars 10 = .ok (.iload_n 1, 1) := by decide +kernel
theorem dX10_bars_11 : decode cX10_bars 11 = .ok (.iaload, 1) := by decide +kernel
theorem dX10_bars_12 : decode cX10_bars 12 = .ok (.iaload, 1) := by decide +kernel
theorem dX10_bars_13 : decode cX10_bars 13 = .ok (.istore 4, 2) := by decide +kernel
theorem dX10_bars_15 : decode cX10_bars 15 = .ok (.iload 4, 2) := by decide +kernel
theorem dX10_bars_17 : decode cX10_bars 17 = .ok (.iload_n 2, 1) := by decide +kernel
theorem dX10_bars_18 : decode cX10_bars 18 = .ok (.if_icmp .ge 26, 3) := by decide +kernel
theorem dX10_bars_21 : decode cX10_bars 21 = .ok (.iload_n 3, 1) := by decide +kernel
theorem dX10_bars_22 : decode cX10_bars 22 = .ok (.aload_n 0, 1) := by decide +kernel
theorem dX10_bars_23 : decode cX10_bars 23 = .ok (.iload 4, 2) := by decide +kernel
theorem dX10_bars_25 : decode cX10_bars 25 = .ok (.invokevirtual 253, 3) := by decide +kernel
theorem dX10_bars_28 : decode cX10_bars 28 = .ok (.ifCond .eq 7, 3) := by decide +kernel
theorem dX10_bars_31 : decode cX10_bars 31 = .ok (.iconst 0, 1) := by decide +kernel
theorem dX10_bars_32 : decode cX10_bars 32 = .ok (.goto 4, 3) := by decide +kernel
theorem dX10_bars_35 : decode cX10_bars 35 = .ok (.iconst 1, 1) := by decide +kernel
theorem dX10_bars_36 : decode cX10_bars 36 = .ok (.iadd, 1) := by decide +kernel
theorem dX10_bars_37 : decode cX10_bars 37 = .ok (.istore_n 3, 1) := by decide +kernel
theorem dX10_bars_38 : decode cX10_bars 38 = .ok (.iinc 4 1, 3) := by decide +kernel
theorem dX10_bars_41 : decode cX10_bars 41 = .ok (.goto (-26), 3) := by decide +kernel
theorem dX10_bars_44 : decode cX10_bars 44 = .ok (.iload_n 3, 1) := by decide +kernel
theorem dX10_bars_45 : decode cX10_bars 45 = .ok (.ireturn, 1) := by decide +kernel
theorem dX10_stepAt_0 : decode cX10_stepAt 0 = .ok (.iload_n 3, 1) := by decide +kernel
theorem dX10_stepAt_1 : decode cX10_stepAt 1 = .ok (.iconst 1, 1) := by decide +kernel
theorem dX10_stepAt_2 : decode cX10_stepAt 2 = .ok (.isub, 1) := by decide +kernel
theorem dX10_stepAt_3 : decode cX10_stepAt 3 = .ok (.istore 4, 2) := by decide +kernel
theorem dX10_stepAt_5 : decode cX10_stepAt 5 = .ok (.iload 4, 2) := by decide +kernel
theorem dX10_stepAt_7 : decode cX10_stepAt 7 = .ok (.ifCond .le 19, 3) := by decide +kernel
theorem dX10_stepAt_10 : decode cX10_stepAt 10 = .ok (.iload 4, 2) := by decide +kernel
theorem dX10_stepAt_12 : decode cX10_stepAt 12 = .ok (.iload_n 2, 1) := by decide +kernel
theorem dX10_stepAt_13 : decode cX10_stepAt 13 = .ok (.imul, 1) := by decide +kernel
theorem dX10_stepAt_14 : decode cX10_stepAt 14 = .ok (.iload_n 3, 1) := by decide +kernel
theorem dX10_stepAt_15 : decode cX10_stepAt 15 = .ok (.idiv, 1) := by decide +kernel
theorem dX10_stepAt_16 : decode cX10_stepAt 16 = .ok (.iload_n 1, 1) := by decide +kernel
theorem dX10_stepAt_17 : decode cX10_stepAt 17 = .ok (.if_icmp .le 9, 3) := by decide +kernel
theorem dX10_stepAt_20 : decode cX10_stepAt 20 = .ok (.iinc 4 (-1), 3) := by decide +kernel
theorem dX10_stepAt_23 : decode cX10_stepAt 23 = .ok (.goto (-18), 3) := by decide +kernel
theorem dX10_stepAt_26 : decode cX10_stepAt 26 = .ok (.iload 4, 2) := by decide +kernel
theorem dX10_stepAt_28 : decode cX10_stepAt 28 = .ok (.ireturn, 1) := by decide +kernel
theorem dX10_shortOf_0 : decode cX10_shortOf 0 = .ok (.aload_n 0, 1) := by decide +kernel
theorem dX10_shortOf_1 : decode cX10_shortOf 1 = .ok (.iload_n 1, 1) := by decide +kernel
theorem dX10_shortOf_2 : decode cX10_shortOf 2 = .ok (.invokevirtual 272, 3) := by decide +kernel
theorem dX10_shortOf_5 : decode cX10_shortOf 5 = .ok (.istore_n 2, 1) := by decide +kernel
theorem dX10_shortOf_6 : decode cX10_shortOf 6 = .ok (.aload_n 0, 1) := by decide +kernel
theorem dX10_shortOf_7 : decode cX10_shortOf 7 = .ok (.iload_n 1, 1) := by decide +kernel
theorem dX10_shortOf_8 : decode cX10_shortOf 8 = .ok (.aload_n 0, 1) := by decide +kernel
theorem dX10_shortOf_9 : decode cX10_shortOf 9 = .ok (.aload_n 0, 1) := by decide +kernel
theorem dX10_shortOf_10 : decode cX10_shortOf 10 = .ok (.getfield 32, 3) := by decide +kernel
theorem dX10_shortOf_13 : decode cX10_shortOf 13 = .ok (.iload_n 1, 1) := by decide +kernel
theorem dX10_shortOf_14 : decode cX10_shortOf 14 = .ok (.iaload, 1) := by decide +kernel
theorem dX10_shortOf_15 : decode cX10_shortOf 15 = .ok (.invokevirtual 276, 3) := by decide +kernel
theorem dX10_shortOf_18 : decode cX10_shortOf 18 = .ok (.invokevirtual 279, 3) := by decide +kernel
theorem dX10_shortOf_21 : decode cX10_shortOf 21 = .ok (.istore_n 3, 1) := by decide +kernel
theorem dX10_shortOf_22 : decode cX10_shortOf 22 = .ok (.iconst 0, 1) := by decide +kernel
theorem dX10_shortOf_23 : decode cX10_shortOf 23 = .ok (.istore 4, 2) := by decide +kernel
theorem dX10_shortOf_25 : decode cX10_shortOf 25 = .ok (.iconst 0, 1) := by decide +kernel
theorem dX10_shortOf_26 : decode cX10_shortOf 26 = .ok (.istore 5, 2) := by decide +kernel
theorem dX10_shortOf_28 : decode cX10_shortOf 28 = .ok (.iload 5, 2) := by decide +kernel
theorem dX10_shortOf_30 : decode cX10_shortOf 30 = .ok (.aload_n 0, 1) := by decide +kernel
theorem dX10_shortOf_31 : decode cX10_shortOf 31 = .ok (.getfield 13, 3) := by decide +kernel
theorem dX10_shortOf_34 : decode cX10_shortOf 34 = .ok (.if_icmp .ge 203, 3) := by decide +kernel
theorem dX10_shortOf_37 : decode cX10_shortOf 37 = .ok (.aload_n 0, 1) := by decide +kernel
theorem dX10_shortOf_38 : decode cX10_shortOf 38 = .ok (.iload_n 1, 1) := by decide +kernel
theorem dX10_shortOf_39 : decode cX10_shortOf 39 = .ok (.iload 5, 2) := by decide +kernel
theorem dX10_shortOf_41 : decode cX10_shortOf 41 = .ok (.invokevirtual 268, 3) := by decide +kernel
theorem dX10_shortOf_44 : decode cX10_shortOf 44 = .ok (.aload_n 0, 1) := by decide +kernel
theorem dX10_shortOf_45 : decode cX10_shortOf 45 = .ok (.getfield 133, 3) := by decide +kernel
theorem dX10_shortOf_48 : decode cX10_shortOf 48 = .ok (.istore 6, 2) := by decide +kernel
theorem dX10_shortOf_50 : decode cX10_shortOf 50 = .ok (.iconst 0, 1) := by decide +kernel
theorem dX10_shortOf_51 : decode cX10_shortOf 51 = .ok (.istore 7, 2) := by decide +kernel
theorem dX10_shortOf_53 : decode cX10_shortOf 53 = .ok (.iconst 0, 1) := by decide +kernel
theorem dX10_shortOf_54 : decode cX10_shortOf 54 = .ok (.istore 8, 2) := by decide +kernel
theorem dX10_shortOf_56 : decode cX10_shortOf 56 = .ok (.iload 8, 2) := by decide +kernel
theorem dX10_shortOf_58 : decode cX10_shortOf 58 = .ok (.iload 6, 2) := by decide +kernel
theorem dX10_shortOf_60 : decode cX10_shortOf 60 = .ok (.if_icmp .ge 171, 3) := by decide +kernel
theorem dX10_shortOf_63 : decode cX10_shortOf 63 = .ok (.iconst 0, 1) := by decide +kernel
theorem dX10_shortOf_64 : decode cX10_shortOf 64 = .ok (.istore 9, 2) := by decide +kernel
theorem dX10_shortOf_66 : decode cX10_shortOf 66 = .ok (.iconst 2, 1) := by decide +kernel
theorem dX10_shortOf_67 : decode cX10_shortOf 67 = .ok (.iload 8, 2) := by decide +kernel
theorem dX10_shortOf_69 : decode cX10_shortOf 69 = .ok (.imul, 1) := by decide +kernel
theorem dX10_shortOf_70 : decode cX10_shortOf 70 = .ok (.istore 10, 2) := by decide +kernel
theorem dX10_shortOf_72 : decode cX10_shortOf 72 = .ok (.iload 10, 2) := by decide +kernel
theorem dX10_shortOf_74 : decode cX10_shortOf 74 = .ok (.iconst 2, 1) := by decide +kernel
theorem dX10_shortOf_75 : decode cX10_shortOf 75 = .ok (.iload 8, 2) := by decide +kernel
theorem dX10_shortOf_77 : decode cX10_shortOf 77 = .ok (.imul, 1) := by decide +kernel
theorem dX10_shortOf_78 : decode cX10_shortOf 78 = .ok (.iconst 2, 1) := by decide +kernel
theorem dX10_shortOf_79 : decode cX10_shortOf 79 = .ok (.iadd, 1) := by decide +kernel
theorem dX10_shortOf_80 : decode cX10_shortOf 80 = .ok (.if_icmp .ge 53, 3) := by decide +kernel
theorem dX10_shortOf_83 : decode cX10_shortOf 83 = .ok (.iload 9, 2) := by decide +kernel
theorem dX10_shortOf_85 : decode cX10_shortOf 85 = .ok (.aload_n 0, 1) := by decide +kernel
theorem dX10_shortOf_86 : decode cX10_shortOf 86 = .ok (.getfield 80, 3) := by decide +kernel
theorem dX10_shortOf_89 : decode cX10_shortOf 89 = .ok (.iload 10, 2) := by decide +kernel
theorem dX10_shortOf_91 : decode cX10_shortOf 91 = .ok (.iaload, 1) := by decide +kernel
theorem dX10_shortOf_92 : decode cX10_shortOf 92 = .ok (.ifCond .le 19, 3) := by decide +kernel
theorem dX10_shortOf_95 : decode cX10_shortOf 95 = .ok (.aload_n 0, 1) := by decide +kernel
theorem dX10_shortOf_96 : decode cX10_shortOf 96 = .ok (.iload 7, 2) := by decide +kernel
theorem dX10_shortOf_98 : decode cX10_shortOf 98 = .ok (.aload_n 0, 1) := by decide +kernel
theorem dX10_shortOf_99 : decode cX10_shortOf 99 = .ok (.getfield 80, 3) := by decide +kernel
theorem dX10_shortOf_102 : decode cX10_shortOf 102 = .ok (.iload 10, 2) := by decide +kernel
theorem dX10_shortOf_104 : decode cX10_shortOf 104 = .ok (.iaload, 1) := by decide +kernel
theorem dX10_shortOf_105 : decode cX10_shortOf 105 = .ok (.invokevirtual 122, 3) := by decide +kernel
theorem dX10_shortOf_108 : decode cX10_shortOf 108 = .ok (.goto 4, 3) := by decide +kernel
theorem dX10_shortOf_111 : decode cX10_shortOf 111 = .ok (.iconst 0, 1) := by decide +kernel
theorem dX10_shortOf_112 : decode cX10_shortOf 112 = .ok (.iadd, 1) := by decide +kernel
theorem dX10_shortOf_113 : decode cX10_shortOf 113 = .ok (.istore 9, 2) := by decide +kernel
theorem dX10_shortOf_115 : decode cX10_shortOf 115 = .ok (.iload 7, 2) := by decide +kernel
theorem dX10_shortOf_117 : decode cX10_shortOf 117 = .ok (.aload_n 0, 1) := by decide +kernel
theorem dX10_shortOf_118 : decode cX10_shortOf 118 = .ok (.getfield 80, 3) := by decide +kernel
theorem dX10_shortOf_121 : decode cX10_shortOf 121 = .ok (.iload 10, 2) := by decide +kernel
theorem dX10_shortOf_123 : decode cX10_shortOf 123 = .ok (.iaload, 1) := by decide +kernel
theorem dX10_shortOf_124 : decode cX10_shortOf 124 = .ok (.iadd, 1) := by decide +kernel
theorem dX10_shortOf_125 : decode cX10_shortOf 125 = .ok (.istore 7, 2) := by decide +kernel
theorem dX10_shortOf_127 : decode cX10_shortOf 127 = .ok (.iinc 10 1, 3) := by decide +kernel
theorem dX10_shortOf_130 : decode cX10_shortOf 130 = .ok (.goto (-58), 3) := by decide +kernel
theorem dX10_shortOf_133 : decode cX10_shortOf 133 = .ok (.iconst 0, 1) := by decide +kernel
theorem dX10_shortOf_134 : decode cX10_shortOf 134 = .ok (.istore 10, 2) := by decide +kernel
theorem dX10_shortOf_136 : decode cX10_shortOf 136 = .ok (.iconst 0, 1) := by decide +kernel
theorem dX10_shortOf_137 : decode cX10_shortOf 137 = .ok (.istore 11, 2) := by decide +kernel
theorem dX10_shortOf_139 : decode cX10_shortOf 139 = .ok (.iload 11, 2) := by decide +kernel
theorem dX10_shortOf_141 : decode cX10_shortOf 141 = .ok (.iload_n 3, 1) := by decide +kernel
theorem dX10_shortOf_142 : decode cX10_shortOf 142 = .ok (.if_icmp .ge 37, 3) := by decide +kernel
theorem dX10_shortOf_145 : decode cX10_shortOf 145 = .ok (.iload 10, 2) := by decide +kernel
theorem dX10_shortOf_147 : decode cX10_shortOf 147 = .ok (.aload_n 0, 1) := by decide +kernel
theorem dX10_shortOf_148 : decode cX10_shortOf 148 = .ok (.iload 11, 2) := by decide +kernel
theorem dX10_shortOf_150 : decode cX10_shortOf 150 = .ok (.iload_n 3, 1) := by decide +kernel
theorem dX10_shortOf_151 : decode cX10_shortOf 151 = .ok (.iload_n 2, 1) := by decide +kernel
theorem dX10_shortOf_152 : decode cX10_shortOf 152 = .ok (.invokevirtual 282, 3) := by decide +kernel
theorem dX10_shortOf_155 : decode cX10_shortOf 155 = .ok (.iload 6, 2) := by decide +kernel
theorem dX10_shortOf_157 : decode cX10_shortOf 157 = .ok (.imul, 1) := by decide +kernel
theorem dX10_shortOf_158 : decode cX10_shortOf 158 = .ok (.iload_n 2, 1) := by decide +kernel
theorem dX10_shortOf_159 : decode cX10_shortOf 159 = .ok (.idiv, 1) := by decide +kernel
theorem dX10_shortOf_160 : decode cX10_shortOf 160 = .ok (.iload 8, 2) := by decide +kernel
theorem dX10_shortOf_162 : decode cX10_shortOf 162 = .ok (.if_icmp .ne 7, 3) := by decide +kernel
theorem dX10_shortOf_165 : decode cX10_shortOf 165 = .ok (.iconst 1, 1) := by decide +kernel
theorem dX10_shortOf_166 : decode cX10_shortOf 166 = .ok (.goto 4, 3) := by decide +kernel
theorem dX10_shortOf_169 : decode cX10_shortOf 169 = .ok (.iconst 0, 1) := by decide +kernel
theorem dX10_shortOf_170 : decode cX10_shortOf 170 = .ok (.iadd, 1) := by decide +kernel
theorem dX10_shortOf_171 : decode cX10_shortOf 171 = .ok (.istore 10, 2) := by decide +kernel
theorem dX10_shortOf_173 : decode cX10_shortOf 173 = .ok (.iinc 11 1, 3) := by decide +kernel
theorem dX10_shortOf_176 : decode cX10_shortOf 176 = .ok (.goto (-37), 3) := by decide +kernel
theorem dX10_shortOf_179 : decode cX10_shortOf 179 = .ok (.iload 9, 2) := by decide +kernel
theorem dX10_shortOf_181 : decode cX10_shortOf 181 = .ok (.aload_n 0, 1) := by decide +kernel
theorem dX10_shortOf_182 : decode cX10_shortOf 182 = .ok (.getfield 20, 3) := by decide +kernel
theorem dX10_shortOf_185 : decode cX10_shortOf 185 = .ok (.iload 5, 2) := by decide +kernel
theorem dX10_shortOf_187 : decode cX10_shortOf 187 = .ok (.iaload, 1) := by decide +kernel
theorem dX10_shortOf_188 : decode cX10_shortOf 188 = .ok (.iadd, 1) := by decide +kernel
theorem dX10_shortOf_189 : decode cX10_shortOf 189 = .ok (.iconst 1, 1) := by decide +kernel
theorem dX10_shortOf_190 : decode cX10_shortOf 190 = .ok (.isub, 1) := by decide +kernel
theorem dX10_shortOf_191 : decode cX10_shortOf 191 = .ok (.aload_n 0, 1) := by decide +kernel
theorem dX10_shortOf_192 : decode cX10_shortOf 192 = .ok (.getfield 20, 3) := by decide +kernel
theorem dX10_shortOf_195 : decode cX10_shortOf 195 = .ok (.iload 5, 2) := by decide +kernel
theorem dX10_shortOf_197 : decode cX10_shortOf 197 = .ok (.iaload, 1) := by decide +kernel
theorem dX10_shortOf_198 : decode cX10_shortOf 198 = .ok (.idiv, 1) := by decide +kernel
theorem dX10_shortOf_199 : decode cX10_shortOf 199 = .ok (.aload_n 0, 1) := by decide +kernel
theorem dX10_shortOf_200 : decode cX10_shortOf 200 = .ok (.getfield 23, 3) := by decide +kernel
theorem dX10_shortOf_203 : decode cX10_shortOf 203 = .ok (.iload 10, 2) := by decide +kernel
theorem dX10_shortOf_205 : decode cX10_shortOf 205 = .ok (.imul, 1) := by decide +kernel
theorem dX10_shortOf_206 : decode cX10_shortOf 206 = .ok (.isub, 1) := by decide +kernel
theorem dX10_shortOf_207 : decode cX10_shortOf 207 = .ok (.istore 11, 2) := by decide +kernel
theorem dX10_shortOf_209 : decode cX10_shortOf 209 = .ok (.iload 11, 2) := by decide +kernel
theorem dX10_shortOf_211 : decode cX10_shortOf 211 = .ok (.iload 4, 2) := by decide +kernel
theorem dX10_shortOf_213 : decode cX10_shortOf 213 = .ok (.if_icmp .le 8, 3) := by decide +kernel
theorem dX10_shortOf_216 : decode cX10_shortOf 216 = .ok (.iload 11, 2) := by decide +kernel
theorem dX10_shortOf_218 : decode cX10_shortOf 218 = .ok (.goto 5, 3) := by decide +kernel
theorem dX10_shortOf_221 : decode cX10_shortOf 221 = .ok (.iload 4, 2) := by decide +kernel
theorem dX10_shortOf_223 : decode cX10_shortOf 223 = .ok (.istore 4, 2) := by decide +kernel
theorem dX10_shortOf_225 : decode cX10_shortOf 225 = .ok (.iinc 8 1, 3) := by decide +kernel
theorem dX10_shortOf_228 : decode cX10_shortOf 228 = .ok (.goto (-172), 3) := by decide +kernel
theorem dX10_shortOf_231 : decode cX10_shortOf 231 = .ok (.iinc 5 1, 3) := by decide +kernel
theorem dX10_shortOf_234 : decode cX10_shortOf 234 = .ok (.goto (-206), 3) := by decide +kernel
theorem dX10_shortOf_237 : decode cX10_shortOf 237 = .ok (.iload 4, 2) := by decide +kernel
theorem dX10_shortOf_239 : decode cX10_shortOf 239 = .ok (.ireturn, 1) := by decide +kernel
theorem dX10_fails_0 : decode cX10_fails 0 = .ok (.aload_n 0, 1) := by decide +kernel
theorem dX10_fails_1 : decode cX10_fails 1 = .ok (.iload_n 1, 1) := by decide +kernel
theorem dX10_fails_2 : decode cX10_fails 2 = .ok (.putfield 113, 3) := by decide +kernel
theorem dX10_fails_5 : decode cX10_fails 5 = .ok (.iconst 0, 1) := by decide +kernel
theorem dX10_fails_6 : decode cX10_fails 6 = .ok (.ireturn, 1) := by decide +kernel
theorem dX10_title__0 : decode cX10_title_ 0 = .ok (.aload_n 0, 1) := by decide +kernel
theorem dX10_title__1 : decode cX10_title_ 1 = .ok (.iconst 0, 1) := by decide +kernel
theorem dX10_title__2 : decode cX10_title_ 2 = .ok (.putfield 113, 3) := by decide +kernel
theorem dX10_title__5 : decode cX10_title_ 5 = .ok (.aload_n 0, 1) := by decide +kernel
theorem dX10_title__6 : decode cX10_title_ 6 = .ok (.iload_n 1, 1) := by decide +kernel
theorem dX10_title__7 : decode cX10_title_ 7 = .ok (.invokevirtual 259, 3) := by decide +kernel
theorem dX10_title__10 : decode cX10_title_ 10 = .ok (.ifCond .ne 9, 3) := by decide +kernel
theorem dX10_title__13 : decode cX10_title_ 13 = .ok (.aload_n 0, 1) := by decide +kernel
theorem dX10_title__14 : decode cX10_title_ 14 = .ok (.iconst 1, 1) := by decide +kernel
theorem dX10_title__15 : decode cX10_title_ 15 = .ok (.invokevirtual 285, 3) := by decide +kernel
theorem dX10_title__18 : decode cX10_title_ 18 = .ok (.ireturn, 1) := by decide +kernel
theorem dX10_title__19 : decode cX10_title_ 19 = .ok (.iload_n 2, 1) := by decide +kernel
theorem dX10_title__20 : decode cX10_title_ 20 = .ok (.tableswitch 132 0 4 #[36, 48, 54, 70, 76], 36) := by decide +kernel
theorem dX10_title__56 : decode cX10_title_ 56 = .ok (.aload_n 0, 1) := by decide +kernel
theorem dX10_title__57 : decode cX10_title_ 57 = .ok (.getfield 26, 3) := by decide +kernel
theorem dX10_title__60 : decode cX10_title_ 60 = .ok (.aload_n 0, 1) := by decide +kernel
theorem dX10_title__61 : decode cX10_title_ 61 = .ok (.getfield 32, 3) := by decide +kernel
theorem dX10_title__64 : decode cX10_title_ 64 = .ok (.iload_n 1, 1) := by decide +kernel
theorem dX10_title__65 : decode cX10_title_ 65 = .ok (.iaload, 1) := by decide +kernel
theorem dX10_title__66 : decode cX10_title_ 66 = .ok (.iaload, 1) := by decide +kernel
theorem dX10_title__67 : decode cX10_title_ 67 = .ok (.ireturn, 1) := by decide +kernel
theorem dX10_title__68 : decode cX10_title_ 68 = .ok (.aload_n 0, 1) := by decide +kernel
theorem dX10_title__69 : decode cX10_title_ 69 = .ok (.iload_n 1, 1) := by decide +kernel
theorem dX10_title__70 : decode cX10_title_ 70 = .ok (.invokevirtual 272, 3) := by decide +kernel
theorem dX10_title__73 : decode cX10_title_ 73 = .ok (.ireturn, 1) := by decide +kernel
theorem dX10_title__74 : decode cX10_title_ 74 = .ok (.aload_n 0, 1) := by decide +kernel
theorem dX10_title__75 : decode cX10_title_ 75 = .ok (.iload_n 1, 1) := by decide +kernel
theorem dX10_title__76 : decode cX10_title_ 76 = .ok (.aload_n 0, 1) := by decide +kernel
theorem dX10_title__77 : decode cX10_title_ 77 = .ok (.aload_n 0, 1) := by decide +kernel
theorem dX10_title__78 : decode cX10_title_ 78 = .ok (.getfield 32, 3) := by decide +kernel
theorem dX10_title__81 : decode cX10_title_ 81 = .ok (.iload_n 1, 1) := by decide +kernel
theorem dX10_title__82 : decode cX10_title_ 82 = .ok (.iaload, 1) := by decide +kernel
theorem dX10_title__83 : decode cX10_title_ 83 = .ok (.invokevirtual 276, 3) := by decide +kernel
theorem dX10_title__86 : decode cX10_title_ 86 = .ok (.invokevirtual 279, 3) := by decide +kernel
theorem dX10_title__89 : decode cX10_title_ 89 = .ok (.ireturn, 1) := by decide +kernel
theorem dX10_title__90 : decode cX10_title_ 90 = .ok (.aload_n 0, 1) := by decide +kernel
theorem dX10_title__91 : decode cX10_title_ 91 = .ok (.iload_n 1, 1) := by decide +kernel
theorem dX10_title__92 : decode cX10_title_ 92 = .ok (.invokevirtual 288, 3) := by decide +kernel
theorem dX10_title__95 : decode cX10_title_ 95 = .ok (.ireturn, 1) := by decide +kernel
theorem dX10_title__96 : decode cX10_title_ 96 = .ok (.aload_n 0, 1) := by decide +kernel
theorem dX10_title__97 : decode cX10_title_ 97 = .ok (.getfield 55, 3) := by decide +kernel
theorem dX10_title__100 : decode cX10_title_ 100 = .ok (.iconst 4, 1) := by decide +kernel
theorem dX10_title__101 : decode cX10_title_ 101 = .ok (.iload_n 1, 1) := by decide +kernel
theorem dX10_title__102 : decode cX10_title_ 102 = .ok (.imul, 1) := by decide +kernel
theorem dX10_title__103 : decode cX10_title_ 103 = .ok (.baload, 1) := by decide +kernel
theorem dX10_title__104 : decode cX10_title_ 104 = .ok (.ifCond .ne 42, 3) := by decide +kernel
theorem dX10_title__107 : decode cX10_title_ 107 = .ok (.aload_n 0, 1) := by decide +kernel
theorem dX10_title__108 : decode cX10_title_ 108 = .ok (.getfield 55, 3) := by decide +kernel
theorem dX10_title__111 : decode cX10_title_ 111 = .ok (.iconst 4, 1) := by decide +kernel
theorem dX10_title__112 : decode cX10_title_ 112 = .ok (.iload_n 1, 1) := by decide +kernel
theorem dX10_title__113 : decode cX10_title_ 113 = .ok (.imul, 1) := by decide +kernel
theorem dX10_title__114 : decode cX10_title_ 114 = .ok (.iconst 1, 1) := by decide +kernel
theorem dX10_title__115 : decode cX10_title_ 115 = .ok (.iadd, 1) := by decide +kernel
theorem dX10_title__116 : decode cX10_title_ 116 = .ok (.baload, 1) := by decide +kernel
theorem dX10_title__117 : decode cX10_title_ 117 = .ok (.ifCond .ne 29, 3) := by decide +kernel
theorem dX10_title__120 : decode cX10_title_ 120 = .ok (.aload_n 0, 1) := by decide +kernel
theorem dX10_title__121 : decode cX10_title_ 121 = .ok (.getfield 55, 3) := by decide +kernel
theorem dX10_title__124 : decode cX10_title_ 124 = .ok (.iconst 4, 1) := by decide +kernel
theorem dX10_title__125 : decode cX10_title_ 125 = .ok (.iload_n 1, 1) := by decide +kernel
theorem dX10_title__126 : decode cX10_title_ 126 = .ok (.imul, 1) := by decide +kernel
theorem dX10_title__127 : decode cX10_title_ 127 = .ok (.iconst 2, 1) := by decide +kernel
theorem dX10_title__128 : decode cX10_title_ 128 = .ok (.iadd, 1) := by decide +kernel
theorem dX10_title__129 : decode cX10_title_ 129 = .ok (.baload, 1) := by decide +kernel
theorem dX10_title__130 : decode cX10_title_ 130 = .ok (.ifCond .ne 16, 3) := by decide +kernel
theorem dX10_title__133 : decode cX10_title_ 133 = .ok (.aload_n 0, 1) := by decide +kernel
theorem dX10_title__134 : decode cX10_title_ 134 = .ok (.getfield 55, 3) := by decide +kernel
theorem dX10_title__137 : decode cX10_title_ 137 = .ok (.iconst 4, 1) := by decide +kernel
theorem dX10_title__138 : decode cX10_title_ 138 = .ok (.iload_n 1, 1) := by decide +kernel
theorem dX10_title__139 : decode cX10_title_ 139 = .ok (.imul, 1) := by decide +kernel
theorem dX10_title__140 : decode cX10_title_ 140 = .ok (.iconst 3, 1) := by decide +kernel
theorem dX10_title__141 : decode cX10_title_ 141 = .ok (.iadd, 1) := by decide +kernel
theorem dX10_title__142 : decode cX10_title_ 142 = .ok (.baload, 1) := by decide +kernel
theorem dX10_title__143 : decode cX10_title_ 143 = .ok (.ifCond .eq 7, 3) := by decide +kernel
theorem dX10_title__146 : decode cX10_title_ 146 = .ok (.iconst 1, 1) := by decide +kernel
theorem dX10_title__147 : decode cX10_title_ 147 = .ok (.goto 4, 3) := by decide +kernel
theorem dX10_title__150 : decode cX10_title_ 150 = .ok (.iconst 0, 1) := by decide +kernel
theorem dX10_title__151 : decode cX10_title_ 151 = .ok (.ireturn, 1) := by decide +kernel
theorem dX10_title__152 : decode cX10_title_ 152 = .ok (.aload_n 0, 1) := by decide +kernel
theorem dX10_title__153 : decode cX10_title_ 153 = .ok (.iconst 2, 1) := by decide +kernel
theorem dX10_title__154 : decode cX10_title_ 154 = .ok (.invokevirtual 285, 3) := by decide +kernel
theorem dX10_title__157 : decode cX10_title_ 157 = .ok (.ireturn, 1) := by decide +kernel
theorem dX10_pages_0 : decode cX10_pages 0 = .ok (.aload_n 0, 1) := by decide +kernel
theorem dX10_pages_1 : decode cX10_pages 1 = .ok (.iconst 0, 1) := by decide +kernel
theorem dX10_pages_2 : decode cX10_pages 2 = .ok (.putfield 113, 3) := by decide +kernel
theorem dX10_pages_5 : decode cX10_pages 5 = .ok (.aload_n 0, 1) := by decide +kernel
theorem dX10_pages_6 : decode cX10_pages 6 = .ok (.iload_n 1, 1) := by decide +kernel
theorem dX10_pages_7 : decode cX10_pages 7 = .ok (.invokevirtual 259, 3) := by decide +kernel
theorem dX10_pages_10 : decode cX10_pages 10 = .ok (.ifCond .ne 9, 3) := by decide +kernel
theorem dX10_pages_13 : decode cX10_pages 13 = .ok (.aload_n 0, 1) := by decide +kernel
theorem dX10_pages_14 : decode cX10_pages 14 = .ok (.iconst 1, 1) := by decide +kernel
theorem dX10_pages_15 : decode cX10_pages 15 = .ok (.invokevirtual 285, 3) := by decide +kernel
theorem dX10_pages_18 : decode cX10_pages 18 = .ok (.ireturn, 1) := by decide +kernel
