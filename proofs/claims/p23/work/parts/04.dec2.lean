theorem dX8_go_222 : decode cX8_go 222 = .ok (.invokestatic 30, 3) := by decide +kernel
theorem dX8_go_225 : decode cX8_go 225 = .ok (.iload_n 2, 1) := by decide +kernel
theorem dX8_go_226 : decode cX8_go 226 = .ok (.if_icmp .ne 7, 3) := by decide +kernel
theorem dX8_go_229 : decode cX8_go 229 = .ok (.iconst 1, 1) := by decide +kernel
theorem dX8_go_230 : decode cX8_go 230 = .ok (.goto 4, 3) := by decide +kernel
theorem dX8_go_233 : decode cX8_go 233 = .ok (.iconst 0, 1) := by decide +kernel
theorem dX8_go_234 : decode cX8_go 234 = .ok (.istore_n 3, 1) := by decide +kernel
theorem dX8_go_235 : decode cX8_go 235 = .ok (.aload_n 0, 1) := by decide +kernel
theorem dX8_go_236 : decode cX8_go 236 = .ok (.getfield 21, 3) := by decide +kernel
theorem dX8_go_239 : decode cX8_go 239 = .ok (.aload_n 0, 1) := by decide +kernel
theorem dX8_go_240 : decode cX8_go 240 = .ok (.getfield 24, 3) := by decide +kernel
theorem dX8_go_243 : decode cX8_go 243 = .ok (.isub, 1) := by decide +kernel
theorem dX8_go_244 : decode cX8_go 244 = .ok (.bipush 12, 2) := by decide +kernel
theorem dX8_go_246 : decode cX8_go 246 = .ok (.if_icmp .ge 23, 3) := by decide +kernel
theorem dX8_go_249 : decode cX8_go 249 = .ok (.aload_n 0, 1) := by decide +kernel
theorem dX8_go_250 : decode cX8_go 250 = .ok (.ldc2_w 48, 3) := by decide +kernel
theorem dX8_go_253 : decode cX8_go 253 = .ok (.aload_n 0, 1) := by decide +kernel
theorem dX8_go_254 : decode cX8_go 254 = .ok (.getfield 37, 3) := by decide +kernel
theorem dX8_go_257 : decode cX8_go 257 = .ok (.lmul, 1) := by decide +kernel
theorem dX8_go_258 : decode cX8_go 258 = .ok (.iload 4, 2) := by decide +kernel
theorem dX8_go_260 : decode cX8_go 260 = .ok (.i2l, 1) := by decide +kernel
theorem dX8_go_261 : decode cX8_go 261 = .ok (.ladd, 1) := by decide +kernel
theorem dX8_go_262 : decode cX8_go 262 = .ok (.ldc2_w 50, 3) := by decide +kernel
theorem dX8_go_265 : decode cX8_go 265 = .ok (.lsub, 1) := by decide +kernel
theorem dX8_go_266 : decode cX8_go 266 = .ok (.putfield 37, 3) := by decide +kernel
theorem dX8_go_269 : decode cX8_go 269 = .ok (.aload_n 0, 1) := by decide +kernel
theorem dX8_go_270 : decode cX8_go 270 = .ok (.getfield 21, 3) := by decide +kernel
theorem dX8_go_273 : decode cX8_go 273 = .ok (.aload_n 0, 1) := by decide +kernel
theorem dX8_go_274 : decode cX8_go 274 = .ok (.getfield 24, 3) := by decide +kernel
theorem dX8_go_277 : decode cX8_go 277 = .ok (.isub, 1) := by decide +kernel
theorem dX8_go_278 : decode cX8_go 278 = .ok (.iconst 4, 1) := by decide +kernel
theorem dX8_go_279 : decode cX8_go 279 = .ok (.if_icmp .ge 20, 3) := by decide +kernel
theorem dX8_go_282 : decode cX8_go 282 = .ok (.aload_n 0, 1) := by decide +kernel
theorem dX8_go_283 : decode cX8_go 283 = .ok (.bipush 10, 2) := by decide +kernel
theorem dX8_go_285 : decode cX8_go 285 = .ok (.aload_n 0, 1) := by decide +kernel
theorem dX8_go_286 : decode cX8_go 286 = .ok (.getfield 41, 3) := by decide +kernel
theorem dX8_go_289 : decode cX8_go 289 = .ok (.imul, 1) := by decide +kernel
theorem dX8_go_290 : decode cX8_go 290 = .ok (.iload 4, 2) := by decide +kernel
theorem dX8_go_292 : decode cX8_go 292 = .ok (.iadd, 1) := by decide +kernel
theorem dX8_go_293 : decode cX8_go 293 = .ok (.bipush 48, 2) := by decide +kernel
theorem dX8_go_295 : decode cX8_go 295 = .ok (.isub, 1) := by decide +kernel
theorem dX8_go_296 : decode cX8_go 296 = .ok (.putfield 41, 3) := by decide +kernel
theorem dX8_go_299 : decode cX8_go 299 = .ok (.aload_n 0, 1) := by decide +kernel
theorem dX8_go_300 : decode cX8_go 300 = .ok (.dup, 1) := by decide +kernel
theorem dX8_go_301 : decode cX8_go 301 = .ok (.getfield 21, 3) := by decide +kernel
theorem dX8_go_304 : decode cX8_go 304 = .ok (.iconst 1, 1) := by decide +kernel
theorem dX8_go_305 : decode cX8_go 305 = .ok (.iadd, 1) := by decide +kernel
theorem dX8_go_306 : decode cX8_go 306 = .ok (.putfield 21, 3) := by decide +kernel
theorem dX8_go_309 : decode cX8_go 309 = .ok (.goto (-132), 3) := by decide +kernel
theorem dX8_go_312 : decode cX8_go 312 = .ok (.aload_n 0, 1) := by decide +kernel
theorem dX8_go_313 : decode cX8_go 313 = .ok (.iload_n 3, 1) := by decide +kernel
theorem dX8_go_314 : decode cX8_go 314 = .ok (.ifCond .eq 20, 3) := by decide +kernel
theorem dX8_go_317 : decode cX8_go 317 = .ok (.iload_n 2, 1) := by decide +kernel
theorem dX8_go_318 : decode cX8_go 318 = .ok (.ifCond .ne 20, 3) := by decide +kernel
theorem dX8_go_321 : decode cX8_go 321 = .ok (.aload_n 0, 1) := by decide +kernel
theorem dX8_go_322 : decode cX8_go 322 = .ok (.getfield 21, 3) := by decide +kernel
theorem dX8_go_325 : decode cX8_go 325 = .ok (.aload_n 0, 1) := by decide +kernel
theorem dX8_go_326 : decode cX8_go 326 = .ok (.getfield 24, 3) := by decide +kernel
theorem dX8_go_329 : decode cX8_go 329 = .ok (.isub, 1) := by decide +kernel
theorem dX8_go_330 : decode cX8_go 330 = .ok (.iconst 4, 1) := by decide +kernel
theorem dX8_go_331 : decode cX8_go 331 = .ok (.if_icmp .le 7, 3) := by decide +kernel
theorem dX8_go_334 : decode cX8_go 334 = .ok (.iconst 1, 1) := by decide +kernel
theorem dX8_go_335 : decode cX8_go 335 = .ok (.goto 12, 3) := by decide +kernel
theorem dX8_go_338 : decode cX8_go 338 = .ok (.iload_n 2, 1) := by decide +kernel
theorem dX8_go_339 : decode cX8_go 339 = .ok (.ifCond .eq 7, 3) := by decide +kernel
theorem dX8_go_342 : decode cX8_go 342 = .ok (.iconst 2, 1) := by decide +kernel
theorem dX8_go_343 : decode cX8_go 343 = .ok (.goto 4, 3) := by decide +kernel
theorem dX8_go_346 : decode cX8_go 346 = .ok (.iconst 3, 1) := by decide +kernel
theorem dX8_go_347 : decode cX8_go 347 = .ok (.putfield 27, 3) := by decide +kernel
theorem dX8_go_350 : decode cX8_go 350 = .ok (.return_, 1) := by decide +kernel
theorem dX8_three_0 : decode cX8_three 0 = .ok (.ldc2_w 48, 3) := by decide +kernel
theorem dX8_three_3 : decode cX8_three 3 = .ok (.ldc2_w 48, 3) := by decide +kernel
theorem dX8_three_6 : decode cX8_three 6 = .ok (.iload_n 0, 1) := by decide +kernel
theorem dX8_three_7 : decode cX8_three 7 = .ok (.i2l, 1) := by decide +kernel
theorem dX8_three_8 : decode cX8_three 8 = .ok (.ldc2_w 50, 3) := by decide +kernel
theorem dX8_three_11 : decode cX8_three 11 = .ok (.lsub, 1) := by decide +kernel
theorem dX8_three_12 : decode cX8_three 12 = .ok (.lmul, 1) := by decide +kernel
theorem dX8_three_13 : decode cX8_three 13 = .ok (.iload_n 1, 1) := by decide +kernel
theorem dX8_three_14 : decode cX8_three 14 = .ok (.i2l, 1) := by decide +kernel
theorem dX8_three_15 : decode cX8_three 15 = .ok (.ladd, 1) := by decide +kernel
theorem dX8_three_16 : decode cX8_three 16 = .ok (.ldc2_w 50, 3) := by decide +kernel
theorem dX8_three_19 : decode cX8_three 19 = .ok (.lsub, 1) := by decide +kernel
theorem dX8_three_20 : decode cX8_three 20 = .ok (.lmul, 1) := by decide +kernel
theorem dX8_three_21 : decode cX8_three 21 = .ok (.iload_n 2, 1) := by decide +kernel
theorem dX8_three_22 : decode cX8_three 22 = .ok (.i2l, 1) := by decide +kernel
theorem dX8_three_23 : decode cX8_three 23 = .ok (.ladd, 1) := by decide +kernel
theorem dX8_three_24 : decode cX8_three 24 = .ok (.ldc2_w 50, 3) := by decide +kernel
theorem dX8_three_27 : decode cX8_three 27 = .ok (.lsub, 1) := by decide +kernel
theorem dX8_three_28 : decode cX8_three 28 = .ok (.lreturn, 1) := by decide +kernel
theorem dX8_six_0 : decode cX8_six 0 = .ok (.ldc2_w 52, 3) := by decide +kernel
theorem dX8_six_3 : decode cX8_six 3 = .ok (.iload_n 0, 1) := by decide +kernel
theorem dX8_six_4 : decode cX8_six 4 = .ok (.iload_n 1, 1) := by decide +kernel
theorem dX8_six_5 : decode cX8_six 5 = .ok (.iload_n 2, 1) := by decide +kernel
theorem dX8_six_6 : decode cX8_six 6 = .ok (.invokestatic 54, 3) := by decide +kernel
theorem dX8_six_9 : decode cX8_six 9 = .ok (.lmul, 1) := by decide +kernel
theorem dX8_six_10 : decode cX8_six 10 = .ok (.iload_n 3, 1) := by decide +kernel
theorem dX8_six_11 : decode cX8_six 11 = .ok (.iload 4, 2) := by decide +kernel
theorem dX8_six_13 : decode cX8_six 13 = .ok (.iload 5, 2) := by decide +kernel
theorem dX8_six_15 : decode cX8_six 15 = .ok (.invokestatic 54, 3) := by decide +kernel
theorem dX8_six_18 : decode cX8_six 18 = .ok (.ladd, 1) := by decide +kernel
theorem dX8_six_19 : decode cX8_six 19 = .ok (.lreturn, 1) := by decide +kernel
theorem dX8_four_0 : decode cX8_four 0 = .ok (.ldc2_w 48, 3) := by decide +kernel
theorem dX8_four_3 : decode cX8_four 3 = .ok (.iload_n 0, 1) := by decide +kernel
theorem dX8_four_4 : decode cX8_four 4 = .ok (.iload_n 1, 1) := by decide +kernel
theorem dX8_four_5 : decode cX8_four 5 = .ok (.iload_n 2, 1) := by decide +kernel
theorem dX8_four_6 : decode cX8_four 6 = .ok (.invokestatic 54, 3) := by decide +kernel
theorem dX8_four_9 : decode cX8_four 9 = .ok (.lmul, 1) := by decide +kernel
theorem dX8_four_10 : decode cX8_four 10 = .ok (.iload_n 3, 1) := by decide +kernel
theorem dX8_four_11 : decode cX8_four 11 = .ok (.i2l, 1) := by decide +kernel
theorem dX8_four_12 : decode cX8_four 12 = .ok (.ladd, 1) := by decide +kernel
theorem dX8_four_13 : decode cX8_four 13 = .ok (.ldc2_w 50, 3) := by decide +kernel
theorem dX8_four_16 : decode cX8_four 16 = .ok (.lsub, 1) := by decide +kernel
theorem dX8_four_17 : decode cX8_four 17 = .ok (.lreturn, 1) := by decide +kernel
theorem dX8_isWord_0 : decode cX8_isWord 0 = .ok (.aload_n 0, 1) := by decide +kernel
theorem dX8_isWord_1 : decode cX8_isWord 1 = .ok (.getfield 27, 3) := by decide +kernel
theorem dX8_isWord_4 : decode cX8_isWord 4 = .ok (.iconst 2, 1) := by decide +kernel
theorem dX8_isWord_5 : decode cX8_isWord 5 = .ok (.if_icmp .ne 16, 3) := by decide +kernel
theorem dX8_isWord_8 : decode cX8_isWord 8 = .ok (.aload_n 0, 1) := by decide +kernel
theorem dX8_isWord_9 : decode cX8_isWord 9 = .ok (.getfield 37, 3) := by decide +kernel
theorem dX8_isWord_12 : decode cX8_isWord 12 = .ok (.lload_n 1, 1) := by decide +kernel
theorem dX8_isWord_13 : decode cX8_isWord 13 = .ok (.lcmp, 1) := by decide +kernel
theorem dX8_isWord_14 : decode cX8_isWord 14 = .ok (.ifCond .ne 7, 3) := by decide +kernel
theorem dX8_isWord_17 : decode cX8_isWord 17 = .ok (.iconst 1, 1) := by decide +kernel
theorem dX8_isWord_18 : decode cX8_isWord 18 = .ok (.goto 4, 3) := by decide +kernel
theorem dX8_isWord_21 : decode cX8_isWord 21 = .ok (.iconst 0, 1) := by decide +kernel
theorem dX8_isWord_22 : decode cX8_isWord 22 = .ok (.ireturn, 1) := by decide +kernel
theorem dX8_bad_0 : decode cX8_bad 0 = .ok (.aload_n 0, 1) := by decide +kernel
theorem dX8_bad_1 : decode cX8_bad 1 = .ok (.aload_n 0, 1) := by decide +kernel
theorem dX8_bad_2 : decode cX8_bad 2 = .ok (.getfield 27, 3) := by decide +kernel
theorem dX8_bad_5 : decode cX8_bad 5 = .ok (.iconst 1, 1) := by decide +kernel
theorem dX8_bad_6 : decode cX8_bad 6 = .ok (.if_icmp .ne 7, 3) := by decide +kernel
theorem dX8_bad_9 : decode cX8_bad 9 = .ok (.iconst 1, 1) := by decide +kernel
theorem dX8_bad_10 : decode cX8_bad 10 = .ok (.goto 4, 3) := by decide +kernel
theorem dX8_bad_13 : decode cX8_bad 13 = .ok (.iload_n 1, 1) := by decide +kernel
theorem dX8_bad_14 : decode cX8_bad 14 = .ok (.putfield 58, 3) := by decide +kernel
theorem dX8_bad_17 : decode cX8_bad 17 = .ok (.aload_n 0, 1) := by decide +kernel
theorem dX8_bad_18 : decode cX8_bad 18 = .ok (.aload_n 0, 1) := by decide +kernel
theorem dX8_bad_19 : decode cX8_bad 19 = .ok (.getfield 24, 3) := by decide +kernel
theorem dX8_bad_22 : decode cX8_bad 22 = .ok (.putfield 61, 3) := by decide +kernel
theorem dX8_bad_25 : decode cX8_bad 25 = .ok (.iconst 0, 1) := by decide +kernel
theorem dX8_bad_26 : decode cX8_bad 26 = .ok (.ireturn, 1) := by decide +kernel
theorem dX8_init_0 : decode cX8_init 0 = .ok (.aload_n 0, 1) := by decide +kernel
theorem dX8_init_1 : decode cX8_init 1 = .ok (.invokespecial 64, 3) := by decide +kernel
theorem dX8_init_4 : decode cX8_init 4 = .ok (.aload_n 0, 1) := by decide +kernel
theorem dX8_init_5 : decode cX8_init 5 = .ok (.sipush 740, 3) := by decide +kernel
theorem dX8_init_8 : decode cX8_init 8 = .ok (.newarray .int, 2) := by decide +kernel
theorem dX8_init_10 : decode cX8_init 10 = .ok (.putfield 7, 3) := by decide +kernel
theorem dX8_init_13 : decode cX8_init 13 = .ok (.aload_n 0, 1) := by decide +kernel
theorem dX8_init_14 : decode cX8_init 14 = .ok (.sipush 157, 3) := by decide +kernel
theorem dX8_init_17 : decode cX8_init 17 = .ok (.newarray .int, 2) := by decide +kernel
theorem dX8_init_19 : decode cX8_init 19 = .ok (.putfield 70, 3) := by decide +kernel
theorem dX8_init_22 : decode cX8_init 22 = .ok (.aload_n 0, 1) := by decide +kernel
theorem dX8_init_23 : decode cX8_init 23 = .ok (.sipush 157, 3) := by decide +kernel
theorem dX8_init_26 : decode cX8_init 26 = .ok (.newarray .int, 2) := by decide +kernel
theorem dX8_init_28 : decode cX8_init 28 = .ok (.putfield 73, 3) := by decide +kernel
theorem dX8_init_31 : decode cX8_init 31 = .ok (.aload_n 0, 1) := by decide +kernel
theorem dX8_init_32 : decode cX8_init 32 = .ok (.sipush 1570, 3) := by decide +kernel
theorem dX8_init_35 : decode cX8_init 35 = .ok (.newarray .int, 2) := by decide +kernel
theorem dX8_init_37 : decode cX8_init 37 = .ok (.putfield 76, 3) := by decide +kernel
theorem dX8_init_40 : decode cX8_init 40 = .ok (.aload_n 0, 1) := by decide +kernel
theorem dX8_init_41 : decode cX8_init 41 = .ok (.iconst 5, 1) := by decide +kernel
theorem dX8_init_42 : decode cX8_init 42 = .ok (.newarray .int, 2) := by decide +kernel
theorem dX8_init_44 : decode cX8_init 44 = .ok (.putfield 79, 3) := by decide +kernel
theorem dX8_init_47 : decode cX8_init 47 = .ok (.aload_n 0, 1) := by decide +kernel
theorem dX8_init_48 : decode cX8_init 48 = .ok (.iconst 5, 1) := by decide +kernel
theorem dX8_init_49 : decode cX8_init 49 = .ok (.newarray .int, 2) := by decide +kernel
theorem dX8_init_51 : decode cX8_init 51 = .ok (.putfield 82, 3) := by decide +kernel
theorem dX8_init_54 : decode cX8_init 54 = .ok (.aload_n 0, 1) := by decide +kernel
theorem dX8_init_55 : decode cX8_init 55 = .ok (.iconst 5, 1) := by decide +kernel
theorem dX8_init_56 : decode cX8_init 56 = .ok (.newarray .int, 2) := by decide +kernel
theorem dX8_init_58 : decode cX8_init 58 = .ok (.putfield 85, 3) := by decide +kernel
theorem dX8_init_61 : decode cX8_init 61 = .ok (.aload_n 0, 1) := by decide +kernel
theorem dX8_init_62 : decode cX8_init 62 = .ok (.iconst 5, 1) := by decide +kernel
theorem dX8_init_63 : decode cX8_init 63 = .ok (.newarray .int, 2) := by decide +kernel
theorem dX8_init_65 : decode cX8_init 65 = .ok (.putfield 88, 3) := by decide +kernel
theorem dX8_init_68 : decode cX8_init 68 = .ok (.aload_n 0, 1) := by decide +kernel
theorem dX8_init_69 : decode cX8_init 69 = .ok (.iconst 5, 1) := by decide +kernel
theorem dX8_init_70 : decode cX8_init 70 = .ok (.newarray .int, 2) := by decide +kernel
theorem dX8_init_72 : decode cX8_init 72 = .ok (.putfield 91, 3) := by decide +kernel
theorem dX8_init_75 : decode cX8_init 75 = .ok (.aload_n 0, 1) := by decide +kernel
theorem dX8_init_76 : decode cX8_init 76 = .ok (.iconst 5, 1) := by decide +kernel
theorem dX8_init_77 : decode cX8_init 77 = .ok (.newarray .int, 2) := by decide +kernel
theorem dX8_init_79 : decode cX8_init 79 = .ok (.putfield 94, 3) := by decide +kernel
theorem dX8_init_82 : decode cX8_init 82 = .ok (.aload_n 0, 1) := by decide +kernel
theorem dX8_init_83 : decode cX8_init 83 = .ok (.iconst 5, 1) := by decide +kernel
theorem dX8_init_84 : decode cX8_init 84 = .ok (.newarray .int, 2) := by decide +kernel
theorem dX8_init_86 : decode cX8_init 86 = .ok (.putfield 97, 3) := by decide +kernel
theorem dX8_init_89 : decode cX8_init 89 = .ok (.aload_n 0, 1) := by decide +kernel
theorem dX8_init_90 : decode cX8_init 90 = .ok (.iconst 5, 1) := by decide +kernel
theorem dX8_init_91 : decode cX8_init 91 = .ok (.newarray .int, 2) := by decide +kernel
theorem dX8_init_93 : decode cX8_init 93 = .ok (.putfield 100, 3) := by decide +kernel
theorem dX8_init_96 : decode cX8_init 96 = .ok (.aload_n 0, 1) := by decide +kernel
theorem dX8_init_97 : decode cX8_init 97 = .ok (.iconst 5, 1) := by decide +kernel
theorem dX8_init_98 : decode cX8_init 98 = .ok (.newarray .int, 2) := by decide +kernel
theorem dX8_init_100 : decode cX8_init 100 = .ok (.putfield 103, 3) := by decide +kernel
theorem dX8_init_103 : decode cX8_init 103 = .ok (.aload_n 0, 1) := by decide +kernel
theorem dX8_init_104 : decode cX8_init 104 = .ok (.getfield 70, 3) := by decide +kernel
theorem dX8_init_107 : decode cX8_init 107 = .ok (.iconst 0, 1) := by decide +kernel
theorem dX8_init_108 : decode cX8_init 108 = .ok (.iconst 1, 1) := by decide +kernel
theorem dX8_init_109 : decode cX8_init 109 = .ok (.iastore, 1) := by decide +kernel
theorem dX8_init_110 : decode cX8_init 110 = .ok (.return_, 1) := by decide +kernel
theorem dX8_told_0 : decode cX8_told 0 = .ok (.aload_n 0, 1) := by decide +kernel
theorem dX8_told_1 : decode cX8_told 1 = .ok (.getfield 27, 3) := by decide +kernel
theorem dX8_told_4 : decode cX8_told 4 = .ok (.iconst 3, 1) := by decide +kernel
theorem dX8_told_5 : decode cX8_told 5 = .ok (.if_icmp .eq 9, 3) := by decide +kernel
theorem dX8_told_8 : decode cX8_told 8 = .ok (.aload_n 0, 1) := by decide +kernel
theorem dX8_told_9 : decode cX8_told 9 = .ok (.iconst 1, 1) := by decide +kernel
theorem dX8_told_10 : decode cX8_told 10 = .ok (.invokevirtual 106, 3) := by decide +kernel
theorem dX8_told_13 : decode cX8_told 13 = .ok (.ireturn, 1) := by decide +kernel
theorem dX8_told_14 : decode cX8_told 14 = .ok (.aload_n 0, 1) := by decide +kernel
theorem dX8_told_15 : decode cX8_told 15 = .ok (.getfield 41, 3) := by decide +kernel
theorem dX8_told_18 : decode cX8_told 18 = .ok (.iload_n 2, 1) := by decide +kernel
theorem dX8_told_19 : decode cX8_told 19 = .ok (.iload_n 3, 1) := by decide +kernel
theorem dX8_told_20 : decode cX8_told 20 = .ok (.invokestatic 109, 3) := by decide +kernel
theorem dX8_told_23 : decode cX8_told 23 = .ok (.ifCond .ne 9, 3) := by decide +kernel
theorem dX8_told_26 : decode cX8_told 26 = .ok (.aload_n 0, 1) := by decide +kernel
theorem dX8_told_27 : decode cX8_told 27 = .ok (.iconst 2, 1) := by decide +kernel
theorem dX8_told_28 : decode cX8_told 28 = .ok (.invokevirtual 106, 3) := by decide +kernel
theorem dX8_told_31 : decode cX8_told 31 = .ok (.ireturn, 1) := by decide +kernel
theorem dX8_told_32 : decode cX8_told 32 = .ok (.aload_n 0, 1) := by decide +kernel
theorem dX8_told_33 : decode cX8_told 33 = .ok (.getfield 73, 3) := by decide +kernel
theorem dX8_told_36 : decode cX8_told 36 = .ok (.iload_n 1, 1) := by decide +kernel
theorem dX8_told_37 : decode cX8_told 37 = .ok (.aload_n 0, 1) := by decide +kernel
theorem dX8_told_38 : decode cX8_told 38 = .ok (.getfield 41, 3) := by decide +kernel
theorem dX8_told_41 : decode cX8_told 41 = .ok (.iastore, 1) := by decide +kernel
theorem dX8_told_42 : decode cX8_told 42 = .ok (.aload_n 0, 1) := by decide +kernel
theorem dX8_told_43 : decode cX8_told 43 = .ok (.invokevirtual 113, 3) := by decide +kernel
theorem dX8_told_46 : decode cX8_told 46 = .ok (.iconst 1, 1) := by decide +kernel
theorem dX8_told_47 : decode cX8_told 47 = .ok (.ireturn, 1) := by decide +kernel
theorem dX8_oneOf_0 : decode cX8_oneOf 0 = .ok (.aload_n 0, 1) := by decide +kernel
theorem dX8_oneOf_1 : decode cX8_oneOf 1 = .ok (.getfield 27, 3) := by decide +kernel
theorem dX8_oneOf_4 : decode cX8_oneOf 4 = .ok (.iconst 3, 1) := by decide +kernel
theorem dX8_oneOf_5 : decode cX8_oneOf 5 = .ok (.if_icmp .eq 9, 3) := by decide +kernel
theorem dX8_oneOf_8 : decode cX8_oneOf 8 = .ok (.aload_n 0, 1) := by decide +kernel
theorem dX8_oneOf_9 : decode cX8_oneOf 9 = .ok (.iconst 1, 1) := by decide +kernel
theorem dX8_oneOf_10 : decode cX8_oneOf 10 = .ok (.invokevirtual 106, 3) := by decide +kernel
theorem dX8_oneOf_13 : decode cX8_oneOf 13 = .ok (.ireturn, 1) := by decide +kernel
theorem dX8_oneOf_14 : decode cX8_oneOf 14 = .ok (.aload_n 0, 1) := by decide +kernel
theorem dX8_oneOf_15 : decode cX8_oneOf 15 = .ok (.getfield 41, 3) := by decide +kernel
theorem dX8_oneOf_18 : decode cX8_oneOf 18 = .ok (.iload_n 1, 1) := by decide +kernel
theorem dX8_oneOf_19 : decode cX8_oneOf 19 = .ok (.if_icmp .lt 9, 3) := by decide +kernel
theorem dX8_oneOf_22 : decode cX8_oneOf 22 = .ok (.aload_n 0, 1) := by decide +kernel
theorem dX8_oneOf_23 : decode cX8_oneOf 23 = .ok (.iconst 2, 1) := by decide +kernel
theorem dX8_oneOf_24 : decode cX8_oneOf 24 = .ok (.invokevirtual 106, 3) := by decide +kernel
theorem dX8_oneOf_27 : decode cX8_oneOf 27 = .ok (.ireturn, 1) := by decide +kernel
theorem dX8_oneOf_28 : decode cX8_oneOf 28 = .ok (.aload_n 0, 1) := by decide +kernel
theorem dX8_oneOf_29 : decode cX8_oneOf 29 = .ok (.aload_n 0, 1) := by decide +kernel
theorem dX8_oneOf_30 : decode cX8_oneOf 30 = .ok (.getfield 41, 3) := by decide +kernel
theorem dX8_oneOf_33 : decode cX8_oneOf 33 = .ok (.putfield 116, 3) := by decide +kernel
theorem dX8_oneOf_36 : decode cX8_oneOf 36 = .ok (.aload_n 0, 1) := by decide +kernel
theorem dX8_oneOf_37 : decode cX8_oneOf 37 = .ok (.invokevirtual 113, 3) := by decide +kernel
theorem dX8_oneOf_40 : decode cX8_oneOf 40 = .ok (.iconst 1, 1) := by decide +kernel
theorem dX8_oneOf_41 : decode cX8_oneOf 41 = .ok (.ireturn, 1) := by decide +kernel
theorem dX8_readTanker_0 : decode cX8_readTanker 0 = .ok (.aload_n 0, 1) := by decide +kernel
theorem dX8_readTanker_1 : decode cX8_readTanker 1 = .ok (.bipush 116, 2) := by decide +kernel
theorem dX8_readTanker_3 : decode cX8_readTanker 3 = .ok (.bipush 97, 2) := by decide +kernel
theorem dX8_readTanker_5 : decode cX8_readTanker 5 = .ok (.bipush 110, 2) := by decide +kernel
theorem dX8_readTanker_7 : decode cX8_readTanker 7 = .ok (.bipush 107, 2) := by decide +kernel
theorem dX8_readTanker_9 : decode cX8_readTanker 9 = .ok (.bipush 101, 2) := by decide +kernel
theorem dX8_readTanker_11 : decode cX8_readTanker 11 = .ok (.bipush 114, 2) := by decide +kernel
theorem dX8_readTanker_13 : decode cX8_readTanker 13 = .ok (.invokestatic 119, 3) := by decide +kernel
theorem dX8_readTanker_16 : decode cX8_readTanker 16 = .ok (.invokevirtual 123, 3) := by decide +kernel
theorem dX8_readTanker_19 : decode cX8_readTanker 19 = .ok (.ifCond .ne 9, 3) := by decide +kernel
theorem dX8_readTanker_22 : decode cX8_readTanker 22 = .ok (.aload_n 0, 1) := by decide +kernel
theorem dX8_readTanker_23 : decode cX8_readTanker 23 = .ok (.iconst 1, 1) := by decide +kernel
theorem dX8_readTanker_24 : decode cX8_readTanker 24 = .ok (.invokevirtual 106, 3) := by decide +kernel
theorem dX8_readTanker_27 : decode cX8_readTanker 27 = .ok (.ireturn, 1) := by decide +kernel
theorem dX8_readTanker_28 : decode cX8_readTanker 28 = .ok (.aload_n 0, 1) := by decide +kernel
theorem dX8_readTanker_29 : decode cX8_readTanker 29 = .ok (.invokevirtual 113, 3) := by decide +kernel
theorem dX8_readTanker_32 : decode cX8_readTanker 32 = .ok (.aload_n 0, 1) := by decide +kernel
theorem dX8_readTanker_33 : decode cX8_readTanker 33 = .ok (.iconst 0, 1) := by decide +kernel
theorem dX8_readTanker_34 : decode cX8_readTanker 34 = .ok (.iconst 1, 1) := by decide +kernel
theorem dX8_readTanker_35 : decode cX8_readTanker 35 = .ok (.bipush 99, 2) := by decide +kernel
theorem dX8_readTanker_37 : decode cX8_readTanker 37 = .ok (.invokevirtual 127, 3) := by decide +kernel
theorem dX8_readTanker_40 : decode cX8_readTanker 40 = .ok (.ifCond .ne 5, 3) := by decide +kernel
theorem dX8_readTanker_43 : decode cX8_readTanker 43 = .ok (.iconst 0, 1) := by decide +kernel
theorem dX8_readTanker_44 : decode cX8_readTanker 44 = .ok (.ireturn, 1) := by decide +kernel
theorem dX8_readTanker_45 : decode cX8_readTanker 45 = .ok (.iconst 1, 1) := by decide +kernel
theorem dX8_readTanker_46 : decode cX8_readTanker 46 = .ok (.istore_n 1, 1) := by decide +kernel
theorem dX8_readTanker_47 : decode cX8_readTanker 47 = .ok (.iload_n 1, 1) := by decide +kernel
theorem dX8_readTanker_48 : decode cX8_readTanker 48 = .ok (.iconst 5, 1) := by decide +kernel
theorem dX8_readTanker_49 : decode cX8_readTanker 49 = .ok (.if_icmp .gt 23, 3) := by decide +kernel
theorem dX8_readTanker_52 : decode cX8_readTanker 52 = .ok (.aload_n 0, 1) := by decide +kernel
theorem dX8_readTanker_53 : decode cX8_readTanker 53 = .ok (.iload_n 1, 1) := by decide +kernel
theorem dX8_readTanker_54 : decode cX8_readTanker 54 = .ok (.iconst 0, 1) := by decide +kernel
theorem dX8_readTanker_55 : decode cX8_readTanker 55 = .ok (.sipush 9999, 3) := by decide +kernel
theorem dX8_readTanker_58 : decode cX8_readTanker 58 = .ok (.invokevirtual 127, 3) := by decide +kernel
theorem dX8_readTanker_61 : decode cX8_readTanker 61 = .ok (.ifCond .ne 5, 3) := by decide +kernel
theorem dX8_readTanker_64 : decode cX8_readTanker 64 = .ok (.iconst 0, 1) := by decide +kernel
theorem dX8_readTanker_65 : decode cX8_readTanker 65 = .ok (.ireturn, 1) := by decide +kernel
theorem dX8_readTanker_66 : decode cX8_readTanker 66 = .ok (.iinc 1 1, 3) := by decide +kernel
theorem dX8_readTanker_69 : decode cX8_readTanker 69 = .ok (.goto (-22), 3) := by decide +kernel
theorem dX8_readTanker_72 : decode cX8_readTanker 72 = .ok (.aload_n 0, 1) := by decide +kernel
theorem dX8_readTanker_73 : decode cX8_readTanker 73 = .ok (.bipush 6, 2) := by decide +kernel
theorem dX8_readTanker_75 : decode cX8_readTanker 75 = .ok (.iconst 1, 1) := by decide +kernel
theorem dX8_readTanker_76 : decode cX8_readTanker 76 = .ok (.bipush 100, 2) := by decide +kernel
theorem dX8_readTanker_78 : decode cX8_readTanker 78 = .ok (.invokevirtual 127, 3) := by decide +kernel
theorem dX8_readTanker_81 : decode cX8_readTanker 81 = .ok (.ifCond .eq 37, 3) := by decide +kernel
theorem dX8_readTanker_84 : decode cX8_readTanker 84 = .ok (.aload_n 0, 1) := by decide +kernel
theorem dX8_readTanker_85 : decode cX8_readTanker 85 = .ok (.bipush 7, 2) := by decide +kernel
theorem dX8_readTanker_87 : decode cX8_readTanker 87 = .ok (.iconst 0, 1) := by decide +kernel
theorem dX8_readTanker_88 : decode cX8_readTanker 88 = .ok (.bipush 100, 2) := by decide +kernel
theorem dX8_readTanker_90 : decode cX8_readTanker 90 = .ok (.invokevirtual 127, 3) := by decide +kernel
theorem dX8_readTanker_93 : decode cX8_readTanker 93 = .ok (.ifCond .eq 25, 3) := by decide +kernel
theorem dX8_readTanker_96 : decode cX8_readTanker 96 = .ok (.aload_n 0, 1) := by decide +kernel
theorem dX8_readTanker_97 : decode cX8_readTanker 97 = .ok (.bipush 8, 2) := by decide +kernel
theorem dX8_readTanker_99 : decode cX8_readTanker 99 = .ok (.aload_n 0, 1) := by decide +kernel
theorem dX8_readTanker_100 : decode cX8_readTanker 100 = .ok (.getfield 73, 3) := by decide +kernel
theorem dX8_readTanker_103 : decode cX8_readTanker 103 = .ok (.bipush 7, 2) := by decide +kernel
theorem dX8_readTanker_105 : decode cX8_readTanker 105 = .ok (.iaload, 1) := by decide +kernel
theorem dX8_readTanker_106 : decode cX8_readTanker 106 = .ok (.bipush 100, 2) := by decide +kernel
theorem dX8_readTanker_108 : decode cX8_readTanker 108 = .ok (.invokevirtual 127, 3) := by decide +kernel
theorem dX8_readTanker_111 : decode cX8_readTanker 111 = .ok (.ifCond .eq 7, 3) := by decide +kernel
theorem dX8_readTanker_114 : decode cX8_readTanker 114 = .ok (.iconst 1, 1) := by decide +kernel
theorem dX8_readTanker_115 : decode cX8_readTanker 115 = .ok (.goto 4, 3) := by decide +kernel
theorem dX8_readTanker_118 : decode cX8_readTanker 118 = .ok (.iconst 0, 1) := by decide +kernel
theorem dX8_readTanker_119 : decode cX8_readTanker 119 = .ok (.ireturn, 1) := by decide +kernel
theorem dX8_readHold_0 : decode cX8_readHold 0 = .ok (.aload_n 0, 1) := by decide +kernel
theorem dX8_readHold_1 : decode cX8_readHold 1 = .ok (.getfield 73, 3) := by decide +kernel
theorem dX8_readHold_4 : decode cX8_readHold 4 = .ok (.bipush 9, 2) := by decide +kernel
theorem dX8_readHold_6 : decode cX8_readHold 6 = .ok (.iaload, 1) := by decide +kernel
theorem dX8_readHold_7 : decode cX8_readHold 7 = .ok (.iconst 5, 1) := by decide +kernel
theorem dX8_readHold_8 : decode cX8_readHold 8 = .ok (.if_icmp .ne 9, 3) := by decide +kernel
theorem dX8_readHold_11 : decode cX8_readHold 11 = .ok (.aload_n 0, 1) := by decide +kernel
theorem dX8_readHold_12 : decode cX8_readHold 12 = .ok (.iconst 3, 1) := by decide +kernel
theorem dX8_readHold_13 : decode cX8_readHold 13 = .ok (.invokevirtual 106, 3) := by decide +kernel
theorem dX8_readHold_16 : decode cX8_readHold 16 = .ok (.ireturn, 1) := by decide +kernel
theorem dX8_readHold_17 : decode cX8_readHold 17 = .ok (.aload_n 0, 1) := by decide +kernel
theorem dX8_readHold_18 : decode cX8_readHold 18 = .ok (.invokevirtual 113, 3) := by decide +kernel
theorem dX8_readHold_21 : decode cX8_readHold 21 = .ok (.bipush 27, 2) := by decide +kernel
theorem dX8_readHold_23 : decode cX8_readHold 23 = .ok (.bipush 6, 2) := by decide +kernel
theorem dX8_readHold_25 : decode cX8_readHold 25 = .ok (.aload_n 0, 1) := by decide +kernel
theorem dX8_readHold_26 : decode cX8_readHold 26 = .ok (.getfield 73, 3) := by decide +kernel
theorem dX8_readHold_29 : decode cX8_readHold 29 = .ok (.bipush 9, 2) := by decide +kernel
theorem dX8_readHold_31 : decode cX8_readHold 31 = .ok (.iaload, 1) := by decide +kernel
theorem dX8_readHold_32 : decode cX8_readHold 32 = .ok (.imul, 1) := by decide +kernel
theorem dX8_readHold_33 : decode cX8_readHold 33 = .ok (.iadd, 1) := by decide +kernel
theorem dX8_readHold_34 : decode cX8_readHold 34 = .ok (.istore_n 1, 1) := by decide +kernel
theorem dX8_readHold_35 : decode cX8_readHold 35 = .ok (.aload_n 0, 1) := by decide +kernel
theorem dX8_readHold_36 : decode cX8_readHold 36 = .ok (.iload_n 1, 1) := by decide +kernel
theorem dX8_readHold_37 : decode cX8_readHold 37 = .ok (.iconst 0, 1) := by decide +kernel
theorem dX8_readHold_38 : decode cX8_readHold 38 = .ok (.iadd, 1) := by decide +kernel
theorem dX8_readHold_39 : decode cX8_readHold 39 = .ok (.iconst 1, 1) := by decide +kernel
theorem dX8_readHold_40 : decode cX8_readHold 40 = .ok (.sipush 999, 3) := by decide +kernel
theorem dX8_readHold_43 : decode cX8_readHold 43 = .ok (.invokevirtual 127, 3) := by decide +kernel
theorem dX8_readHold_46 : decode cX8_readHold 46 = .ok (.ifCond .eq 16, 3) := by decide +kernel
theorem dX8_readHold_49 : decode cX8_readHold 49 = .ok (.aload_n 0, 1) := by decide +kernel
theorem dX8_readHold_50 : decode cX8_readHold 50 = .ok (.iload_n 1, 1) := by decide +kernel
theorem dX8_readHold_51 : decode cX8_readHold 51 = .ok (.iconst 1, 1) := by decide +kernel
theorem dX8_readHold_52 : decode cX8_readHold 52 = .ok (.iadd, 1) := by decide +kernel
theorem dX8_readHold_53 : decode cX8_readHold 53 = .ok (.iconst 0, 1) := by decide +kernel
theorem dX8_readHold_54 : decode cX8_readHold 54 = .ok (.bipush 99, 2) := by decide +kernel
theorem dX8_readHold_56 : decode cX8_readHold 56 = .ok (.invokevirtual 127, 3) := by decide +kernel
theorem dX8_readHold_59 : decode cX8_readHold 59 = .ok (.ifCond .ne 5, 3) := by decide +kernel
theorem dX8_readHold_62 : decode cX8_readHold 62 = .ok (.iconst 0, 1) := by decide +kernel
theorem dX8_readHold_63 : decode cX8_readHold 63 = .ok (.ireturn, 1) := by decide +kernel
theorem dX8_readHold_64 : decode cX8_readHold 64 = .ok (.aload_n 0, 1) := by decide +kernel
theorem dX8_readHold_65 : decode cX8_readHold 65 = .ok (.bipush 111, 2) := by decide +kernel
theorem dX8_readHold_67 : decode cX8_readHold 67 = .ok (.bipush 112, 2) := by decide +kernel
theorem dX8_readHold_69 : decode cX8_readHold 69 = .ok (.bipush 101, 2) := by decide +kernel
theorem dX8_readHold_71 : decode cX8_readHold 71 = .ok (.bipush 110, 2) := by decide +kernel
theorem dX8_readHold_73 : decode cX8_readHold 73 = .ok (.invokestatic 130, 3) := by decide +kernel
theorem dX8_readHold_76 : decode cX8_readHold 76 = .ok (.invokevirtual 123, 3) := by decide +kernel
theorem dX8_readHold_79 : decode cX8_readHold 79 = .ok (.istore_n 2, 1) := by decide +kernel
theorem dX8_readHold_80 : decode cX8_readHold 80 = .ok (.iload_n 2, 1) := by decide +kernel
theorem dX8_readHold_81 : decode cX8_readHold 81 = .ok (.ifCond .ne 39, 3) := by decide +kernel
theorem dX8_readHold_84 : decode cX8_readHold 84 = .ok (.aload_n 0, 1) := by decide +kernel
theorem dX8_readHold_85 : decode cX8_readHold 85 = .ok (.ldc2_w 48, 3) := by decide +kernel
theorem dX8_readHold_88 : decode cX8_readHold 88 = .ok (.bipush 98, 2) := by decide +kernel
theorem dX8_readHold_90 : decode cX8_readHold 90 = .ok (.bipush 97, 2) := by decide +kernel
theorem dX8_readHold_92 : decode cX8_readHold 92 = .ok (.bipush 102, 2) := by decide +kernel
theorem dX8_readHold_94 : decode cX8_readHold 94 = .ok (.bipush 102, 2) := by decide +kernel
theorem dX8_readHold_96 : decode cX8_readHold 96 = .ok (.bipush 108, 2) := by decide +kernel
theorem dX8_readHold_98 : decode cX8_readHold 98 = .ok (.bipush 101, 2) := by decide +kernel
theorem dX8_readHold_100 : decode cX8_readHold 100 = .ok (.invokestatic 119, 3) := by decide +kernel
theorem dX8_readHold_103 : decode cX8_readHold 103 = .ok (.lmul, 1) := by decide +kernel
theorem dX8_readHold_104 : decode cX8_readHold 104 = .ok (.ldc2_w 134, 3) := by decide +kernel
theorem dX8_readHold_107 : decode cX8_readHold 107 = .ok (.ladd, 1) := by decide +kernel
theorem dX8_readHold_108 : decode cX8_readHold 108 = .ok (.invokevirtual 123, 3) := by decide +kernel
theorem dX8_readHold_111 : decode cX8_readHold 111 = .ok (.ifCond .ne 9, 3) := by decide +kernel
theorem dX8_readHold_114 : decode cX8_readHold 114 = .ok (.aload_n 0, 1) := by decide +kernel
theorem dX8_readHold_115 : decode cX8_readHold 115 = .ok (.iconst 1, 1) := by decide +kernel
theorem dX8_readHold_116 : decode cX8_readHold 116 = .ok (.invokevirtual 106, 3) := by decide +kernel
theorem dX8_readHold_119 : decode cX8_readHold 119 = .ok (.ireturn, 1) := by decide +kernel
theorem dX8_readHold_120 : decode cX8_readHold 120 = .ok (.aload_n 0, 1) := by decide +kernel
theorem dX8_readHold_121 : decode cX8_readHold 121 = .ok (.getfield 73, 3) := by decide +kernel
theorem dX8_readHold_124 : decode cX8_readHold 124 = .ok (.iload_n 1, 1) := by decide +kernel
theorem dX8_readHold_125 : decode cX8_readHold 125 = .ok (.iconst 2, 1) := by decide +kernel
theorem dX8_readHold_126 : decode cX8_readHold 126 = .ok (.iadd, 1) := by decide +kernel
theorem dX8_readHold_127 : decode cX8_readHold 127 = .ok (.iload_n 2, 1) := by decide +kernel
theorem dX8_readHold_128 : decode cX8_readHold 128 = .ok (.ifCond .eq 7, 3) := by decide +kernel
theorem dX8_readHold_131 : decode cX8_readHold 131 = .ok (.iconst 1, 1) := by decide +kernel
theorem dX8_readHold_132 : decode cX8_readHold 132 = .ok (.goto 4, 3) := by decide +kernel
theorem dX8_readHold_135 : decode cX8_readHold 135 = .ok (.iconst 0, 1) := by decide +kernel
theorem dX8_readHold_136 : decode cX8_readHold 136 = .ok (.iastore, 1) := by decide +kernel
theorem dX8_readHold_137 : decode cX8_readHold 137 = .ok (.aload_n 0, 1) := by decide +kernel
theorem dX8_readHold_138 : decode cX8_readHold 138 = .ok (.invokevirtual 113, 3) := by decide +kernel
theorem dX8_readHold_141 : decode cX8_readHold 141 = .ok (.aload_n 0, 1) := by decide +kernel
theorem dX8_readHold_142 : decode cX8_readHold 142 = .ok (.getfield 73, 3) := by decide +kernel
theorem dX8_readHold_145 : decode cX8_readHold 145 = .ok (.bipush 9, 2) := by decide +kernel
theorem dX8_readHold_147 : decode cX8_readHold 147 = .ok (.dup2, 1) := by decide +kernel
theorem dX8_readHold_148 : decode cX8_readHold 148 = .ok (.iaload, 1) := by decide +kernel
theorem dX8_readHold_149 : decode cX8_readHold 149 = .ok (.iconst 1, 1) := by decide +kernel
theorem dX8_readHold_150 : decode cX8_readHold 150 = .ok (.iadd, 1) := by decide +kernel
theorem dX8_readHold_151 : decode cX8_readHold 151 = .ok (.iastore, 1) := by decide +kernel
theorem dX8_readHold_152 : decode cX8_readHold 152 = .ok (.iconst 1, 1) := by decide +kernel
theorem dX8_readHold_153 : decode cX8_readHold 153 = .ok (.ireturn, 1) := by decide +kernel
theorem dX8_readLiquid_0 : decode cX8_readLiquid 0 = .ok (.aload_n 0, 1) := by decide +kernel
theorem dX8_readLiquid_1 : decode cX8_readLiquid 1 = .ok (.getfield 73, 3) := by decide +kernel
theorem dX8_readLiquid_4 : decode cX8_readLiquid 4 = .ok (.bipush 10, 2) := by decide +kernel
theorem dX8_readLiquid_6 : decode cX8_readLiquid 6 = .ok (.iaload, 1) := by decide +kernel
theorem dX8_readLiquid_7 : decode cX8_readLiquid 7 = .ok (.bipush 6, 2) := by decide +kernel
theorem dX8_readLiquid_9 : decode cX8_readLiquid 9 = .ok (.if_icmp .ne 9, 3) := by decide +kernel
theorem dX8_readLiquid_12 : decode cX8_readLiquid 12 = .ok (.aload_n 0, 1) := by decide +kernel
theorem dX8_readLiquid_13 : decode cX8_readLiquid 13 = .ok (.iconst 3, 1) := by decide +kernel
theorem dX8_readLiquid_14 : decode cX8_readLiquid 14 = .ok (.invokevirtual 106, 3) := by decide +kernel
theorem dX8_readLiquid_17 : decode cX8_readLiquid 17 = .ok (.ireturn, 1) := by decide +kernel
theorem dX8_readLiquid_18 : decode cX8_readLiquid 18 = .ok (.aload_n 0, 1) := by decide +kernel
theorem dX8_readLiquid_19 : decode cX8_readLiquid 19 = .ok (.invokevirtual 113, 3) := by decide +kernel
theorem dX8_readLiquid_22 : decode cX8_readLiquid 22 = .ok (.aload_n 0, 1) := by decide +kernel
theorem dX8_readLiquid_23 : decode cX8_readLiquid 23 = .ok (.bipush 15, 2) := by decide +kernel
theorem dX8_readLiquid_25 : decode cX8_readLiquid 25 = .ok (.aload_n 0, 1) := by decide +kernel
theorem dX8_readLiquid_26 : decode cX8_readLiquid 26 = .ok (.getfield 73, 3) := by decide +kernel
theorem dX8_readLiquid_29 : decode cX8_readLiquid 29 = .ok (.bipush 10, 2) := by decide +kernel
theorem dX8_readLiquid_31 : decode cX8_readLiquid 31 = .ok (.iaload, 1) := by decide +kernel
theorem dX8_readLiquid_32 : decode cX8_readLiquid 32 = .ok (.iadd, 1) := by decide +kernel
theorem dX8_readLiquid_33 : decode cX8_readLiquid 33 = .ok (.iconst 1, 1) := by decide +kernel
theorem dX8_readLiquid_34 : decode cX8_readLiquid 34 = .ok (.bipush 20, 2) := by decide +kernel
theorem dX8_readLiquid_36 : decode cX8_readLiquid 36 = .ok (.invokevirtual 127, 3) := by decide +kernel
theorem dX8_readLiquid_39 : decode cX8_readLiquid 39 = .ok (.ifCond .ne 5, 3) := by decide +kernel
theorem dX8_readLiquid_42 : decode cX8_readLiquid 42 = .ok (.iconst 0, 1) := by decide +kernel
theorem dX8_readLiquid_43 : decode cX8_readLiquid 43 = .ok (.ireturn, 1) := by decide +kernel
theorem dX8_readLiquid_44 : decode cX8_readLiquid 44 = .ok (.aload_n 0, 1) := by decide +kernel
theorem dX8_readLiquid_45 : decode cX8_readLiquid 45 = .ok (.getfield 73, 3) := by decide +kernel
theorem dX8_readLiquid_48 : decode cX8_readLiquid 48 = .ok (.bipush 10, 2) := by decide +kernel
theorem dX8_readLiquid_50 : decode cX8_readLiquid 50 = .ok (.dup2, 1) := by decide +kernel
theorem dX8_readLiquid_51 : decode cX8_readLiquid 51 = .ok (.iaload, 1) := by decide +kernel
theorem dX8_readLiquid_52 : decode cX8_readLiquid 52 = .ok (.iconst 1, 1) := by decide +kernel
theorem dX8_readLiquid_53 : decode cX8_readLiquid 53 = .ok (.iadd, 1) := by decide +kernel
theorem dX8_readLiquid_54 : decode cX8_readLiquid 54 = .ok (.iastore, 1) := by decide +kernel
theorem dX8_readLiquid_55 : decode cX8_readLiquid 55 = .ok (.iconst 1, 1) := by decide +kernel
theorem dX8_readLiquid_56 : decode cX8_readLiquid 56 = .ok (.ireturn, 1) := by decide +kernel
theorem dX8_readBar_0 : decode cX8_readBar 0 = .ok (.aload_n 0, 1) := by decide +kernel
theorem dX8_readBar_1 : decode cX8_readBar 1 = .ok (.getfield 73, 3) := by decide +kernel
theorem dX8_readBar_4 : decode cX8_readBar 4 = .ok (.bipush 11, 2) := by decide +kernel
theorem dX8_readBar_6 : decode cX8_readBar 6 = .ok (.iaload, 1) := by decide +kernel
theorem dX8_readBar_7 : decode cX8_readBar 7 = .ok (.bipush 36, 2) := by decide +kernel
theorem dX8_readBar_9 : decode cX8_readBar 9 = .ok (.if_icmp .ne 9, 3) := by decide +kernel
theorem dX8_readBar_12 : decode cX8_readBar 12 = .ok (.aload_n 0, 1) := by decide +kernel
theorem dX8_readBar_13 : decode cX8_readBar 13 = .ok (.iconst 3, 1) := by decide +kernel
theorem dX8_readBar_14 : decode cX8_readBar 14 = .ok (.invokevirtual 106, 3) := by decide +kernel
theorem dX8_readBar_17 : decode cX8_readBar 17 = .ok (.ireturn, 1) := by decide +kernel
theorem dX8_readBar_18 : decode cX8_readBar 18 = .ok (.aload_n 0, 1) := by decide +kernel
theorem dX8_readBar_19 : decode cX8_readBar 19 = .ok (.invokevirtual 113, 3) := by decide +kernel
theorem dX8_readBar_22 : decode cX8_readBar 22 = .ok (.aload_n 0, 1) := by decide +kernel
theorem dX8_readBar_23 : decode cX8_readBar 23 = .ok (.aload_n 0, 1) := by decide +kernel
theorem dX8_readBar_24 : decode cX8_readBar 24 = .ok (.getfield 73, 3) := by decide +kernel
theorem dX8_readBar_27 : decode cX8_readBar 27 = .ok (.bipush 10, 2) := by decide +kernel
theorem dX8_readBar_29 : decode cX8_readBar 29 = .ok (.iaload, 1) := by decide +kernel
theorem dX8_readBar_30 : decode cX8_readBar 30 = .ok (.invokevirtual 136, 3) := by decide +kernel
theorem dX8_readBar_33 : decode cX8_readBar 33 = .ok (.ifCond .ne 5, 3) := by decide +kernel
theorem dX8_readBar_36 : decode cX8_readBar 36 = .ok (.iconst 0, 1) := by decide +kernel
theorem dX8_readBar_37 : decode cX8_readBar 37 = .ok (.ireturn, 1) := by decide +kernel
theorem dX8_readBar_38 : decode cX8_readBar 38 = .ok (.aload_n 0, 1) := by decide +kernel
theorem dX8_readBar_39 : decode cX8_readBar 39 = .ok (.getfield 116, 3) := by decide +kernel
theorem dX8_readBar_42 : decode cX8_readBar 42 = .ok (.istore_n 1, 1) := by decide +kernel
theorem dX8_readBar_43 : decode cX8_readBar 43 = .ok (.aload_n 0, 1) := by decide +kernel
theorem dX8_readBar_44 : decode cX8_readBar 44 = .ok (.aload_n 0, 1) := by decide +kernel
theorem dX8_readBar_45 : decode cX8_readBar 45 = .ok (.getfield 73, 3) := by decide +kernel
theorem dX8_readBar_48 : decode cX8_readBar 48 = .ok (.bipush 10, 2) := by decide +kernel
theorem dX8_readBar_50 : decode cX8_readBar 50 = .ok (.iaload, 1) := by decide +kernel
theorem dX8_readBar_51 : decode cX8_readBar 51 = .ok (.invokevirtual 136, 3) := by decide +kernel
theorem dX8_readBar_54 : decode cX8_readBar 54 = .ok (.ifCond .ne 5, 3) := by decide +kernel
theorem dX8_readBar_57 : decode cX8_readBar 57 = .ok (.iconst 0, 1) := by decide +kernel
theorem dX8_readBar_58 : decode cX8_readBar 58 = .ok (.ireturn, 1) := by decide +kernel
theorem dX8_readBar_59 : decode cX8_readBar 59 = .ok (.aload_n 0, 1) := by decide +kernel
theorem dX8_readBar_60 : decode cX8_readBar 60 = .ok (.getfield 73, 3) := by decide +kernel
theorem dX8_readBar_63 : decode cX8_readBar 63 = .ok (.bipush 21, 2) := by decide +kernel
theorem dX8_readBar_65 : decode cX8_readBar 65 = .ok (.iload_n 1, 1) := by decide +kernel
theorem dX8_readBar_66 : decode cX8_readBar 66 = .ok (.iadd, 1) := by decide +kernel
theorem dX8_readBar_67 : decode cX8_readBar 67 = .ok (.dup2, 1) := by decide +kernel
theorem dX8_readBar_68 : decode cX8_readBar 68 = .ok (.iaload, 1) := by decide +kernel
theorem dX8_readBar_69 : decode cX8_readBar 69 = .ok (.iconst 1, 1) := by decide +kernel
theorem dX8_readBar_70 : decode cX8_readBar 70 = .ok (.aload_n 0, 1) := by decide +kernel
theorem dX8_readBar_71 : decode cX8_readBar 71 = .ok (.getfield 116, 3) := by decide +kernel
theorem dX8_readBar_74 : decode cX8_readBar 74 = .ok (.ishl, 1) := by decide +kernel
theorem dX8_readBar_75 : decode cX8_readBar 75 = .ok (.ior, 1) := by decide +kernel
theorem dX8_readBar_76 : decode cX8_readBar 76 = .ok (.iastore, 1) := by decide +kernel
theorem dX8_readBar_77 : decode cX8_readBar 77 = .ok (.aload_n 0, 1) := by decide +kernel
theorem dX8_readBar_78 : decode cX8_readBar 78 = .ok (.getfield 73, 3) := by decide +kernel
theorem dX8_readBar_81 : decode cX8_readBar 81 = .ok (.bipush 11, 2) := by decide +kernel
theorem dX8_readBar_83 : decode cX8_readBar 83 = .ok (.dup2, 1) := by decide +kernel
theorem dX8_readBar_84 : decode cX8_readBar 84 = .ok (.iaload, 1) := by decide +kernel
theorem dX8_readBar_85 : decode cX8_readBar 85 = .ok (.iconst 1, 1) := by decide +kernel
theorem dX8_readBar_86 : decode cX8_readBar 86 = .ok (.iadd, 1) := by decide +kernel
theorem dX8_readBar_87 : decode cX8_readBar 87 = .ok (.iastore, 1) := by decide +kernel
theorem dX8_readBar_88 : decode cX8_readBar 88 = .ok (.iconst 1, 1) := by decide +kernel
theorem dX8_readBar_89 : decode cX8_readBar 89 = .ok (.ireturn, 1) := by decide +kernel
theorem dX8_readLast_0 : decode cX8_readLast 0 = .ok (.aload_n 0, 1) := by decide +kernel
theorem dX8_readLast_1 : decode cX8_readLast 1 = .ok (.getfield 73, 3) := by decide +kernel
theorem dX8_readLast_4 : decode cX8_readLast 4 = .ok (.bipush 12, 2) := by decide +kernel
theorem dX8_readLast_6 : decode cX8_readLast 6 = .ok (.iaload, 1) := by decide +kernel
theorem dX8_readLast_7 : decode cX8_readLast 7 = .ok (.bipush 20, 2) := by decide +kernel
theorem dX8_readLast_9 : decode cX8_readLast 9 = .ok (.if_icmp .ne 9, 3) := by decide +kernel
theorem dX8_readLast_12 : decode cX8_readLast 12 = .ok (.aload_n 0, 1) := by decide +kernel
theorem dX8_readLast_13 : decode cX8_readLast 13 = .ok (.iconst 3, 1) := by decide +kernel
theorem dX8_readLast_14 : decode cX8_readLast 14 = .ok (.invokevirtual 106, 3) := by decide +kernel
theorem dX8_readLast_17 : decode cX8_readLast 17 = .ok (.ireturn, 1) := by decide +kernel
theorem dX8_readLast_18 : decode cX8_readLast 18 = .ok (.aload_n 0, 1) := by decide +kernel
theorem dX8_readLast_19 : decode cX8_readLast 19 = .ok (.invokevirtual 113, 3) := by decide +kernel
theorem dX8_readLast_22 : decode cX8_readLast 22 = .ok (.aload_n 0, 1) := by decide +kernel
theorem dX8_readLast_23 : decode cX8_readLast 23 = .ok (.aload_n 0, 1) := by decide +kernel
theorem dX8_readLast_24 : decode cX8_readLast 24 = .ok (.getfield 73, 3) := by decide +kernel
theorem dX8_readLast_27 : decode cX8_readLast 27 = .ok (.bipush 9, 2) := by decide +kernel
theorem dX8_readLast_29 : decode cX8_readLast 29 = .ok (.iaload, 1) := by decide +kernel
theorem dX8_readLast_30 : decode cX8_readLast 30 = .ok (.invokevirtual 136, 3) := by decide +kernel
theorem dX8_readLast_33 : decode cX8_readLast 33 = .ok (.ifCond .ne 5, 3) := by decide +kernel
theorem dX8_readLast_36 : decode cX8_readLast 36 = .ok (.iconst 0, 1) := by decide +kernel
theorem dX8_readLast_37 : decode cX8_readLast 37 = .ok (.ireturn, 1) := by decide +kernel
theorem dX8_readLast_38 : decode cX8_readLast 38 = .ok (.aload_n 0, 1) := by decide +kernel
theorem dX8_readLast_39 : decode cX8_readLast 39 = .ok (.getfield 116, 3) := by decide +kernel
theorem dX8_readLast_42 : decode cX8_readLast 42 = .ok (.istore_n 1, 1) := by decide +kernel
theorem dX8_readLast_43 : decode cX8_readLast 43 = .ok (.aload_n 0, 1) := by decide +kernel
theorem dX8_readLast_44 : decode cX8_readLast 44 = .ok (.aload_n 0, 1) := by decide +kernel
theorem dX8_readLast_45 : decode cX8_readLast 45 = .ok (.getfield 73, 3) := by decide +kernel
theorem dX8_readLast_48 : decode cX8_readLast 48 = .ok (.bipush 10, 2) := by decide +kernel
theorem dX8_readLast_50 : decode cX8_readLast 50 = .ok (.iaload, 1) := by decide +kernel
theorem dX8_readLast_51 : decode cX8_readLast 51 = .ok (.invokevirtual 136, 3) := by decide +kernel
theorem dX8_readLast_54 : decode cX8_readLast 54 = .ok (.ifCond .ne 5, 3) := by decide +kernel
theorem dX8_readLast_57 : decode cX8_readLast 57 = .ok (.iconst 0, 1) := by decide +kernel
theorem dX8_readLast_58 : decode cX8_readLast 58 = .ok (.ireturn, 1) := by decide +kernel
theorem dX8_readLast_59 : decode cX8_readLast 59 = .ok (.aload_n 0, 1) := by decide +kernel
theorem dX8_readLast_60 : decode cX8_readLast 60 = .ok (.getfield 73, 3) := by decide +kernel
theorem dX8_readLast_63 : decode cX8_readLast 63 = .ok (.bipush 27, 2) := by decide +kernel
theorem dX8_readLast_65 : decode cX8_readLast 65 = .ok (.bipush 6, 2) := by decide +kernel
theorem dX8_readLast_67 : decode cX8_readLast 67 = .ok (.iload_n 1, 1) := by decide +kernel
theorem dX8_readLast_68 : decode cX8_readLast 68 = .ok (.imul, 1) := by decide +kernel
theorem dX8_readLast_69 : decode cX8_readLast 69 = .ok (.iadd, 1) := by decide +kernel
theorem dX8_readLast_70 : decode cX8_readLast 70 = .ok (.iconst 5, 1) := by decide +kernel
theorem dX8_readLast_71 : decode cX8_readLast 71 = .ok (.iadd, 1) := by decide +kernel
theorem dX8_readLast_72 : decode cX8_readLast 72 = .ok (.aload_n 0, 1) := by decide +kernel
theorem dX8_readLast_73 : decode cX8_readLast 73 = .ok (.getfield 116, 3) := by decide +kernel
theorem dX8_readLast_76 : decode cX8_readLast 76 = .ok (.iconst 1, 1) := by decide +kernel
theorem dX8_readLast_77 : decode cX8_readLast 77 = .ok (.iadd, 1) := by decide +kernel
theorem dX8_readLast_78 : decode cX8_readLast 78 = .ok (.iastore, 1) := by decide +kernel
theorem dX8_readLast_79 : decode cX8_readLast 79 = .ok (.aload_n 0, 1) := by decide +kernel
theorem dX8_readLast_80 : decode cX8_readLast 80 = .ok (.getfield 73, 3) := by decide +kernel
theorem dX8_readLast_83 : decode cX8_readLast 83 = .ok (.bipush 12, 2) := by decide +kernel
theorem dX8_readLast_85 : decode cX8_readLast 85 = .ok (.dup2, 1) := by decide +kernel
theorem dX8_readLast_86 : decode cX8_readLast 86 = .ok (.iaload, 1) := by decide +kernel
theorem dX8_readLast_87 : decode cX8_readLast 87 = .ok (.iconst 1, 1) := by decide +kernel
theorem dX8_readLast_88 : decode cX8_readLast 88 = .ok (.iadd, 1) := by decide +kernel
theorem dX8_readLast_89 : decode cX8_readLast 89 = .ok (.iastore, 1) := by decide +kernel
theorem dX8_readLast_90 : decode cX8_readLast 90 = .ok (.iconst 1, 1) := by decide +kernel
theorem dX8_readLast_91 : decode cX8_readLast 91 = .ok (.ireturn, 1) := by decide +kernel
theorem dX8_readDrop_0 : decode cX8_readDrop 0 = .ok (.aload_n 0, 1) := by decide +kernel
theorem dX8_readDrop_1 : decode cX8_readDrop 1 = .ok (.getfield 73, 3) := by decide +kernel
theorem dX8_readDrop_4 : decode cX8_readDrop 4 = .ok (.bipush 13, 2) := by decide +kernel
theorem dX8_readDrop_6 : decode cX8_readDrop 6 = .ok (.iaload, 1) := by decide +kernel
theorem dX8_readDrop_7 : decode cX8_readDrop 7 = .ok (.iconst 4, 1) := by decide +kernel
theorem dX8_readDrop_8 : decode cX8_readDrop 8 = .ok (.if_icmp .ne 9, 3) := by decide +kernel
theorem dX8_readDrop_11 : decode cX8_readDrop 11 = .ok (.aload_n 0, 1) := by decide +kernel
theorem dX8_readDrop_12 : decode cX8_readDrop 12 = .ok (.iconst 3, 1) := by decide +kernel
theorem dX8_readDrop_13 : decode cX8_readDrop 13 = .ok (.invokevirtual 106, 3) := by decide +kernel
theorem dX8_readDrop_16 : decode cX8_readDrop 16 = .ok (.ireturn, 1) := by decide +kernel
theorem dX8_readDrop_17 : decode cX8_readDrop 17 = .ok (.aload_n 0, 1) := by decide +kernel
theorem dX8_readDrop_18 : decode cX8_readDrop 18 = .ok (.invokevirtual 113, 3) := by decide +kernel
theorem dX8_readDrop_21 : decode cX8_readDrop 21 = .ok (.bipush 57, 2) := by decide +kernel
theorem dX8_readDrop_23 : decode cX8_readDrop 23 = .ok (.iconst 5, 1) := by decide +kernel
theorem dX8_readDrop_24 : decode cX8_readDrop 24 = .ok (.aload_n 0, 1) := by decide +kernel
theorem dX8_readDrop_25 : decode cX8_readDrop 25 = .ok (.getfield 73, 3) := by decide +kernel
theorem dX8_readDrop_28 : decode cX8_readDrop 28 = .ok (.bipush 13, 2) := by decide +kernel
theorem dX8_readDrop_30 : decode cX8_readDrop 30 = .ok (.iaload, 1) := by decide +kernel
theorem dX8_readDrop_31 : decode cX8_readDrop 31 = .ok (.imul, 1) := by decide +kernel
theorem dX8_readDrop_32 : decode cX8_readDrop 32 = .ok (.iadd, 1) := by decide +kernel
theorem dX8_readDrop_33 : decode cX8_readDrop 33 = .ok (.istore_n 1, 1) := by decide +kernel
theorem dX8_readDrop_34 : decode cX8_readDrop 34 = .ok (.aload_n 0, 1) := by decide +kernel
theorem dX8_readDrop_35 : decode cX8_readDrop 35 = .ok (.aload_n 0, 1) := by decide +kernel
theorem dX8_readDrop_36 : decode cX8_readDrop 36 = .ok (.getfield 73, 3) := by decide +kernel
theorem dX8_readDrop_39 : decode cX8_readDrop 39 = .ok (.bipush 10, 2) := by decide +kernel
theorem dX8_readDrop_41 : decode cX8_readDrop 41 = .ok (.iaload, 1) := by decide +kernel
theorem dX8_readDrop_42 : decode cX8_readDrop 42 = .ok (.invokevirtual 136, 3) := by decide +kernel
theorem dX8_readDrop_45 : decode cX8_readDrop 45 = .ok (.ifCond .ne 5, 3) := by decide +kernel
theorem dX8_readDrop_48 : decode cX8_readDrop 48 = .ok (.iconst 0, 1) := by decide +kernel
theorem dX8_readDrop_49 : decode cX8_readDrop 49 = .ok (.ireturn, 1) := by decide +kernel
theorem dX8_readDrop_50 : decode cX8_readDrop 50 = .ok (.aload_n 0, 1) := by decide +kernel
theorem dX8_readDrop_51 : decode cX8_readDrop 51 = .ok (.getfield 73, 3) := by decide +kernel
theorem dX8_readDrop_54 : decode cX8_readDrop 54 = .ok (.iload_n 1, 1) := by decide +kernel
theorem dX8_readDrop_55 : decode cX8_readDrop 55 = .ok (.iconst 0, 1) := by decide +kernel
theorem dX8_readDrop_56 : decode cX8_readDrop 56 = .ok (.iadd, 1) := by decide +kernel
theorem dX8_readDrop_57 : decode cX8_readDrop 57 = .ok (.aload_n 0, 1) := by decide +kernel
theorem dX8_readDrop_58 : decode cX8_readDrop 58 = .ok (.getfield 116, 3) := by decide +kernel
theorem dX8_readDrop_61 : decode cX8_readDrop 61 = .ok (.iastore, 1) := by decide +kernel
theorem dX8_readDrop_62 : decode cX8_readDrop 62 = .ok (.aload_n 0, 1) := by decide +kernel
theorem dX8_readDrop_63 : decode cX8_readDrop 63 = .ok (.iload_n 1, 1) := by decide +kernel
theorem dX8_readDrop_64 : decode cX8_readDrop 64 = .ok (.iconst 1, 1) := by decide +kernel
theorem dX8_readDrop_65 : decode cX8_readDrop 65 = .ok (.iadd, 1) := by decide +kernel
theorem dX8_readDrop_66 : decode cX8_readDrop 66 = .ok (.iconst 1, 1) := by decide +kernel
theorem dX8_readDrop_67 : decode cX8_readDrop 67 = .ok (.sipush 4995, 3) := by decide +kernel
theorem dX8_readDrop_70 : decode cX8_readDrop 70 = .ok (.invokevirtual 127, 3) := by decide +kernel
theorem dX8_readDrop_73 : decode cX8_readDrop 73 = .ok (.ifCond .ne 5, 3) := by decide +kernel
theorem dX8_readDrop_76 : decode cX8_readDrop 76 = .ok (.iconst 0, 1) := by decide +kernel
theorem dX8_readDrop_77 : decode cX8_readDrop 77 = .ok (.ireturn, 1) := by decide +kernel
theorem dX8_readDrop_78 : decode cX8_readDrop 78 = .ok (.aload_n 0, 1) := by decide +kernel
theorem dX8_readDrop_79 : decode cX8_readDrop 79 = .ok (.getfield 73, 3) := by decide +kernel
theorem dX8_readDrop_82 : decode cX8_readDrop 82 = .ok (.bipush 13, 2) := by decide +kernel
theorem dX8_readDrop_84 : decode cX8_readDrop 84 = .ok (.dup2, 1) := by decide +kernel
theorem dX8_readDrop_85 : decode cX8_readDrop 85 = .ok (.iaload, 1) := by decide +kernel
theorem dX8_readDrop_86 : decode cX8_readDrop 86 = .ok (.iconst 1, 1) := by decide +kernel
theorem dX8_readDrop_87 : decode cX8_readDrop 87 = .ok (.iadd, 1) := by decide +kernel
theorem dX8_readDrop_88 : decode cX8_readDrop 88 = .ok (.iastore, 1) := by decide +kernel
theorem dX8_readDrop_89 : decode cX8_readDrop 89 = .ok (.iconst 1, 1) := by decide +kernel
theorem dX8_readDrop_90 : decode cX8_readDrop 90 = .ok (.ireturn, 1) := by decide +kernel
theorem dX8_readLine_0 : decode cX8_readLine 0 = .ok (.iload_n 1, 1) := by decide +kernel
theorem dX8_readLine_1 : decode cX8_readLine 1 = .ok (.ifCond .eq 8, 3) := by decide +kernel
theorem dX8_readLine_4 : decode cX8_readLine 4 = .ok (.aload_n 0, 1) := by decide +kernel
theorem dX8_readLine_5 : decode cX8_readLine 5 = .ok (.invokevirtual 139, 3) := by decide +kernel
theorem dX8_readLine_8 : decode cX8_readLine 8 = .ok (.ireturn, 1) := by decide +kernel
theorem dX8_readLine_9 : decode cX8_readLine 9 = .ok (.aload_n 0, 1) := by decide +kernel
theorem dX8_readLine_10 : decode cX8_readLine 10 = .ok (.ldc2_w 143, 3) := by decide +kernel
theorem dX8_readLine_13 : decode cX8_readLine 13 = .ok (.bipush 99, 2) := by decide +kernel
theorem dX8_readLine_15 : decode cX8_readLine 15 = .ok (.bipush 111, 2) := by decide +kernel
theorem dX8_readLine_17 : decode cX8_readLine 17 = .ok (.bipush 109, 2) := by decide +kernel
theorem dX8_readLine_19 : decode cX8_readLine 19 = .ok (.bipush 112, 2) := by decide +kernel
theorem dX8_readLine_21 : decode cX8_readLine 21 = .ok (.bipush 97, 2) := by decide +kernel
theorem dX8_readLine_23 : decode cX8_readLine 23 = .ok (.bipush 114, 2) := by decide +kernel
theorem dX8_readLine_25 : decode cX8_readLine 25 = .ok (.invokestatic 119, 3) := by decide +kernel
theorem dX8_readLine_28 : decode cX8_readLine 28 = .ok (.lmul, 1) := by decide +kernel
theorem dX8_readLine_29 : decode cX8_readLine 29 = .ok (.ldc2_w 145, 3) := by decide +kernel
theorem dX8_readLine_32 : decode cX8_readLine 32 = .ok (.bipush 116, 2) := by decide +kernel
theorem dX8_readLine_34 : decode cX8_readLine 34 = .ok (.bipush 109, 2) := by decide +kernel
theorem dX8_readLine_36 : decode cX8_readLine 36 = .ok (.bipush 101, 2) := by decide +kernel
theorem dX8_readLine_38 : decode cX8_readLine 38 = .ok (.invokestatic 54, 3) := by decide +kernel
theorem dX8_readLine_41 : decode cX8_readLine 41 = .ok (.lmul, 1) := by decide +kernel
theorem dX8_readLine_42 : decode cX8_readLine 42 = .ok (.ladd, 1) := by decide +kernel
theorem dX8_readLine_43 : decode cX8_readLine 43 = .ok (.ldc2_w 147, 3) := by decide +kernel
theorem dX8_readLine_46 : decode cX8_readLine 46 = .ok (.ladd, 1) := by decide +kernel
theorem dX8_readLine_47 : decode cX8_readLine 47 = .ok (.ldc2_w 149, 3) := by decide +kernel
theorem dX8_readLine_50 : decode cX8_readLine 50 = .ok (.ladd, 1) := by decide +kernel
theorem dX8_readLine_51 : decode cX8_readLine 51 = .ok (.invokevirtual 123, 3) := by decide +kernel
theorem dX8_readLine_54 : decode cX8_readLine 54 = .ok (.ifCond .eq 8, 3) := by decide +kernel
theorem dX8_readLine_57 : decode cX8_readLine 57 = .ok (.aload_n 0, 1) := by decide +kernel
theorem dX8_readLine_58 : decode cX8_readLine 58 = .ok (.invokevirtual 151, 3) := by decide +kernel
theorem dX8_readLine_61 : decode cX8_readLine 61 = .ok (.ireturn, 1) := by decide +kernel
theorem dX8_readLine_62 : decode cX8_readLine 62 = .ok (.aload_n 0, 1) := by decide +kernel
theorem dX8_readLine_63 : decode cX8_readLine 63 = .ok (.bipush 108, 2) := by decide +kernel
theorem dX8_readLine_65 : decode cX8_readLine 65 = .ok (.bipush 105, 2) := by decide +kernel
theorem dX8_readLine_67 : decode cX8_readLine 67 = .ok (.bipush 113, 2) := by decide +kernel
theorem dX8_readLine_69 : decode cX8_readLine 69 = .ok (.bipush 117, 2) := by decide +kernel
theorem dX8_readLine_71 : decode cX8_readLine 71 = .ok (.bipush 105, 2) := by decide +kernel
theorem dX8_readLine_73 : decode cX8_readLine 73 = .ok (.bipush 100, 2) := by decide +kernel
theorem dX8_readLine_75 : decode cX8_readLine 75 = .ok (.invokestatic 119, 3) := by decide +kernel
theorem dX8_readLine_78 : decode cX8_readLine 78 = .ok (.invokevirtual 123, 3) := by decide +kernel
theorem dX8_readLine_81 : decode cX8_readLine 81 = .ok (.ifCond .eq 8, 3) := by decide +kernel
theorem dX8_readLine_84 : decode cX8_readLine 84 = .ok (.aload_n 0, 1) := by decide +kernel
theorem dX8_readLine_85 : decode cX8_readLine 85 = .ok (.invokevirtual 154, 3) := by decide +kernel
theorem dX8_readLine_88 : decode cX8_readLine 88 = .ok (.ireturn, 1) := by decide +kernel
theorem dX8_readLine_89 : decode cX8_readLine 89 = .ok (.aload_n 0, 1) := by decide +kernel
theorem dX8_readLine_90 : decode cX8_readLine 90 = .ok (.bipush 98, 2) := by decide +kernel
theorem dX8_readLine_92 : decode cX8_readLine 92 = .ok (.bipush 97, 2) := by decide +kernel
theorem dX8_readLine_94 : decode cX8_readLine 94 = .ok (.bipush 114, 2) := by decide +kernel
theorem dX8_readLine_96 : decode cX8_readLine 96 = .ok (.invokestatic 54, 3) := by decide +kernel
theorem dX8_readLine_99 : decode cX8_readLine 99 = .ok (.invokevirtual 123, 3) := by decide +kernel
theorem dX8_readLine_102 : decode cX8_readLine 102 = .ok (.ifCond .eq 8, 3) := by decide +kernel
theorem dX8_readLine_105 : decode cX8_readLine 105 = .ok (.aload_n 0, 1) := by decide +kernel
theorem dX8_readLine_106 : decode cX8_readLine 106 = .ok (.invokevirtual 157, 3) := by decide +kernel
theorem dX8_readLine_109 : decode cX8_readLine 109 = .ok (.ireturn, 1) := by decide +kernel
theorem dX8_readLine_110 : decode cX8_readLine 110 = .ok (.aload_n 0, 1) := by decide +kernel
theorem dX8_readLine_111 : decode cX8_readLine 111 = .ok (.bipush 108, 2) := by decide +kernel
theorem dX8_readLine_113 : decode cX8_readLine 113 = .ok (.bipush 97, 2) := by decide +kernel
theorem dX8_readLine_115 : decode cX8_readLine 115 = .ok (.bipush 115, 2) := by decide +kernel
theorem dX8_readLine_117 : decode cX8_readLine 117 = .ok (.bipush 116, 2) := by decide +kernel
theorem dX8_readLine_119 : decode cX8_readLine 119 = .ok (.invokestatic 130, 3) := by decide +kernel
theorem dX8_readLine_122 : decode cX8_readLine 122 = .ok (.invokevirtual 123, 3) := by decide +kernel
theorem dX8_readLine_125 : decode cX8_readLine 125 = .ok (.ifCond .eq 8, 3) := by decide +kernel
theorem dX8_readLine_128 : decode cX8_readLine 128 = .ok (.aload_n 0, 1) := by decide +kernel
theorem dX8_readLine_129 : decode cX8_readLine 129 = .ok (.invokevirtual 160, 3) := by decide +kernel
theorem dX8_readLine_132 : decode cX8_readLine 132 = .ok (.ireturn, 1) := by decide +kernel
theorem dX8_readLine_133 : decode cX8_readLine 133 = .ok (.aload_n 0, 1) := by decide +kernel
theorem dX8_readLine_134 : decode cX8_readLine 134 = .ok (.bipush 100, 2) := by decide +kernel
theorem dX8_readLine_136 : decode cX8_readLine 136 = .ok (.bipush 114, 2) := by decide +kernel
theorem dX8_readLine_138 : decode cX8_readLine 138 = .ok (.bipush 111, 2) := by decide +kernel
theorem dX8_readLine_140 : decode cX8_readLine 140 = .ok (.bipush 112, 2) := by decide +kernel
theorem dX8_readLine_142 : decode cX8_readLine 142 = .ok (.invokestatic 130, 3) := by decide +kernel
theorem dX8_readLine_145 : decode cX8_readLine 145 = .ok (.invokevirtual 123, 3) := by decide +kernel
theorem dX8_readLine_148 : decode cX8_readLine 148 = .ok (.ifCond .eq 10, 3) := by decide +kernel
theorem dX8_readLine_151 : decode cX8_readLine 151 = .ok (.aload_n 0, 1) := by decide +kernel
theorem dX8_readLine_152 : decode cX8_readLine 152 = .ok (.invokevirtual 163, 3) := by decide +kernel
theorem dX8_readLine_155 : decode cX8_readLine 155 = .ok (.goto 8, 3) := by decide +kernel
theorem dX8_readLine_158 : decode cX8_readLine 158 = .ok (.aload_n 0, 1) := by decide +kernel
theorem dX8_readLine_159 : decode cX8_readLine 159 = .ok (.iconst 1, 1) := by decide +kernel
theorem dX8_readLine_160 : decode cX8_readLine 160 = .ok (.invokevirtual 106, 3) := by decide +kernel
theorem dX8_readLine_163 : decode cX8_readLine 163 = .ok (.ireturn, 1) := by decide +kernel
theorem dX8_readEnd_0 : decode cX8_readEnd 0 = .ok (.aload_n 0, 1) := by decide +kernel
theorem dX8_readEnd_1 : decode cX8_readEnd 1 = .ok (.getfield 27, 3) := by decide +kernel
theorem dX8_readEnd_4 : decode cX8_readEnd 4 = .ok (.iconst 4, 1) := by decide +kernel
theorem dX8_readEnd_5 : decode cX8_readEnd 5 = .ok (.if_icmp .eq 9, 3) := by decide +kernel
theorem dX8_readEnd_8 : decode cX8_readEnd 8 = .ok (.aload_n 0, 1) := by decide +kernel
theorem dX8_readEnd_9 : decode cX8_readEnd 9 = .ok (.iconst 1, 1) := by decide +kernel
theorem dX8_readEnd_10 : decode cX8_readEnd 10 = .ok (.invokevirtual 106, 3) := by decide +kernel
theorem dX8_readEnd_13 : decode cX8_readEnd 13 = .ok (.ireturn, 1) := by decide +kernel
theorem dX8_readEnd_14 : decode cX8_readEnd 14 = .ok (.aload_n 0, 1) := by decide +kernel
theorem dX8_readEnd_15 : decode cX8_readEnd 15 = .ok (.invokevirtual 113, 3) := by decide +kernel
theorem dX8_readEnd_18 : decode cX8_readEnd 18 = .ok (.iconst 1, 1) := by decide +kernel
theorem dX8_readEnd_19 : decode cX8_readEnd 19 = .ok (.ireturn, 1) := by decide +kernel
theorem dX8_text_0 : decode cX8_text 0 = .ok (.aload_n 0, 1) := by decide +kernel
theorem dX8_text_1 : decode cX8_text 1 = .ok (.iconst 0, 1) := by decide +kernel
theorem dX8_text_2 : decode cX8_text 2 = .ok (.putfield 1, 3) := by decide +kernel
theorem dX8_text_5 : decode cX8_text 5 = .ok (.aload_n 0, 1) := by decide +kernel
theorem dX8_text_6 : decode cX8_text 6 = .ok (.aload_n 0, 1) := by decide +kernel
theorem dX8_text_7 : decode cX8_text 7 = .ok (.getfield 11, 3) := by decide +kernel
theorem dX8_text_10 : decode cX8_text 10 = .ok (.putfield 18, 3) := by decide +kernel
theorem dX8_text_13 : decode cX8_text 13 = .ok (.aload_n 0, 1) := by decide +kernel
theorem dX8_text_14 : decode cX8_text 14 = .ok (.iconst 0, 1) := by decide +kernel
theorem dX8_text_15 : decode cX8_text 15 = .ok (.putfield 11, 3) := by decide +kernel
theorem dX8_text_18 : decode cX8_text 18 = .ok (.aload_n 0, 1) := by decide +kernel
theorem dX8_text_19 : decode cX8_text 19 = .ok (.iconst 0, 1) := by decide +kernel
theorem dX8_text_20 : decode cX8_text 20 = .ok (.putfield 58, 3) := by decide +kernel
theorem dX8_text_23 : decode cX8_text 23 = .ok (.aload_n 0, 1) := by decide +kernel
theorem dX8_text_24 : decode cX8_text 24 = .ok (.iconst 0, 1) := by decide +kernel
theorem dX8_text_25 : decode cX8_text 25 = .ok (.putfield 21, 3) := by decide +kernel
theorem dX8_text_28 : decode cX8_text 28 = .ok (.iconst 0, 1) := by decide +kernel
theorem dX8_text_29 : decode cX8_text 29 = .ok (.istore_n 1, 1) := by decide +kernel
theorem dX8_text_30 : decode cX8_text 30 = .ok (.iconst 0, 1) := by decide +kernel
theorem dX8_text_31 : decode cX8_text 31 = .ok (.istore_n 2, 1) := by decide +kernel
theorem dX8_text_32 : decode cX8_text 32 = .ok (.iload_n 2, 1) := by decide +kernel
theorem dX8_text_33 : decode cX8_text 33 = .ok (.sipush 157, 3) := by decide +kernel
theorem dX8_text_36 : decode cX8_text 36 = .ok (.if_icmp .ge 16, 3) := by decide +kernel
theorem dX8_text_39 : decode cX8_text 39 = .ok (.aload_n 0, 1) := by decide +kernel
theorem dX8_text_40 : decode cX8_text 40 = .ok (.getfield 73, 3) := by decide +kernel
theorem dX8_text_43 : decode cX8_text 43 = .ok (.iload_n 2, 1) := by decide +kernel
theorem dX8_text_44 : decode cX8_text 44 = .ok (.iconst 0, 1) := by decide +kernel
theorem dX8_text_45 : decode cX8_text 45 = .ok (.iastore, 1) := by decide +kernel
theorem dX8_text_46 : decode cX8_text 46 = .ok (.iinc 2 1, 3) := by decide +kernel
theorem dX8_text_49 : decode cX8_text 49 = .ok (.goto (-17), 3) := by decide +kernel
theorem dX8_text_52 : decode cX8_text 52 = .ok (.aload_n 0, 1) := by decide +kernel
theorem dX8_text_53 : decode cX8_text 53 = .ok (.getfield 73, 3) := by decide +kernel
theorem dX8_text_56 : decode cX8_text 56 = .ok (.iconst 0, 1) := by decide +kernel
theorem dX8_text_57 : decode cX8_text 57 = .ok (.iconst 1, 1) := by decide +kernel
theorem dX8_text_58 : decode cX8_text 58 = .ok (.iastore, 1) := by decide +kernel
theorem dX8_text_59 : decode cX8_text 59 = .ok (.aload_n 0, 1) := by decide +kernel
theorem dX8_text_60 : decode cX8_text 60 = .ok (.invokevirtual 113, 3) := by decide +kernel
theorem dX8_text_63 : decode cX8_text 63 = .ok (.aload_n 0, 1) := by decide +kernel
theorem dX8_text_64 : decode cX8_text 64 = .ok (.getfield 27, 3) := by decide +kernel
theorem dX8_text_67 : decode cX8_text 67 = .ok (.ifCond .eq 39, 3) := by decide +kernel
theorem dX8_text_70 : decode cX8_text 70 = .ok (.aload_n 0, 1) := by decide +kernel
theorem dX8_text_71 : decode cX8_text 71 = .ok (.iload_n 1, 1) := by decide +kernel
theorem dX8_text_72 : decode cX8_text 72 = .ok (.ifCond .ne 7, 3) := by decide +kernel
theorem dX8_text_75 : decode cX8_text 75 = .ok (.iconst 1, 1) := by decide +kernel
theorem dX8_text_76 : decode cX8_text 76 = .ok (.goto 4, 3) := by decide +kernel
theorem dX8_text_79 : decode cX8_text 79 = .ok (.iconst 0, 1) := by decide +kernel
theorem dX8_text_80 : decode cX8_text 80 = .ok (.invokevirtual 166, 3) := by decide +kernel
theorem dX8_text_83 : decode cX8_text 83 = .ok (.ifCond .eq 10, 3) := by decide +kernel
theorem dX8_text_86 : decode cX8_text 86 = .ok (.aload_n 0, 1) := by decide +kernel
theorem dX8_text_87 : decode cX8_text 87 = .ok (.invokevirtual 170, 3) := by decide +kernel
theorem dX8_text_90 : decode cX8_text 90 = .ok (.ifCond .ne 10, 3) := by decide +kernel
theorem dX8_text_93 : decode cX8_text 93 = .ok (.iconst (-1), 1) := by decide +kernel
theorem dX8_text_94 : decode cX8_text 94 = .ok (.aload_n 0, 1) := by decide +kernel
theorem dX8_text_95 : decode cX8_text 95 = .ok (.getfield 61, 3) := by decide +kernel
theorem dX8_text_98 : decode cX8_text 98 = .ok (.isub, 1) := by decide +kernel
theorem dX8_text_99 : decode cX8_text 99 = .ok (.ireturn, 1) := by decide +kernel
theorem dX8_text_100 : decode cX8_text 100 = .ok (.iinc 1 1, 3) := by decide +kernel
theorem dX8_text_103 : decode cX8_text 103 = .ok (.goto (-40), 3) := by decide +kernel
theorem dX8_text_106 : decode cX8_text 106 = .ok (.iconst 0, 1) := by decide +kernel
theorem dX8_text_107 : decode cX8_text 107 = .ok (.istore_n 2, 1) := by decide +kernel
theorem dX8_text_108 : decode cX8_text 108 = .ok (.iload_n 2, 1) := by decide +kernel
theorem dX8_text_109 : decode cX8_text 109 = .ok (.sipush 157, 3) := by decide +kernel
theorem dX8_text_112 : decode cX8_text 112 = .ok (.if_icmp .ge 21, 3) := by decide +kernel
theorem dX8_text_115 : decode cX8_text 115 = .ok (.aload_n 0, 1) := by decide +kernel
theorem dX8_text_116 : decode cX8_text 116 = .ok (.getfield 70, 3) := by decide +kernel
theorem dX8_text_119 : decode cX8_text 119 = .ok (.iload_n 2, 1) := by decide +kernel
theorem dX8_text_120 : decode cX8_text 120 = .ok (.aload_n 0, 1) := by decide +kernel
theorem dX8_text_121 : decode cX8_text 121 = .ok (.getfield 73, 3) := by decide +kernel
theorem dX8_text_124 : decode cX8_text 124 = .ok (.iload_n 2, 1) := by decide +kernel
theorem dX8_text_125 : decode cX8_text 125 = .ok (.iaload, 1) := by decide +kernel
theorem dX8_text_126 : decode cX8_text 126 = .ok (.iastore, 1) := by decide +kernel
theorem dX8_text_127 : decode cX8_text 127 = .ok (.iinc 2 1, 3) := by decide +kernel
theorem dX8_text_130 : decode cX8_text 130 = .ok (.goto (-22), 3) := by decide +kernel
theorem dX8_text_133 : decode cX8_text 133 = .ok (.aload_n 0, 1) := by decide +kernel
theorem dX8_text_134 : decode cX8_text 134 = .ok (.iconst 0, 1) := by decide +kernel
theorem dX8_text_135 : decode cX8_text 135 = .ok (.putfield 173, 3) := by decide +kernel
theorem dX8_text_138 : decode cX8_text 138 = .ok (.iload_n 1, 1) := by decide +kernel
theorem dX8_text_139 : decode cX8_text 139 = .ok (.ireturn, 1) := by decide +kernel
theorem dX8_fault_0 : decode cX8_fault 0 = .ok (.aload_n 0, 1) := by decide +kernel
theorem dX8_fault_1 : decode cX8_fault 1 = .ok (.iconst 0, 1) := by decide +kernel
theorem dX8_fault_2 : decode cX8_fault 2 = .ok (.putfield 1, 3) := by decide +kernel
theorem dX8_fault_5 : decode cX8_fault 5 = .ok (.aload_n 0, 1) := by decide +kernel
theorem dX8_fault_6 : decode cX8_fault 6 = .ok (.getfield 58, 3) := by decide +kernel
theorem dX8_fault_9 : decode cX8_fault 9 = .ok (.ireturn, 1) := by decide +kernel
theorem dX8_isHold_0 : decode cX8_isHold 0 = .ok (.iload_n 1, 1) := by decide +kernel
theorem dX8_isHold_1 : decode cX8_isHold 1 = .ok (.iconst 0, 1) := by decide +kernel
theorem dX8_isHold_2 : decode cX8_isHold 2 = .ok (.aload_n 0, 1) := by decide +kernel
theorem dX8_isHold_3 : decode cX8_isHold 3 = .ok (.getfield 70, 3) := by decide +kernel
theorem dX8_isHold_6 : decode cX8_isHold 6 = .ok (.bipush 9, 2) := by decide +kernel
theorem dX8_isHold_8 : decode cX8_isHold 8 = .ok (.iaload, 1) := by decide +kernel
theorem dX8_isHold_9 : decode cX8_isHold 9 = .ok (.iconst 1, 1) := by decide +kernel
theorem dX8_isHold_10 : decode cX8_isHold 10 = .ok (.isub, 1) := by decide +kernel
theorem dX8_isHold_11 : decode cX8_isHold 11 = .ok (.invokestatic 109, 3) := by decide +kernel
theorem dX8_isHold_14 : decode cX8_isHold 14 = .ok (.ireturn, 1) := by decide +kernel
theorem dX8_isLiquid_0 : decode cX8_isLiquid 0 = .ok (.iload_n 1, 1) := by decide +kernel
theorem dX8_isLiquid_1 : decode cX8_isLiquid 1 = .ok (.iconst 0, 1) := by decide +kernel
theorem dX8_isLiquid_2 : decode cX8_isLiquid 2 = .ok (.aload_n 0, 1) := by decide +kernel
theorem dX8_isLiquid_3 : decode cX8_isLiquid 3 = .ok (.getfield 70, 3) := by decide +kernel
theorem dX8_isLiquid_6 : decode cX8_isLiquid 6 = .ok (.bipush 10, 2) := by decide +kernel
theorem dX8_isLiquid_8 : decode cX8_isLiquid 8 = .ok (.iaload, 1) := by decide +kernel
theorem dX8_isLiquid_9 : decode cX8_isLiquid 9 = .ok (.iconst 1, 1) := by decide +kernel
theorem dX8_isLiquid_10 : decode cX8_isLiquid 10 = .ok (.isub, 1) := by decide +kernel
theorem dX8_isLiquid_11 : decode cX8_isLiquid 11 = .ok (.invokestatic 109, 3) := by decide +kernel
theorem dX8_isLiquid_14 : decode cX8_isLiquid 14 = .ok (.ireturn, 1) := by decide +kernel
theorem dX8_isDrop_0 : decode cX8_isDrop 0 = .ok (.iload_n 1, 1) := by decide +kernel
theorem dX8_isDrop_1 : decode cX8_isDrop 1 = .ok (.iconst 0, 1) := by decide +kernel
theorem dX8_isDrop_2 : decode cX8_isDrop 2 = .ok (.aload_n 0, 1) := by decide +kernel
theorem dX8_isDrop_3 : decode cX8_isDrop 3 = .ok (.getfield 70, 3) := by decide +kernel
theorem dX8_isDrop_6 : decode cX8_isDrop 6 = .ok (.bipush 13, 2) := by decide +kernel
theorem dX8_isDrop_8 : decode cX8_isDrop 8 = .ok (.iaload, 1) := by decide +kernel
theorem dX8_isDrop_9 : decode cX8_isDrop 9 = .ok (.iconst 1, 1) := by decide +kernel
theorem dX8_isDrop_10 : decode cX8_isDrop 10 = .ok (.isub, 1) := by decide +kernel
theorem dX8_isDrop_11 : decode cX8_isDrop 11 = .ok (.invokestatic 109, 3) := by decide +kernel
theorem dX8_isDrop_14 : decode cX8_isDrop 14 = .ok (.ireturn, 1) := by decide +kernel
theorem dX8_holds_0 : decode cX8_holds 0 = .ok (.aload_n 0, 1) := by decide +kernel
theorem dX8_holds_1 : decode cX8_holds 1 = .ok (.getfield 70, 3) := by decide +kernel
theorem dX8_holds_4 : decode cX8_holds 4 = .ok (.bipush 27, 2) := by decide +kernel
theorem dX8_holds_6 : decode cX8_holds 6 = .ok (.bipush 6, 2) := by decide +kernel
theorem dX8_holds_8 : decode cX8_holds 8 = .ok (.iload_n 1, 1) := by decide +kernel
theorem dX8_holds_9 : decode cX8_holds 9 = .ok (.imul, 1) := by decide +kernel
theorem dX8_holds_10 : decode cX8_holds 10 = .ok (.iadd, 1) := by decide +kernel
theorem dX8_holds_11 : decode cX8_holds 11 = .ok (.iload_n 2, 1) := by decide +kernel
theorem dX8_holds_12 : decode cX8_holds 12 = .ok (.iadd, 1) := by decide +kernel
theorem dX8_holds_13 : decode cX8_holds 13 = .ok (.iaload, 1) := by decide +kernel
theorem dX8_holds_14 : decode cX8_holds 14 = .ok (.ireturn, 1) := by decide +kernel
theorem dX8_its_0 : decode cX8_its 0 = .ok (.aload_n 0, 1) := by decide +kernel
theorem dX8_its_1 : decode cX8_its 1 = .ok (.getfield 70, 3) := by decide +kernel
theorem dX8_its_4 : decode cX8_its 4 = .ok (.bipush 57, 2) := by decide +kernel
theorem dX8_its_6 : decode cX8_its 6 = .ok (.iconst 5, 1) := by decide +kernel
theorem dX8_its_7 : decode cX8_its 7 = .ok (.iload_n 1, 1) := by decide +kernel
theorem dX8_its_8 : decode cX8_its 8 = .ok (.imul, 1) := by decide +kernel
theorem dX8_its_9 : decode cX8_its 9 = .ok (.iadd, 1) := by decide +kernel
theorem dX8_its_10 : decode cX8_its 10 = .ok (.iload_n 2, 1) := by decide +kernel
theorem dX8_its_11 : decode cX8_its 11 = .ok (.iadd, 1) := by decide +kernel
theorem dX8_its_12 : decode cX8_its 12 = .ok (.iaload, 1) := by decide +kernel
theorem dX8_its_13 : decode cX8_its 13 = .ok (.ireturn, 1) := by decide +kernel
theorem dX8_top_0 : decode cX8_top 0 = .ok (.aload_n 0, 1) := by decide +kernel
theorem dX8_top_1 : decode cX8_top 1 = .ok (.iload_n 1, 1) := by decide +kernel
theorem dX8_top_2 : decode cX8_top 2 = .ok (.iconst 0, 1) := by decide +kernel
theorem dX8_top_3 : decode cX8_top 3 = .ok (.invokevirtual 176, 3) := by decide +kernel
theorem dX8_top_6 : decode cX8_top 6 = .ok (.aload_n 0, 1) := by decide +kernel
theorem dX8_top_7 : decode cX8_top 7 = .ok (.getfield 70, 3) := by decide +kernel
theorem dX8_top_10 : decode cX8_top 10 = .ok (.bipush 6, 2) := by decide +kernel
theorem dX8_top_12 : decode cX8_top 12 = .ok (.iaload, 1) := by decide +kernel
theorem dX8_top_13 : decode cX8_top 13 = .ok (.imul, 1) := by decide +kernel
theorem dX8_top_14 : decode cX8_top 14 = .ok (.bipush 100, 2) := by decide +kernel
theorem dX8_top_16 : decode cX8_top 16 = .ok (.idiv, 1) := by decide +kernel
theorem dX8_top_17 : decode cX8_top 17 = .ok (.ireturn, 1) := by decide +kernel
theorem dX8_lastIn_0 : decode cX8_lastIn 0 = .ok (.aload_n 0, 1) := by decide +kernel
theorem dX8_lastIn_1 : decode cX8_lastIn 1 = .ok (.iload_n 1, 1) := by decide +kernel
theorem dX8_lastIn_2 : decode cX8_lastIn 2 = .ok (.iconst 4, 1) := by decide +kernel
theorem dX8_lastIn_3 : decode cX8_lastIn 3 = .ok (.invokevirtual 176, 3) := by decide +kernel
theorem dX8_lastIn_6 : decode cX8_lastIn 6 = .ok (.ifCond .le 19, 3) := by decide +kernel
theorem dX8_lastIn_9 : decode cX8_lastIn 9 = .ok (.aload_n 0, 1) := by decide +kernel
theorem dX8_lastIn_10 : decode cX8_lastIn 10 = .ok (.aload_n 0, 1) := by decide +kernel
theorem dX8_lastIn_11 : decode cX8_lastIn 11 = .ok (.iload_n 1, 1) := by decide +kernel
theorem dX8_lastIn_12 : decode cX8_lastIn 12 = .ok (.iconst 4, 1) := by decide +kernel
theorem dX8_lastIn_13 : decode cX8_lastIn 13 = .ok (.invokevirtual 176, 3) := by decide +kernel
theorem dX8_lastIn_16 : decode cX8_lastIn 16 = .ok (.iconst 1, 1) := by decide +kernel
theorem dX8_lastIn_17 : decode cX8_lastIn 17 = .ok (.isub, 1) := by decide +kernel
theorem dX8_lastIn_18 : decode cX8_lastIn 18 = .ok (.iconst 0, 1) := by decide +kernel
theorem dX8_lastIn_19 : decode cX8_lastIn 19 = .ok (.invokevirtual 180, 3) := by decide +kernel
theorem dX8_lastIn_22 : decode cX8_lastIn 22 = .ok (.goto 11, 3) := by decide +kernel
theorem dX8_lastIn_25 : decode cX8_lastIn 25 = .ok (.aload_n 0, 1) := by decide +kernel
theorem dX8_lastIn_26 : decode cX8_lastIn 26 = .ok (.iload_n 1, 1) := by decide +kernel
theorem dX8_lastIn_27 : decode cX8_lastIn 27 = .ok (.iconst 5, 1) := by decide +kernel
theorem dX8_lastIn_28 : decode cX8_lastIn 28 = .ok (.invokevirtual 176, 3) := by decide +kernel
theorem dX8_lastIn_31 : decode cX8_lastIn 31 = .ok (.iconst 1, 1) := by decide +kernel
theorem dX8_lastIn_32 : decode cX8_lastIn 32 = .ok (.isub, 1) := by decide +kernel
theorem dX8_lastIn_33 : decode cX8_lastIn 33 = .ok (.ireturn, 1) := by decide +kernel
theorem dX8_mayCome_0 : decode cX8_mayCome 0 = .ok (.iload_n 3, 1) := by decide +kernel
theorem dX8_mayCome_1 : decode cX8_mayCome 1 = .ok (.iload_n 1, 1) := by decide +kernel
theorem dX8_mayCome_2 : decode cX8_mayCome 2 = .ok (.invokestatic 183, 3) := by decide +kernel
theorem dX8_mayCome_5 : decode cX8_mayCome 5 = .ok (.ifCond .ne 32, 3) := by decide +kernel
theorem dX8_mayCome_8 : decode cX8_mayCome 8 = .ok (.aload_n 0, 1) := by decide +kernel
theorem dX8_mayCome_9 : decode cX8_mayCome 9 = .ok (.iload_n 1, 1) := by decide +kernel
theorem dX8_mayCome_10 : decode cX8_mayCome 10 = .ok (.invokevirtual 187, 3) := by decide +kernel
theorem dX8_mayCome_13 : decode cX8_mayCome 13 = .ok (.iconst (-1), 1) := by decide +kernel
theorem dX8_mayCome_14 : decode cX8_mayCome 14 = .ok (.if_icmp .eq 23, 3) := by decide +kernel
theorem dX8_mayCome_17 : decode cX8_mayCome 17 = .ok (.aload_n 0, 1) := by decide +kernel
theorem dX8_mayCome_18 : decode cX8_mayCome 18 = .ok (.getfield 70, 3) := by decide +kernel
theorem dX8_mayCome_21 : decode cX8_mayCome 21 = .ok (.bipush 21, 2) := by decide +kernel
theorem dX8_mayCome_23 : decode cX8_mayCome 23 = .ok (.aload_n 0, 1) := by decide +kernel
theorem dX8_mayCome_24 : decode cX8_mayCome 24 = .ok (.iload_n 1, 1) := by decide +kernel
theorem dX8_mayCome_25 : decode cX8_mayCome 25 = .ok (.invokevirtual 187, 3) := by decide +kernel
theorem dX8_mayCome_28 : decode cX8_mayCome 28 = .ok (.iadd, 1) := by decide +kernel
theorem dX8_mayCome_29 : decode cX8_mayCome 29 = .ok (.iaload, 1) := by decide +kernel
theorem dX8_mayCome_30 : decode cX8_mayCome 30 = .ok (.iload_n 2, 1) := by decide +kernel
theorem dX8_mayCome_31 : decode cX8_mayCome 31 = .ok (.invokestatic 183, 3) := by decide +kernel
theorem dX8_mayCome_34 : decode cX8_mayCome 34 = .ok (.ifCond .ne 7, 3) := by decide +kernel
theorem dX8_mayCome_37 : decode cX8_mayCome 37 = .ok (.iconst 1, 1) := by decide +kernel
theorem dX8_mayCome_38 : decode cX8_mayCome 38 = .ok (.goto 4, 3) := by decide +kernel
theorem dX8_mayCome_41 : decode cX8_mayCome 41 = .ok (.iconst 0, 1) := by decide +kernel
theorem dX8_mayCome_42 : decode cX8_mayCome 42 = .ok (.ireturn, 1) := by decide +kernel
theorem dX8_loadedOf_0 : decode cX8_loadedOf 0 = .ok (.iconst 0, 1) := by decide +kernel
theorem dX8_loadedOf_1 : decode cX8_loadedOf 1 = .ok (.istore_n 2, 1) := by decide +kernel
theorem dX8_loadedOf_2 : decode cX8_loadedOf 2 = .ok (.iconst 0, 1) := by decide +kernel
theorem dX8_loadedOf_3 : decode cX8_loadedOf 3 = .ok (.istore_n 3, 1) := by decide +kernel
theorem dX8_loadedOf_4 : decode cX8_loadedOf 4 = .ok (.iload_n 3, 1) := by decide +kernel
theorem dX8_loadedOf_5 : decode cX8_loadedOf 5 = .ok (.aload_n 0, 1) := by decide +kernel
theorem dX8_loadedOf_6 : decode cX8_loadedOf 6 = .ok (.getfield 70, 3) := by decide +kernel
theorem dX8_loadedOf_9 : decode cX8_loadedOf 9 = .ok (.bipush 9, 2) := by decide +kernel
theorem dX8_loadedOf_11 : decode cX8_loadedOf 11 = .ok (.iaload, 1) := by decide +kernel
theorem dX8_loadedOf_12 : decode cX8_loadedOf 12 = .ok (.if_icmp .ge 30, 3) := by decide +kernel
theorem dX8_loadedOf_15 : decode cX8_loadedOf 15 = .ok (.aload_n 0, 1) := by decide +kernel
theorem dX8_loadedOf_16 : decode cX8_loadedOf 16 = .ok (.iload_n 3, 1) := by decide +kernel
theorem dX8_loadedOf_17 : decode cX8_loadedOf 17 = .ok (.iconst 4, 1) := by decide +kernel
theorem dX8_loadedOf_18 : decode cX8_loadedOf 18 = .ok (.invokevirtual 176, 3) := by decide +kernel
theorem dX8_loadedOf_21 : decode cX8_loadedOf 21 = .ok (.iload_n 1, 1) := by decide +kernel
theorem dX8_loadedOf_22 : decode cX8_loadedOf 22 = .ok (.iconst 1, 1) := by decide +kernel
theorem dX8_loadedOf_23 : decode cX8_loadedOf 23 = .ok (.iadd, 1) := by decide +kernel
theorem dX8_loadedOf_24 : decode cX8_loadedOf 24 = .ok (.if_icmp .ne 12, 3) := by decide +kernel
theorem dX8_loadedOf_27 : decode cX8_loadedOf 27 = .ok (.iload_n 2, 1) := by decide +kernel
theorem dX8_loadedOf_28 : decode cX8_loadedOf 28 = .ok (.aload_n 0, 1) := by decide +kernel
theorem dX8_loadedOf_29 : decode cX8_loadedOf 29 = .ok (.iload_n 3, 1) := by decide +kernel
theorem dX8_loadedOf_30 : decode cX8_loadedOf 30 = .ok (.iconst 3, 1) := by decide +kernel
theorem dX8_loadedOf_31 : decode cX8_loadedOf 31 = .ok (.invokevirtual 176, 3) := by decide +kernel
theorem dX8_loadedOf_34 : decode cX8_loadedOf 34 = .ok (.iadd, 1) := by decide +kernel
theorem dX8_loadedOf_35 : decode cX8_loadedOf 35 = .ok (.istore_n 2, 1) := by decide +kernel
theorem dX8_loadedOf_36 : decode cX8_loadedOf 36 = .ok (.iinc 3 1, 3) := by decide +kernel
theorem dX8_loadedOf_39 : decode cX8_loadedOf 39 = .ok (.goto (-35), 3) := by decide +kernel
theorem dX8_loadedOf_42 : decode cX8_loadedOf 42 = .ok (.iload_n 2, 1) := by decide +kernel
theorem dX8_loadedOf_43 : decode cX8_loadedOf 43 = .ok (.ireturn, 1) := by decide +kernel
theorem dX8_having_0 : decode cX8_having 0 = .ok (.iconst 0, 1) := by decide +kernel
theorem dX8_having_1 : decode cX8_having 1 = .ok (.istore_n 2, 1) := by decide +kernel
theorem dX8_having_2 : decode cX8_having 2 = .ok (.iconst 0, 1) := by decide +kernel
theorem dX8_having_3 : decode cX8_having 3 = .ok (.istore_n 3, 1) := by decide +kernel
theorem dX8_having_4 : decode cX8_having 4 = .ok (.iload_n 3, 1) := by decide +kernel
theorem dX8_having_5 : decode cX8_having 5 = .ok (.aload_n 0, 1) := by decide +kernel
theorem dX8_having_6 : decode cX8_having 6 = .ok (.getfield 70, 3) := by decide +kernel
theorem dX8_having_9 : decode cX8_having 9 = .ok (.bipush 13, 2) := by decide +kernel
theorem dX8_having_11 : decode cX8_having 11 = .ok (.iaload, 1) := by decide +kernel
theorem dX8_having_12 : decode cX8_having 12 = .ok (.if_icmp .ge 22, 3) := by decide +kernel
theorem dX8_having_15 : decode cX8_having 15 = .ok (.aload_n 0, 1) := by decide +kernel
theorem dX8_having_16 : decode cX8_having 16 = .ok (.iload_n 3, 1) := by decide +kernel
theorem dX8_having_17 : decode cX8_having 17 = .ok (.iconst 2, 1) := by decide +kernel
theorem dX8_having_18 : decode cX8_having 18 = .ok (.invokevirtual 180, 3) := by decide +kernel
theorem dX8_having_21 : decode cX8_having 21 = .ok (.iload_n 1, 1) := by decide +kernel
theorem dX8_having_22 : decode cX8_having 22 = .ok (.if_icmp .ne 6, 3) := by decide +kernel
theorem dX8_having_25 : decode cX8_having 25 = .ok (.iinc 2 1, 3) := by decide +kernel
theorem dX8_having_28 : decode cX8_having 28 = .ok (.iinc 3 1, 3) := by decide +kernel
theorem dX8_having_31 : decode cX8_having 31 = .ok (.goto (-27), 3) := by decide +kernel
theorem dX8_having_34 : decode cX8_having 34 = .ok (.iload_n 2, 1) := by decide +kernel
theorem dX8_having_35 : decode cX8_having 35 = .ok (.ireturn, 1) := by decide +kernel
theorem dX8_laysNow_0 : decode cX8_laysNow 0 = .ok (.iconst 0, 1) := by decide +kernel
theorem dX8_laysNow_1 : decode cX8_laysNow 1 = .ok (.istore_n 1, 1) := by decide +kernel
theorem dX8_laysNow_2 : decode cX8_laysNow 2 = .ok (.iload_n 1, 1) := by decide +kernel
theorem dX8_laysNow_3 : decode cX8_laysNow 3 = .ok (.aload_n 0, 1) := by decide +kernel
theorem dX8_laysNow_4 : decode cX8_laysNow 4 = .ok (.getfield 70, 3) := by decide +kernel
theorem dX8_laysNow_7 : decode cX8_laysNow 7 = .ok (.bipush 9, 2) := by decide +kernel
theorem dX8_laysNow_9 : decode cX8_laysNow 9 = .ok (.iaload, 1) := by decide +kernel
theorem dX8_laysNow_10 : decode cX8_laysNow 10 = .ok (.if_icmp .ge 66, 3) := by decide +kernel
theorem dX8_laysNow_13 : decode cX8_laysNow 13 = .ok (.aload_n 0, 1) := by decide +kernel
theorem dX8_laysNow_14 : decode cX8_laysNow 14 = .ok (.getfield 79, 3) := by decide +kernel
theorem dX8_laysNow_17 : decode cX8_laysNow 17 = .ok (.iload_n 1, 1) := by decide +kernel
theorem dX8_laysNow_18 : decode cX8_laysNow 18 = .ok (.aload_n 0, 1) := by decide +kernel
theorem dX8_laysNow_19 : decode cX8_laysNow 19 = .ok (.iload_n 1, 1) := by decide +kernel
theorem dX8_laysNow_20 : decode cX8_laysNow 20 = .ok (.iconst 3, 1) := by decide +kernel
theorem dX8_laysNow_21 : decode cX8_laysNow 21 = .ok (.invokevirtual 176, 3) := by decide +kernel
theorem dX8_laysNow_24 : decode cX8_laysNow 24 = .ok (.iastore, 1) := by decide +kernel
theorem dX8_laysNow_25 : decode cX8_laysNow 25 = .ok (.aload_n 0, 1) := by decide +kernel
theorem dX8_laysNow_26 : decode cX8_laysNow 26 = .ok (.getfield 85, 3) := by decide +kernel
theorem dX8_laysNow_29 : decode cX8_laysNow 29 = .ok (.iload_n 1, 1) := by decide +kernel
theorem dX8_laysNow_30 : decode cX8_laysNow 30 = .ok (.aload_n 0, 1) := by decide +kernel
theorem dX8_laysNow_31 : decode cX8_laysNow 31 = .ok (.iload_n 1, 1) := by decide +kernel
theorem dX8_laysNow_32 : decode cX8_laysNow 32 = .ok (.iconst 4, 1) := by decide +kernel
theorem dX8_laysNow_33 : decode cX8_laysNow 33 = .ok (.invokevirtual 176, 3) := by decide +kernel
theorem dX8_laysNow_36 : decode cX8_laysNow 36 = .ok (.iconst 1, 1) := by decide +kernel
theorem dX8_laysNow_37 : decode cX8_laysNow 37 = .ok (.isub, 1) := by decide +kernel
theorem dX8_laysNow_38 : decode cX8_laysNow 38 = .ok (.iastore, 1) := by decide +kernel
theorem dX8_laysNow_39 : decode cX8_laysNow 39 = .ok (.aload_n 0, 1) := by decide +kernel
theorem dX8_laysNow_40 : decode cX8_laysNow 40 = .ok (.getfield 82, 3) := by decide +kernel
theorem dX8_laysNow_43 : decode cX8_laysNow 43 = .ok (.iload_n 1, 1) := by decide +kernel
theorem dX8_laysNow_44 : decode cX8_laysNow 44 = .ok (.aload_n 0, 1) := by decide +kernel
theorem dX8_laysNow_45 : decode cX8_laysNow 45 = .ok (.getfield 85, 3) := by decide +kernel
theorem dX8_laysNow_48 : decode cX8_laysNow 48 = .ok (.iload_n 1, 1) := by decide +kernel
theorem dX8_laysNow_49 : decode cX8_laysNow 49 = .ok (.iaload, 1) := by decide +kernel
theorem dX8_laysNow_50 : decode cX8_laysNow 50 = .ok (.iconst (-1), 1) := by decide +kernel
theorem dX8_laysNow_51 : decode cX8_laysNow 51 = .ok (.if_icmp .ne 7, 3) := by decide +kernel
theorem dX8_laysNow_54 : decode cX8_laysNow 54 = .ok (.iconst 0, 1) := by decide +kernel
theorem dX8_laysNow_55 : decode cX8_laysNow 55 = .ok (.goto 14, 3) := by decide +kernel
theorem dX8_laysNow_58 : decode cX8_laysNow 58 = .ok (.aload_n 0, 1) := by decide +kernel
theorem dX8_laysNow_59 : decode cX8_laysNow 59 = .ok (.aload_n 0, 1) := by decide +kernel
theorem dX8_laysNow_60 : decode cX8_laysNow 60 = .ok (.getfield 85, 3) := by decide +kernel
theorem dX8_laysNow_63 : decode cX8_laysNow 63 = .ok (.iload_n 1, 1) := by decide +kernel
theorem dX8_laysNow_64 : decode cX8_laysNow 64 = .ok (.iaload, 1) := by decide +kernel
theorem dX8_laysNow_65 : decode cX8_laysNow 65 = .ok (.iconst 0, 1) := by decide +kernel
theorem dX8_laysNow_66 : decode cX8_laysNow 66 = .ok (.invokevirtual 180, 3) := by decide +kernel
theorem dX8_laysNow_69 : decode cX8_laysNow 69 = .ok (.iastore, 1) := by decide +kernel
theorem dX8_laysNow_70 : decode cX8_laysNow 70 = .ok (.iinc 1 1, 3) := by decide +kernel
theorem dX8_laysNow_73 : decode cX8_laysNow 73 = .ok (.goto (-71), 3) := by decide +kernel
theorem dX8_laysNow_76 : decode cX8_laysNow 76 = .ok (.return_, 1) := by decide +kernel
theorem dX8_muchBut_0 : decode cX8_muchBut 0 = .ok (.aload_n 0, 1) := by decide +kernel
theorem dX8_muchBut_1 : decode cX8_muchBut 1 = .ok (.getfield 85, 3) := by decide +kernel
theorem dX8_muchBut_4 : decode cX8_muchBut 4 = .ok (.iload_n 1, 1) := by decide +kernel
theorem dX8_muchBut_5 : decode cX8_muchBut 5 = .ok (.iaload, 1) := by decide +kernel
theorem dX8_muchBut_6 : decode cX8_muchBut 6 = .ok (.iconst (-1), 1) := by decide +kernel
theorem dX8_muchBut_7 : decode cX8_muchBut 7 = .ok (.if_icmp .eq 20, 3) := by decide +kernel
theorem dX8_muchBut_10 : decode cX8_muchBut 10 = .ok (.iload_n 2, 1) := by decide +kernel
theorem dX8_muchBut_11 : decode cX8_muchBut 11 = .ok (.aload_n 0, 1) := by decide +kernel
theorem dX8_muchBut_12 : decode cX8_muchBut 12 = .ok (.getfield 85, 3) := by decide +kernel
theorem dX8_muchBut_15 : decode cX8_muchBut 15 = .ok (.iload_n 1, 1) := by decide +kernel
theorem dX8_muchBut_16 : decode cX8_muchBut 16 = .ok (.iaload, 1) := by decide +kernel
theorem dX8_muchBut_17 : decode cX8_muchBut 17 = .ok (.invokestatic 183, 3) := by decide +kernel
theorem dX8_muchBut_20 : decode cX8_muchBut 20 = .ok (.ifCond .eq 7, 3) := by decide +kernel
theorem dX8_muchBut_23 : decode cX8_muchBut 23 = .ok (.iconst 0, 1) := by decide +kernel
theorem dX8_muchBut_24 : decode cX8_muchBut 24 = .ok (.goto 9, 3) := by decide +kernel
theorem dX8_muchBut_27 : decode cX8_muchBut 27 = .ok (.aload_n 0, 1) := by decide +kernel
theorem dX8_muchBut_28 : decode cX8_muchBut 28 = .ok (.getfield 79, 3) := by decide +kernel
theorem dX8_muchBut_31 : decode cX8_muchBut 31 = .ok (.iload_n 1, 1) := by decide +kernel
theorem dX8_muchBut_32 : decode cX8_muchBut 32 = .ok (.iaload, 1) := by decide +kernel
theorem dX8_muchBut_33 : decode cX8_muchBut 33 = .ok (.ireturn, 1) := by decide +kernel
theorem dX8_front_0 : decode cX8_front 0 = .ok (.aload_n 0, 1) := by decide +kernel
theorem dX8_front_1 : decode cX8_front 1 = .ok (.getfield 70, 3) := by decide +kernel
theorem dX8_front_4 : decode cX8_front 4 = .ok (.iconst 1, 1) := by decide +kernel
theorem dX8_front_5 : decode cX8_front 5 = .ok (.iaload, 1) := by decide +kernel
theorem dX8_front_6 : decode cX8_front 6 = .ok (.aload_n 0, 1) := by decide +kernel
theorem dX8_front_7 : decode cX8_front 7 = .ok (.getfield 70, 3) := by decide +kernel
theorem dX8_front_10 : decode cX8_front 10 = .ok (.iconst 0, 1) := by decide +kernel
theorem dX8_front_11 : decode cX8_front 11 = .ok (.iaload, 1) := by decide +kernel
theorem dX8_front_12 : decode cX8_front 12 = .ok (.imul, 1) := by decide +kernel
theorem dX8_front_13 : decode cX8_front 13 = .ok (.istore_n 2, 1) := by decide +kernel
theorem dX8_front_14 : decode cX8_front 14 = .ok (.iconst 0, 1) := by decide +kernel
theorem dX8_front_15 : decode cX8_front 15 = .ok (.istore_n 3, 1) := by decide +kernel
theorem dX8_front_16 : decode cX8_front 16 = .ok (.iload_n 3, 1) := by decide +kernel
theorem dX8_front_17 : decode cX8_front 17 = .ok (.aload_n 0, 1) := by decide +kernel
theorem dX8_front_18 : decode cX8_front 18 = .ok (.getfield 70, 3) := by decide +kernel
theorem dX8_front_21 : decode cX8_front 21 = .ok (.bipush 9, 2) := by decide +kernel
theorem dX8_front_23 : decode cX8_front 23 = .ok (.iaload, 1) := by decide +kernel
theorem dX8_front_24 : decode cX8_front 24 = .ok (.if_icmp .ge 47, 3) := by decide +kernel
theorem dX8_front_27 : decode cX8_front 27 = .ok (.iload_n 2, 1) := by decide +kernel
theorem dX8_front_28 : decode cX8_front 28 = .ok (.aload_n 0, 1) := by decide +kernel
theorem dX8_front_29 : decode cX8_front 29 = .ok (.iload_n 3, 1) := by decide +kernel
theorem dX8_front_30 : decode cX8_front 30 = .ok (.iload_n 1, 1) := by decide +kernel
theorem dX8_front_31 : decode cX8_front 31 = .ok (.invokevirtual 190, 3) := by decide +kernel
theorem dX8_front_34 : decode cX8_front 34 = .ok (.aload_n 0, 1) := by decide +kernel
theorem dX8_front_35 : decode cX8_front 35 = .ok (.getfield 70, 3) := by decide +kernel
theorem dX8_front_38 : decode cX8_front 38 = .ok (.bipush 15, 2) := by decide +kernel
theorem dX8_front_40 : decode cX8_front 40 = .ok (.aload_n 0, 1) := by decide +kernel
theorem dX8_front_41 : decode cX8_front 41 = .ok (.getfield 82, 3) := by decide +kernel
theorem dX8_front_44 : decode cX8_front 44 = .ok (.iload_n 3, 1) := by decide +kernel
theorem dX8_front_45 : decode cX8_front 45 = .ok (.iaload, 1) := by decide +kernel
theorem dX8_front_46 : decode cX8_front 46 = .ok (.iadd, 1) := by decide +kernel
theorem dX8_front_47 : decode cX8_front 47 = .ok (.iaload, 1) := by decide +kernel
theorem dX8_front_48 : decode cX8_front 48 = .ok (.imul, 1) := by decide +kernel
theorem dX8_front_49 : decode cX8_front 49 = .ok (.aload_n 0, 1) := by decide +kernel
theorem dX8_front_50 : decode cX8_front 50 = .ok (.getfield 70, 3) := by decide +kernel
theorem dX8_front_53 : decode cX8_front 53 = .ok (.iconst 0, 1) := by decide +kernel
theorem dX8_front_54 : decode cX8_front 54 = .ok (.iaload, 1) := by decide +kernel
theorem dX8_front_55 : decode cX8_front 55 = .ok (.aload_n 0, 1) := by decide +kernel
theorem dX8_front_56 : decode cX8_front 56 = .ok (.iload_n 3, 1) := by decide +kernel
theorem dX8_front_57 : decode cX8_front 57 = .ok (.iconst 1, 1) := by decide +kernel
theorem dX8_front_58 : decode cX8_front 58 = .ok (.invokevirtual 176, 3) := by decide +kernel
theorem dX8_front_61 : decode cX8_front 61 = .ok (.isub, 1) := by decide +kernel
theorem dX8_front_62 : decode cX8_front 62 = .ok (.imul, 1) := by decide +kernel
theorem dX8_front_63 : decode cX8_front 63 = .ok (.iadd, 1) := by decide +kernel
theorem dX8_front_64 : decode cX8_front 64 = .ok (.istore_n 2, 1) := by decide +kernel
theorem dX8_front_65 : decode cX8_front 65 = .ok (.iinc 3 1, 3) := by decide +kernel
theorem dX8_front_68 : decode cX8_front 68 = .ok (.goto (-52), 3) := by decide +kernel
theorem dX8_front_71 : decode cX8_front 71 = .ok (.iload_n 2, 1) := by decide +kernel
theorem dX8_front_72 : decode cX8_front 72 = .ok (.ireturn, 1) := by decide +kernel
theorem dX8_rear_0 : decode cX8_rear 0 = .ok (.aload_n 0, 1) := by decide +kernel
theorem dX8_rear_1 : decode cX8_rear 1 = .ok (.getfield 70, 3) := by decide +kernel
theorem dX8_rear_4 : decode cX8_rear 4 = .ok (.iconst 2, 1) := by decide +kernel
theorem dX8_rear_5 : decode cX8_rear 5 = .ok (.iaload, 1) := by decide +kernel
theorem dX8_rear_6 : decode cX8_rear 6 = .ok (.aload_n 0, 1) := by decide +kernel
theorem dX8_rear_7 : decode cX8_rear 7 = .ok (.getfield 70, 3) := by decide +kernel
theorem dX8_rear_10 : decode cX8_rear 10 = .ok (.iconst 0, 1) := by decide +kernel
theorem dX8_rear_11 : decode cX8_rear 11 = .ok (.iaload, 1) := by decide +kernel
theorem dX8_rear_12 : decode cX8_rear 12 = .ok (.imul, 1) := by decide +kernel
theorem dX8_rear_13 : decode cX8_rear 13 = .ok (.istore_n 2, 1) := by decide +kernel
theorem dX8_rear_14 : decode cX8_rear 14 = .ok (.iconst 0, 1) := by decide +kernel
theorem dX8_rear_15 : decode cX8_rear 15 = .ok (.istore_n 3, 1) := by decide +kernel
theorem dX8_rear_16 : decode cX8_rear 16 = .ok (.iload_n 3, 1) := by decide +kernel
theorem dX8_rear_17 : decode cX8_rear 17 = .ok (.aload_n 0, 1) := by decide +kernel
theorem dX8_rear_18 : decode cX8_rear 18 = .ok (.getfield 70, 3) := by decide +kernel
theorem dX8_rear_21 : decode cX8_rear 21 = .ok (.bipush 9, 2) := by decide +kernel
theorem dX8_rear_23 : decode cX8_rear 23 = .ok (.iaload, 1) := by decide +kernel
theorem dX8_rear_24 : decode cX8_rear 24 = .ok (.if_icmp .ge 40, 3) := by decide +kernel
theorem dX8_rear_27 : decode cX8_rear 27 = .ok (.iload_n 2, 1) := by decide +kernel
theorem dX8_rear_28 : decode cX8_rear 28 = .ok (.aload_n 0, 1) := by decide +kernel
theorem dX8_rear_29 : decode cX8_rear 29 = .ok (.iload_n 3, 1) := by decide +kernel
theorem dX8_rear_30 : decode cX8_rear 30 = .ok (.iload_n 1, 1) := by decide +kernel
theorem dX8_rear_31 : decode cX8_rear 31 = .ok (.invokevirtual 190, 3) := by decide +kernel
theorem dX8_rear_34 : decode cX8_rear 34 = .ok (.aload_n 0, 1) := by decide +kernel
theorem dX8_rear_35 : decode cX8_rear 35 = .ok (.getfield 70, 3) := by decide +kernel
theorem dX8_rear_38 : decode cX8_rear 38 = .ok (.bipush 15, 2) := by decide +kernel
theorem dX8_rear_40 : decode cX8_rear 40 = .ok (.aload_n 0, 1) := by decide +kernel
theorem dX8_rear_41 : decode cX8_rear 41 = .ok (.getfield 82, 3) := by decide +kernel
theorem dX8_rear_44 : decode cX8_rear 44 = .ok (.iload_n 3, 1) := by decide +kernel
theorem dX8_rear_45 : decode cX8_rear 45 = .ok (.iaload, 1) := by decide +kernel
theorem dX8_rear_46 : decode cX8_rear 46 = .ok (.iadd, 1) := by decide +kernel
theorem dX8_rear_47 : decode cX8_rear 47 = .ok (.iaload, 1) := by decide +kernel
theorem dX8_rear_48 : decode cX8_rear 48 = .ok (.imul, 1) := by decide +kernel
theorem dX8_rear_49 : decode cX8_rear 49 = .ok (.aload_n 0, 1) := by decide +kernel
theorem dX8_rear_50 : decode cX8_rear 50 = .ok (.iload_n 3, 1) := by decide +kernel
theorem dX8_rear_51 : decode cX8_rear 51 = .ok (.iconst 1, 1) := by decide +kernel
theorem dX8_rear_52 : decode cX8_rear 52 = .ok (.invokevirtual 176, 3) := by decide +kernel
theorem dX8_rear_55 : decode cX8_rear 55 = .ok (.imul, 1) := by decide +kernel
theorem dX8_rear_56 : decode cX8_rear 56 = .ok (.iadd, 1) := by decide +kernel
theorem dX8_rear_57 : decode cX8_rear 57 = .ok (.istore_n 2, 1) := by decide +kernel
theorem dX8_rear_58 : decode cX8_rear 58 = .ok (.iinc 3 1, 3) := by decide +kernel
theorem dX8_rear_61 : decode cX8_rear 61 = .ok (.goto (-45), 3) := by decide +kernel
theorem dX8_rear_64 : decode cX8_rear 64 = .ok (.iload_n 2, 1) := by decide +kernel
theorem dX8_rear_65 : decode cX8_rear 65 = .ok (.ireturn, 1) := by decide +kernel
theorem dX8_stands_0 : decode cX8_stands 0 = .ok (.iconst 0, 1) := by decide +kernel
theorem dX8_stands_1 : decode cX8_stands 1 = .ok (.istore_n 2, 1) := by decide +kernel
theorem dX8_stands_2 : decode cX8_stands 2 = .ok (.iload_n 2, 1) := by decide +kernel
theorem dX8_stands_3 : decode cX8_stands 3 = .ok (.aload_n 0, 1) := by decide +kernel
theorem dX8_stands_4 : decode cX8_stands 4 = .ok (.getfield 70, 3) := by decide +kernel
theorem dX8_stands_7 : decode cX8_stands 7 = .ok (.bipush 9, 2) := by decide +kernel
theorem dX8_stands_9 : decode cX8_stands 9 = .ok (.iaload, 1) := by decide +kernel
theorem dX8_stands_10 : decode cX8_stands 10 = .ok (.if_icmp .ge 71, 3) := by decide +kernel
theorem dX8_stands_13 : decode cX8_stands 13 = .ok (.bipush 100, 2) := by decide +kernel
theorem dX8_stands_15 : decode cX8_stands 15 = .ok (.aload_n 0, 1) := by decide +kernel
theorem dX8_stands_16 : decode cX8_stands 16 = .ok (.iload_n 2, 1) := by decide +kernel
theorem dX8_stands_17 : decode cX8_stands 17 = .ok (.iload_n 1, 1) := by decide +kernel
theorem dX8_stands_18 : decode cX8_stands 18 = .ok (.invokevirtual 190, 3) := by decide +kernel
theorem dX8_stands_21 : decode cX8_stands 21 = .ok (.imul, 1) := by decide +kernel
theorem dX8_stands_22 : decode cX8_stands 22 = .ok (.istore_n 3, 1) := by decide +kernel
theorem dX8_stands_23 : decode cX8_stands 23 = .ok (.aload_n 0, 1) := by decide +kernel
theorem dX8_stands_24 : decode cX8_stands 24 = .ok (.iload_n 2, 1) := by decide +kernel
theorem dX8_stands_25 : decode cX8_stands 25 = .ok (.iconst 2, 1) := by decide +kernel
theorem dX8_stands_26 : decode cX8_stands 26 = .ok (.invokevirtual 176, 3) := by decide +kernel
theorem dX8_stands_29 : decode cX8_stands 29 = .ok (.iconst 1, 1) := by decide +kernel
theorem dX8_stands_30 : decode cX8_stands 30 = .ok (.if_icmp .ne 45, 3) := by decide +kernel
theorem dX8_stands_33 : decode cX8_stands 33 = .ok (.iload_n 3, 1) := by decide +kernel
theorem dX8_stands_34 : decode cX8_stands 34 = .ok (.ifCond .le 41, 3) := by decide +kernel
theorem dX8_stands_37 : decode cX8_stands 37 = .ok (.iload_n 3, 1) := by decide +kernel
theorem dX8_stands_38 : decode cX8_stands 38 = .ok (.aload_n 0, 1) := by decide +kernel
theorem dX8_stands_39 : decode cX8_stands 39 = .ok (.getfield 70, 3) := by decide +kernel
theorem dX8_stands_42 : decode cX8_stands 42 = .ok (.bipush 7, 2) := by decide +kernel
theorem dX8_stands_44 : decode cX8_stands 44 = .ok (.iaload, 1) := by decide +kernel
theorem dX8_stands_45 : decode cX8_stands 45 = .ok (.aload_n 0, 1) := by decide +kernel
theorem dX8_stands_46 : decode cX8_stands 46 = .ok (.iload_n 2, 1) := by decide +kernel
theorem dX8_stands_47 : decode cX8_stands 47 = .ok (.iconst 0, 1) := by decide +kernel
theorem dX8_stands_48 : decode cX8_stands 48 = .ok (.invokevirtual 176, 3) := by decide +kernel
theorem dX8_stands_51 : decode cX8_stands 51 = .ok (.imul, 1) := by decide +kernel
theorem dX8_stands_52 : decode cX8_stands 52 = .ok (.if_icmp .le 23, 3) := by decide +kernel
theorem dX8_stands_55 : decode cX8_stands 55 = .ok (.iload_n 3, 1) := by decide +kernel
theorem dX8_stands_56 : decode cX8_stands 56 = .ok (.aload_n 0, 1) := by decide +kernel
theorem dX8_stands_57 : decode cX8_stands 57 = .ok (.getfield 70, 3) := by decide +kernel
theorem dX8_stands_60 : decode cX8_stands 60 = .ok (.bipush 8, 2) := by decide +kernel
theorem dX8_stands_62 : decode cX8_stands 62 = .ok (.iaload, 1) := by decide +kernel
theorem dX8_stands_63 : decode cX8_stands 63 = .ok (.aload_n 0, 1) := by decide +kernel
theorem dX8_stands_64 : decode cX8_stands 64 = .ok (.iload_n 2, 1) := by decide +kernel
theorem dX8_stands_65 : decode cX8_stands 65 = .ok (.iconst 0, 1) := by decide +kernel
theorem dX8_stands_66 : decode cX8_stands 66 = .ok (.invokevirtual 176, 3) := by decide +kernel
theorem dX8_stands_69 : decode cX8_stands 69 = .ok (.imul, 1) := by decide +kernel
theorem dX8_stands_70 : decode cX8_stands 70 = .ok (.if_icmp .ge 5, 3) := by decide +kernel
theorem dX8_stands_73 : decode cX8_stands 73 = .ok (.iconst 1, 1) := by decide +kernel
theorem dX8_stands_74 : decode cX8_stands 74 = .ok (.ireturn, 1) := by decide +kernel
theorem dX8_stands_75 : decode cX8_stands 75 = .ok (.iinc 2 1, 3) := by decide +kernel
theorem dX8_stands_78 : decode cX8_stands 78 = .ok (.goto (-76), 3) := by decide +kernel
theorem dX8_stands_81 : decode cX8_stands 81 = .ok (.aload_n 0, 1) := by decide +kernel
theorem dX8_stands_82 : decode cX8_stands 82 = .ok (.iload_n 1, 1) := by decide +kernel
theorem dX8_stands_83 : decode cX8_stands 83 = .ok (.invokevirtual 193, 3) := by decide +kernel
theorem dX8_stands_86 : decode cX8_stands 86 = .ok (.aload_n 0, 1) := by decide +kernel
theorem dX8_stands_87 : decode cX8_stands 87 = .ok (.getfield 70, 3) := by decide +kernel
theorem dX8_stands_90 : decode cX8_stands 90 = .ok (.iconst 4, 1) := by decide +kernel
theorem dX8_stands_91 : decode cX8_stands 91 = .ok (.iaload, 1) := by decide +kernel
theorem dX8_stands_92 : decode cX8_stands 92 = .ok (.aload_n 0, 1) := by decide +kernel
theorem dX8_stands_93 : decode cX8_stands 93 = .ok (.getfield 70, 3) := by decide +kernel
theorem dX8_stands_96 : decode cX8_stands 96 = .ok (.iconst 0, 1) := by decide +kernel
theorem dX8_stands_97 : decode cX8_stands 97 = .ok (.iaload, 1) := by decide +kernel
theorem dX8_stands_98 : decode cX8_stands 98 = .ok (.imul, 1) := by decide +kernel
theorem dX8_stands_99 : decode cX8_stands 99 = .ok (.if_icmp .le 5, 3) := by decide +kernel
theorem dX8_stands_102 : decode cX8_stands 102 = .ok (.iconst 2, 1) := by decide +kernel
theorem dX8_stands_103 : decode cX8_stands 103 = .ok (.ireturn, 1) := by decide +kernel
theorem dX8_stands_104 : decode cX8_stands 104 = .ok (.aload_n 0, 1) := by decide +kernel
theorem dX8_stands_105 : decode cX8_stands 105 = .ok (.iload_n 1, 1) := by decide +kernel
theorem dX8_stands_106 : decode cX8_stands 106 = .ok (.invokevirtual 193, 3) := by decide +kernel
theorem dX8_stands_109 : decode cX8_stands 109 = .ok (.aload_n 0, 1) := by decide +kernel
theorem dX8_stands_110 : decode cX8_stands 110 = .ok (.getfield 70, 3) := by decide +kernel
theorem dX8_stands_113 : decode cX8_stands 113 = .ok (.iconst 3, 1) := by decide +kernel
theorem dX8_stands_114 : decode cX8_stands 114 = .ok (.iaload, 1) := by decide +kernel
theorem dX8_stands_115 : decode cX8_stands 115 = .ok (.aload_n 0, 1) := by decide +kernel
theorem dX8_stands_116 : decode cX8_stands 116 = .ok (.getfield 70, 3) := by decide +kernel
theorem dX8_stands_119 : decode cX8_stands 119 = .ok (.iconst 0, 1) := by decide +kernel
theorem dX8_stands_120 : decode cX8_stands 120 = .ok (.iaload, 1) := by decide +kernel
theorem dX8_stands_121 : decode cX8_stands 121 = .ok (.imul, 1) := by decide +kernel
theorem dX8_stands_122 : decode cX8_stands 122 = .ok (.if_icmp .ge 5, 3) := by decide +kernel
theorem dX8_stands_125 : decode cX8_stands 125 = .ok (.iconst 3, 1) := by decide +kernel
theorem dX8_stands_126 : decode cX8_stands 126 = .ok (.ireturn, 1) := by decide +kernel
theorem dX8_stands_127 : decode cX8_stands 127 = .ok (.aload_n 0, 1) := by decide +kernel
theorem dX8_stands_128 : decode cX8_stands 128 = .ok (.iload_n 1, 1) := by decide +kernel
theorem dX8_stands_129 : decode cX8_stands 129 = .ok (.invokevirtual 196, 3) := by decide +kernel
theorem dX8_stands_132 : decode cX8_stands 132 = .ok (.aload_n 0, 1) := by decide +kernel
theorem dX8_stands_133 : decode cX8_stands 133 = .ok (.getfield 70, 3) := by decide +kernel
theorem dX8_stands_136 : decode cX8_stands 136 = .ok (.iconst 5, 1) := by decide +kernel
theorem dX8_stands_137 : decode cX8_stands 137 = .ok (.iaload, 1) := by decide +kernel
theorem dX8_stands_138 : decode cX8_stands 138 = .ok (.aload_n 0, 1) := by decide +kernel
theorem dX8_stands_139 : decode cX8_stands 139 = .ok (.getfield 70, 3) := by decide +kernel
theorem dX8_stands_142 : decode cX8_stands 142 = .ok (.iconst 0, 1) := by decide +kernel
theorem dX8_stands_143 : decode cX8_stands 143 = .ok (.iaload, 1) := by decide +kernel
theorem dX8_stands_144 : decode cX8_stands 144 = .ok (.imul, 1) := by decide +kernel
theorem dX8_stands_145 : decode cX8_stands 145 = .ok (.if_icmp .le 7, 3) := by decide +kernel
theorem dX8_stands_148 : decode cX8_stands 148 = .ok (.iconst 4, 1) := by decide +kernel
theorem dX8_stands_149 : decode cX8_stands 149 = .ok (.goto 4, 3) := by decide +kernel
theorem dX8_stands_152 : decode cX8_stands 152 = .ok (.iconst 0, 1) := by decide +kernel
theorem dX8_stands_153 : decode cX8_stands 153 = .ok (.ireturn, 1) := by decide +kernel
theorem dX8_ordersFrom_0 : decode cX8_ordersFrom 0 = .ok (.iload_n 2, 1) := by decide +kernel
theorem dX8_ordersFrom_1 : decode cX8_ordersFrom 1 = .ok (.iload_n 1, 1) := by decide +kernel
theorem dX8_ordersFrom_2 : decode cX8_ordersFrom 2 = .ok (.if_icmp .ne 47, 3) := by decide +kernel
theorem dX8_ordersFrom_5 : decode cX8_ordersFrom 5 = .ok (.aload_n 0, 1) := by decide +kernel
theorem dX8_ordersFrom_6 : decode cX8_ordersFrom 6 = .ok (.getfield 199, 3) := by decide +kernel
theorem dX8_ordersFrom_9 : decode cX8_ordersFrom 9 = .ok (.iconst (-1), 1) := by decide +kernel
theorem dX8_ordersFrom_10 : decode cX8_ordersFrom 10 = .ok (.if_icmp .ne 37, 3) := by decide +kernel
theorem dX8_ordersFrom_13 : decode cX8_ordersFrom 13 = .ok (.aload_n 0, 1) := by decide +kernel
theorem dX8_ordersFrom_14 : decode cX8_ordersFrom 14 = .ok (.iload_n 3, 1) := by decide +kernel
theorem dX8_ordersFrom_15 : decode cX8_ordersFrom 15 = .ok (.putfield 199, 3) := by decide +kernel
theorem dX8_ordersFrom_18 : decode cX8_ordersFrom 18 = .ok (.iconst 0, 1) := by decide +kernel
theorem dX8_ordersFrom_19 : decode cX8_ordersFrom 19 = .ok (.istore 4, 2) := by decide +kernel
theorem dX8_ordersFrom_21 : decode cX8_ordersFrom 21 = .ok (.iload 4, 2) := by decide +kernel
theorem dX8_ordersFrom_23 : decode cX8_ordersFrom 23 = .ok (.iload_n 3, 1) := by decide +kernel
theorem dX8_ordersFrom_24 : decode cX8_ordersFrom 24 = .ok (.if_icmp .ge 23, 3) := by decide +kernel
theorem dX8_ordersFrom_27 : decode cX8_ordersFrom 27 = .ok (.aload_n 0, 1) := by decide +kernel
theorem dX8_ordersFrom_28 : decode cX8_ordersFrom 28 = .ok (.getfield 88, 3) := by decide +kernel
theorem dX8_ordersFrom_31 : decode cX8_ordersFrom 31 = .ok (.iload 4, 2) := by decide +kernel
theorem dX8_ordersFrom_33 : decode cX8_ordersFrom 33 = .ok (.aload_n 0, 1) := by decide +kernel
theorem dX8_ordersFrom_34 : decode cX8_ordersFrom 34 = .ok (.getfield 91, 3) := by decide +kernel
theorem dX8_ordersFrom_37 : decode cX8_ordersFrom 37 = .ok (.iload 4, 2) := by decide +kernel
theorem dX8_ordersFrom_39 : decode cX8_ordersFrom 39 = .ok (.iaload, 1) := by decide +kernel
theorem dX8_ordersFrom_40 : decode cX8_ordersFrom 40 = .ok (.iastore, 1) := by decide +kernel
theorem dX8_ordersFrom_41 : decode cX8_ordersFrom 41 = .ok (.iinc 4 1, 3) := by decide +kernel
theorem dX8_ordersFrom_44 : decode cX8_ordersFrom 44 = .ok (.goto (-23), 3) := by decide +kernel
theorem dX8_ordersFrom_47 : decode cX8_ordersFrom 47 = .ok (.iconst 1, 1) := by decide +kernel
theorem dX8_ordersFrom_48 : decode cX8_ordersFrom 48 = .ok (.ireturn, 1) := by decide +kernel
theorem dX8_ordersFrom_49 : decode cX8_ordersFrom 49 = .ok (.iconst 0, 1) := by decide +kernel
theorem dX8_ordersFrom_50 : decode cX8_ordersFrom 50 = .ok (.istore 4, 2) := by decide +kernel
theorem dX8_ordersFrom_52 : decode cX8_ordersFrom 52 = .ok (.iconst 0, 1) := by decide +kernel
theorem dX8_ordersFrom_53 : decode cX8_ordersFrom 53 = .ok (.istore 5, 2) := by decide +kernel
theorem dX8_ordersFrom_55 : decode cX8_ordersFrom 55 = .ok (.iload 5, 2) := by decide +kernel
theorem dX8_ordersFrom_57 : decode cX8_ordersFrom 57 = .ok (.aload_n 0, 1) := by decide +kernel
theorem dX8_ordersFrom_58 : decode cX8_ordersFrom 58 = .ok (.getfield 70, 3) := by decide +kernel
theorem dX8_ordersFrom_61 : decode cX8_ordersFrom 61 = .ok (.bipush 13, 2) := by decide +kernel
theorem dX8_ordersFrom_63 : decode cX8_ordersFrom 63 = .ok (.iaload, 1) := by decide +kernel
theorem dX8_ordersFrom_64 : decode cX8_ordersFrom 64 = .ok (.if_icmp .ge 70, 3) := by decide +kernel
theorem dX8_ordersFrom_67 : decode cX8_ordersFrom 67 = .ok (.iload_n 1, 1) := by decide +kernel
theorem dX8_ordersFrom_68 : decode cX8_ordersFrom 68 = .ok (.iload 5, 2) := by decide +kernel
theorem dX8_ordersFrom_70 : decode cX8_ordersFrom 70 = .ok (.invokestatic 183, 3) := by decide +kernel
theorem dX8_ordersFrom_73 : decode cX8_ordersFrom 73 = .ok (.ifCond .eq 55, 3) := by decide +kernel
theorem dX8_ordersFrom_76 : decode cX8_ordersFrom 76 = .ok (.iload_n 2, 1) := by decide +kernel
theorem dX8_ordersFrom_77 : decode cX8_ordersFrom 77 = .ok (.iload 5, 2) := by decide +kernel
theorem dX8_ordersFrom_79 : decode cX8_ordersFrom 79 = .ok (.invokestatic 183, 3) := by decide +kernel
theorem dX8_ordersFrom_82 : decode cX8_ordersFrom 82 = .ok (.ifCond .ne 46, 3) := by decide +kernel
theorem dX8_ordersFrom_85 : decode cX8_ordersFrom 85 = .ok (.aload_n 0, 1) := by decide +kernel
theorem dX8_ordersFrom_86 : decode cX8_ordersFrom 86 = .ok (.iload_n 2, 1) := by decide +kernel
theorem dX8_ordersFrom_87 : decode cX8_ordersFrom 87 = .ok (.iconst 1, 1) := by decide +kernel
theorem dX8_ordersFrom_88 : decode cX8_ordersFrom 88 = .ok (.iload 5, 2) := by decide +kernel
theorem dX8_ordersFrom_90 : decode cX8_ordersFrom 90 = .ok (.ishl, 1) := by decide +kernel
theorem dX8_ordersFrom_91 : decode cX8_ordersFrom 91 = .ok (.ior, 1) := by decide +kernel
theorem dX8_ordersFrom_92 : decode cX8_ordersFrom 92 = .ok (.invokevirtual 202, 3) := by decide +kernel
theorem dX8_ordersFrom_95 : decode cX8_ordersFrom 95 = .ok (.ifCond .eq 6, 3) := by decide +kernel
theorem dX8_ordersFrom_98 : decode cX8_ordersFrom 98 = .ok (.goto 30, 3) := by decide +kernel
theorem dX8_ordersFrom_101 : decode cX8_ordersFrom 101 = .ok (.aload_n 0, 1) := by decide +kernel
theorem dX8_ordersFrom_102 : decode cX8_ordersFrom 102 = .ok (.getfield 91, 3) := by decide +kernel
theorem dX8_ordersFrom_105 : decode cX8_ordersFrom 105 = .ok (.iload_n 3, 1) := by decide +kernel
theorem dX8_ordersFrom_106 : decode cX8_ordersFrom 106 = .ok (.iload 5, 2) := by decide +kernel
theorem dX8_ordersFrom_108 : decode cX8_ordersFrom 108 = .ok (.iastore, 1) := by decide +kernel
theorem dX8_ordersFrom_109 : decode cX8_ordersFrom 109 = .ok (.iload 4, 2) := by decide +kernel
theorem dX8_ordersFrom_111 : decode cX8_ordersFrom 111 = .ok (.aload_n 0, 1) := by decide +kernel
theorem dX8_ordersFrom_112 : decode cX8_ordersFrom 112 = .ok (.iload_n 1, 1) := by decide +kernel
theorem dX8_ordersFrom_113 : decode cX8_ordersFrom 113 = .ok (.iload_n 2, 1) := by decide +kernel
theorem dX8_ordersFrom_114 : decode cX8_ordersFrom 114 = .ok (.iconst 1, 1) := by decide +kernel
theorem dX8_ordersFrom_115 : decode cX8_ordersFrom 115 = .ok (.iload 5, 2) := by decide +kernel
theorem dX8_ordersFrom_117 : decode cX8_ordersFrom 117 = .ok (.ishl, 1) := by decide +kernel
theorem dX8_ordersFrom_118 : decode cX8_ordersFrom 118 = .ok (.ior, 1) := by decide +kernel
theorem dX8_ordersFrom_119 : decode cX8_ordersFrom 119 = .ok (.iload_n 3, 1) := by decide +kernel
theorem dX8_ordersFrom_120 : decode cX8_ordersFrom 120 = .ok (.iconst 1, 1) := by decide +kernel
theorem dX8_ordersFrom_121 : decode cX8_ordersFrom 121 = .ok (.iadd, 1) := by decide +kernel
theorem dX8_ordersFrom_122 : decode cX8_ordersFrom 122 = .ok (.invokevirtual 205, 3) := by decide +kernel
theorem dX8_ordersFrom_125 : decode cX8_ordersFrom 125 = .ok (.iadd, 1) := by decide +kernel
theorem dX8_ordersFrom_126 : decode cX8_ordersFrom 126 = .ok (.istore 4, 2) := by decide +kernel
theorem dX8_ordersFrom_128 : decode cX8_ordersFrom 128 = .ok (.iinc 5 1, 3) := by decide +kernel
theorem dX8_ordersFrom_131 : decode cX8_ordersFrom 131 = .ok (.goto (-76), 3) := by decide +kernel
theorem dX8_ordersFrom_134 : decode cX8_ordersFrom 134 = .ok (.iload 4, 2) := by decide +kernel
theorem dX8_ordersFrom_136 : decode cX8_ordersFrom 136 = .ok (.ireturn, 1) := by decide +kernel
theorem dX8_ordersOf_0 : decode cX8_ordersOf 0 = .ok (.aload_n 0, 1) := by decide +kernel
theorem dX8_ordersOf_1 : decode cX8_ordersOf 1 = .ok (.iconst (-1), 1) := by decide +kernel
theorem dX8_ordersOf_2 : decode cX8_ordersOf 2 = .ok (.putfield 199, 3) := by decide +kernel
theorem dX8_ordersOf_5 : decode cX8_ordersOf 5 = .ok (.aload_n 0, 1) := by decide +kernel
theorem dX8_ordersOf_6 : decode cX8_ordersOf 6 = .ok (.iload_n 1, 1) := by decide +kernel
theorem dX8_ordersOf_7 : decode cX8_ordersOf 7 = .ok (.iconst 0, 1) := by decide +kernel
theorem dX8_ordersOf_8 : decode cX8_ordersOf 8 = .ok (.iconst 0, 1) := by decide +kernel
theorem dX8_ordersOf_9 : decode cX8_ordersOf 9 = .ok (.invokevirtual 205, 3) := by decide +kernel
theorem dX8_ordersOf_12 : decode cX8_ordersOf 12 = .ok (.ireturn, 1) := by decide +kernel
theorem dX8_aboardNow_0 : decode cX8_aboardNow 0 = .ok (.iconst 0, 1) := by decide +kernel
theorem dX8_aboardNow_1 : decode cX8_aboardNow 1 = .ok (.istore_n 1, 1) := by decide +kernel
theorem dX8_aboardNow_2 : decode cX8_aboardNow 2 = .ok (.iconst 0, 1) := by decide +kernel
theorem dX8_aboardNow_3 : decode cX8_aboardNow 3 = .ok (.istore_n 2, 1) := by decide +kernel
theorem dX8_aboardNow_4 : decode cX8_aboardNow 4 = .ok (.iload_n 2, 1) := by decide +kernel
theorem dX8_aboardNow_5 : decode cX8_aboardNow 5 = .ok (.aload_n 0, 1) := by decide +kernel
theorem dX8_aboardNow_6 : decode cX8_aboardNow 6 = .ok (.getfield 70, 3) := by decide +kernel
theorem dX8_aboardNow_9 : decode cX8_aboardNow 9 = .ok (.bipush 13, 2) := by decide +kernel
theorem dX8_aboardNow_11 : decode cX8_aboardNow 11 = .ok (.iaload, 1) := by decide +kernel
theorem dX8_aboardNow_12 : decode cX8_aboardNow 12 = .ok (.if_icmp .ge 25, 3) := by decide +kernel
theorem dX8_aboardNow_15 : decode cX8_aboardNow 15 = .ok (.aload_n 0, 1) := by decide +kernel
theorem dX8_aboardNow_16 : decode cX8_aboardNow 16 = .ok (.iload_n 2, 1) := by decide +kernel
theorem dX8_aboardNow_17 : decode cX8_aboardNow 17 = .ok (.iconst 2, 1) := by decide +kernel
theorem dX8_aboardNow_18 : decode cX8_aboardNow 18 = .ok (.invokevirtual 180, 3) := by decide +kernel
theorem dX8_aboardNow_21 : decode cX8_aboardNow 21 = .ok (.iconst 1, 1) := by decide +kernel
theorem dX8_aboardNow_22 : decode cX8_aboardNow 22 = .ok (.if_icmp .ne 9, 3) := by decide +kernel
theorem dX8_aboardNow_25 : decode cX8_aboardNow 25 = .ok (.iload_n 1, 1) := by decide +kernel
theorem dX8_aboardNow_26 : decode cX8_aboardNow 26 = .ok (.iconst 1, 1) := by decide +kernel
theorem dX8_aboardNow_27 : decode cX8_aboardNow 27 = .ok (.iload_n 2, 1) := by decide +kernel
theorem dX8_aboardNow_28 : decode cX8_aboardNow 28 = .ok (.ishl, 1) := by decide +kernel
theorem dX8_aboardNow_29 : decode cX8_aboardNow 29 = .ok (.ior, 1) := by decide +kernel
theorem dX8_aboardNow_30 : decode cX8_aboardNow 30 = .ok (.istore_n 1, 1) := by decide +kernel
theorem dX8_aboardNow_31 : decode cX8_aboardNow 31 = .ok (.iinc 2 1, 3) := by decide +kernel
theorem dX8_aboardNow_34 : decode cX8_aboardNow 34 = .ok (.goto (-30), 3) := by decide +kernel
theorem dX8_aboardNow_37 : decode cX8_aboardNow 37 = .ok (.iload_n 1, 1) := by decide +kernel
theorem dX8_aboardNow_38 : decode cX8_aboardNow 38 = .ok (.ireturn, 1) := by decide +kernel
theorem dX8_now_0 : decode cX8_now 0 = .ok (.aload_n 0, 1) := by decide +kernel
theorem dX8_now_1 : decode cX8_now 1 = .ok (.iconst 0, 1) := by decide +kernel
theorem dX8_now_2 : decode cX8_now 2 = .ok (.putfield 1, 3) := by decide +kernel
theorem dX8_now_5 : decode cX8_now 5 = .ok (.aload_n 0, 1) := by decide +kernel
theorem dX8_now_6 : decode cX8_now 6 = .ok (.invokevirtual 209, 3) := by decide +kernel
theorem dX8_now_9 : decode cX8_now 9 = .ok (.iload_n 1, 1) := by decide +kernel
theorem dX8_now_10 : decode cX8_now 10 = .ok (.tableswitch 119 0 9 #[54, 62, 70, 78, 83, 89, 95, 101, 109, 114], 54) := by decide +kernel
theorem dX8_now_64 : decode cX8_now 64 = .ok (.aload_n 0, 1) := by decide +kernel
theorem dX8_now_65 : decode cX8_now 65 = .ok (.getfield 70, 3) := by decide +kernel
theorem dX8_now_68 : decode cX8_now 68 = .ok (.bipush 9, 2) := by decide +kernel
theorem dX8_now_70 : decode cX8_now 70 = .ok (.iaload, 1) := by decide +kernel
theorem dX8_now_71 : decode cX8_now 71 = .ok (.ireturn, 1) := by decide +kernel
theorem dX8_now_72 : decode cX8_now 72 = .ok (.aload_n 0, 1) := by decide +kernel
theorem dX8_now_73 : decode cX8_now 73 = .ok (.getfield 70, 3) := by decide +kernel
theorem dX8_now_76 : decode cX8_now 76 = .ok (.bipush 10, 2) := by decide +kernel
theorem dX8_now_78 : decode cX8_now 78 = .ok (.iaload, 1) := by decide +kernel
theorem dX8_now_79 : decode cX8_now 79 = .ok (.ireturn, 1) := by decide +kernel
theorem dX8_now_80 : decode cX8_now 80 = .ok (.aload_n 0, 1) := by decide +kernel
theorem dX8_now_81 : decode cX8_now 81 = .ok (.getfield 70, 3) := by decide +kernel
theorem dX8_now_84 : decode cX8_now 84 = .ok (.bipush 13, 2) := by decide +kernel
theorem dX8_now_86 : decode cX8_now 86 = .ok (.iaload, 1) := by decide +kernel
theorem dX8_now_87 : decode cX8_now 87 = .ok (.ireturn, 1) := by decide +kernel
theorem dX8_now_88 : decode cX8_now 88 = .ok (.aload_n 0, 1) := by decide +kernel
theorem dX8_now_89 : decode cX8_now 89 = .ok (.invokevirtual 212, 3) := by decide +kernel
theorem dX8_now_92 : decode cX8_now 92 = .ok (.ireturn, 1) := by decide +kernel
theorem dX8_now_93 : decode cX8_now 93 = .ok (.aload_n 0, 1) := by decide +kernel
theorem dX8_now_94 : decode cX8_now 94 = .ok (.iconst 0, 1) := by decide +kernel
theorem dX8_now_95 : decode cX8_now 95 = .ok (.invokevirtual 193, 3) := by decide +kernel
theorem dX8_now_98 : decode cX8_now 98 = .ok (.ireturn, 1) := by decide +kernel
theorem dX8_now_99 : decode cX8_now 99 = .ok (.aload_n 0, 1) := by decide +kernel
theorem dX8_now_100 : decode cX8_now 100 = .ok (.iconst 0, 1) := by decide +kernel
theorem dX8_now_101 : decode cX8_now 101 = .ok (.invokevirtual 196, 3) := by decide +kernel
theorem dX8_now_104 : decode cX8_now 104 = .ok (.ireturn, 1) := by decide +kernel
theorem dX8_now_105 : decode cX8_now 105 = .ok (.aload_n 0, 1) := by decide +kernel
theorem dX8_now_106 : decode cX8_now 106 = .ok (.iconst 0, 1) := by decide +kernel
theorem dX8_now_107 : decode cX8_now 107 = .ok (.invokevirtual 202, 3) := by decide +kernel
theorem dX8_now_110 : decode cX8_now 110 = .ok (.ireturn, 1) := by decide +kernel
theorem dX8_now_111 : decode cX8_now 111 = .ok (.aload_n 0, 1) := by decide +kernel
theorem dX8_now_112 : decode cX8_now 112 = .ok (.getfield 70, 3) := by decide +kernel
theorem dX8_now_115 : decode cX8_now 115 = .ok (.bipush 14, 2) := by decide +kernel
theorem dX8_now_117 : decode cX8_now 117 = .ok (.iaload, 1) := by decide +kernel
theorem dX8_now_118 : decode cX8_now 118 = .ok (.ireturn, 1) := by decide +kernel
theorem dX8_now_119 : decode cX8_now 119 = .ok (.aload_n 0, 1) := by decide +kernel
theorem dX8_now_120 : decode cX8_now 120 = .ok (.getfield 173, 3) := by decide +kernel
theorem dX8_now_123 : decode cX8_now 123 = .ok (.ireturn, 1) := by decide +kernel
theorem dX8_now_124 : decode cX8_now 124 = .ok (.aload_n 0, 1) := by decide +kernel
theorem dX8_now_125 : decode cX8_now 125 = .ok (.getfield 11, 3) := by decide +kernel
theorem dX8_now_128 : decode cX8_now 128 = .ok (.ireturn, 1) := by decide +kernel
theorem dX8_now_129 : decode cX8_now 129 = .ok (.ldc 216, 2) := by decide +kernel
theorem dX8_now_131 : decode cX8_now 131 = .ok (.ireturn, 1) := by decide +kernel
theorem dX8_bars_0 : decode cX8_bars 0 = .ok (.iconst 0, 1) := by decide +kernel
theorem dX8_bars_1 : decode cX8_bars 1 = .ok (.istore_n 1, 1) := by decide +kernel
theorem dX8_bars_2 : decode cX8_bars 2 = .ok (.iconst 0, 1) := by decide +kernel
theorem dX8_bars_3 : decode cX8_bars 3 = .ok (.istore_n 2, 1) := by decide +kernel
theorem dX8_bars_4 : decode cX8_bars 4 = .ok (.iload_n 2, 1) := by decide +kernel
theorem dX8_bars_5 : decode cX8_bars 5 = .ok (.bipush 6, 2) := by decide +kernel
theorem dX8_bars_7 : decode cX8_bars 7 = .ok (.if_icmp .ge 42, 3) := by decide +kernel
theorem dX8_bars_10 : decode cX8_bars 10 = .ok (.iconst 0, 1) := by decide +kernel
theorem dX8_bars_11 : decode cX8_bars 11 = .ok (.istore_n 3, 1) := by decide +kernel
theorem dX8_bars_12 : decode cX8_bars 12 = .ok (.iload_n 3, 1) := by decide +kernel
theorem dX8_bars_13 : decode cX8_bars 13 = .ok (.bipush 6, 2) := by decide +kernel
theorem dX8_bars_15 : decode cX8_bars 15 = .ok (.if_icmp .ge 28, 3) := by decide +kernel
theorem dX8_bars_18 : decode cX8_bars 18 = .ok (.aload_n 0, 1) := by decide +kernel
theorem dX8_bars_19 : decode cX8_bars 19 = .ok (.getfield 70, 3) := by decide +kernel
theorem dX8_bars_22 : decode cX8_bars 22 = .ok (.bipush 21, 2) := by decide +kernel
theorem dX8_bars_24 : decode cX8_bars 24 = .ok (.iload_n 2, 1) := by decide +kernel
theorem dX8_bars_25 : decode cX8_bars 25 = .ok (.iadd, 1) := by decide +kernel
theorem dX8_bars_26 : decode cX8_bars 26 = .ok (.iaload, 1) := by decide +kernel
theorem dX8_bars_27 : decode cX8_bars 27 = .ok (.iload_n 3, 1) := by decide +kernel
theorem dX8_bars_28 : decode cX8_bars 28 = .ok (.invokestatic 183, 3) := by decide +kernel
theorem dX8_bars_31 : decode cX8_bars 31 = .ok (.ifCond .eq 6, 3) := by decide +kernel
theorem dX8_bars_34 : decode cX8_bars 34 = .ok (.iinc 1 1, 3) := by decide +kernel
theorem dX8_bars_37 : decode cX8_bars 37 = .ok (.iinc 3 1, 3) := by decide +kernel
theorem dX8_bars_40 : decode cX8_bars 40 = .ok (.goto (-28), 3) := by decide +kernel
theorem dX8_bars_43 : decode cX8_bars 43 = .ok (.iinc 2 1, 3) := by decide +kernel
theorem dX8_bars_46 : decode cX8_bars 46 = .ok (.goto (-42), 3) := by decide +kernel
theorem dX8_bars_49 : decode cX8_bars 49 = .ok (.iload_n 1, 1) := by decide +kernel
theorem dX8_bars_50 : decode cX8_bars 50 = .ok (.ireturn, 1) := by decide +kernel
theorem dX8_compartment_0 : decode cX8_compartment 0 = .ok (.aload_n 0, 1) := by decide +kernel
theorem dX8_compartment_1 : decode cX8_compartment 1 = .ok (.iconst 0, 1) := by decide +kernel
theorem dX8_compartment_2 : decode cX8_compartment 2 = .ok (.putfield 1, 3) := by decide +kernel
theorem dX8_compartment_5 : decode cX8_compartment 5 = .ok (.aload_n 0, 1) := by decide +kernel
theorem dX8_compartment_6 : decode cX8_compartment 6 = .ok (.iload_n 1, 1) := by decide +kernel
theorem dX8_compartment_7 : decode cX8_compartment 7 = .ok (.invokevirtual 217, 3) := by decide +kernel
theorem dX8_compartment_10 : decode cX8_compartment 10 = .ok (.ifCond .ne 5, 3) := by decide +kernel
theorem dX8_compartment_13 : decode cX8_compartment 13 = .ok (.iconst (-1), 1) := by decide +kernel
theorem dX8_compartment_14 : decode cX8_compartment 14 = .ok (.ireturn, 1) := by decide +kernel
theorem dX8_compartment_15 : decode cX8_compartment 15 = .ok (.iload_n 2, 1) := by decide +kernel
theorem dX8_compartment_16 : decode cX8_compartment 16 = .ok (.tableswitch 79 0 6 #[44, 44, 44, 51, 57, 64, 73], 44) := by decide +kernel
theorem dX8_compartment_60 : decode cX8_compartment 60 = .ok (.aload_n 0, 1) := by decide +kernel
theorem dX8_compartment_61 : decode cX8_compartment 61 = .ok (.iload_n 1, 1) := by decide +kernel
theorem dX8_compartment_62 : decode cX8_compartment 62 = .ok (.iload_n 2, 1) := by decide +kernel
theorem dX8_compartment_63 : decode cX8_compartment 63 = .ok (.invokevirtual 176, 3) := by decide +kernel
theorem dX8_compartment_66 : decode cX8_compartment 66 = .ok (.ireturn, 1) := by decide +kernel
theorem dX8_compartment_67 : decode cX8_compartment 67 = .ok (.aload_n 0, 1) := by decide +kernel
theorem dX8_compartment_68 : decode cX8_compartment 68 = .ok (.iload_n 1, 1) := by decide +kernel
theorem dX8_compartment_69 : decode cX8_compartment 69 = .ok (.invokevirtual 220, 3) := by decide +kernel
theorem dX8_compartment_72 : decode cX8_compartment 72 = .ok (.ireturn, 1) := by decide +kernel
theorem dX8_compartment_73 : decode cX8_compartment 73 = .ok (.aload_n 0, 1) := by decide +kernel
theorem dX8_compartment_74 : decode cX8_compartment 74 = .ok (.iload_n 1, 1) := by decide +kernel
theorem dX8_compartment_75 : decode cX8_compartment 75 = .ok (.iconst 3, 1) := by decide +kernel
theorem dX8_compartment_76 : decode cX8_compartment 76 = .ok (.invokevirtual 176, 3) := by decide +kernel
theorem dX8_compartment_79 : decode cX8_compartment 79 = .ok (.ireturn, 1) := by decide +kernel
theorem dX8_compartment_80 : decode cX8_compartment 80 = .ok (.aload_n 0, 1) := by decide +kernel
theorem dX8_compartment_81 : decode cX8_compartment 81 = .ok (.iload_n 1, 1) := by decide +kernel
theorem dX8_compartment_82 : decode cX8_compartment 82 = .ok (.iconst 4, 1) := by decide +kernel
theorem dX8_compartment_83 : decode cX8_compartment 83 = .ok (.invokevirtual 176, 3) := by decide +kernel
theorem dX8_compartment_86 : decode cX8_compartment 86 = .ok (.iconst 1, 1) := by decide +kernel
theorem dX8_compartment_87 : decode cX8_compartment 87 = .ok (.isub, 1) := by decide +kernel
theorem dX8_compartment_88 : decode cX8_compartment 88 = .ok (.ireturn, 1) := by decide +kernel
theorem dX8_compartment_89 : decode cX8_compartment 89 = .ok (.aload_n 0, 1) := by decide +kernel
theorem dX8_compartment_90 : decode cX8_compartment 90 = .ok (.iload_n 1, 1) := by decide +kernel
theorem dX8_compartment_91 : decode cX8_compartment 91 = .ok (.invokevirtual 187, 3) := by decide +kernel
theorem dX8_compartment_94 : decode cX8_compartment 94 = .ok (.ireturn, 1) := by decide +kernel
theorem dX8_compartment_95 : decode cX8_compartment 95 = .ok (.iconst (-1), 1) := by decide +kernel
theorem dX8_compartment_96 : decode cX8_compartment 96 = .ok (.ireturn, 1) := by decide +kernel
theorem dX8_drop_0 : decode cX8_drop 0 = .ok (.aload_n 0, 1) := by decide +kernel
theorem dX8_drop_1 : decode cX8_drop 1 = .ok (.iconst 0, 1) := by decide +kernel
theorem dX8_drop_2 : decode cX8_drop 2 = .ok (.putfield 1, 3) := by decide +kernel
theorem dX8_drop_5 : decode cX8_drop 5 = .ok (.aload_n 0, 1) := by decide +kernel
theorem dX8_drop_6 : decode cX8_drop 6 = .ok (.iload_n 1, 1) := by decide +kernel
theorem dX8_drop_7 : decode cX8_drop 7 = .ok (.invokevirtual 223, 3) := by decide +kernel
theorem dX8_drop_10 : decode cX8_drop 10 = .ok (.ifCond .eq 12, 3) := by decide +kernel
theorem dX8_drop_13 : decode cX8_drop 13 = .ok (.iload_n 2, 1) := by decide +kernel
theorem dX8_drop_14 : decode cX8_drop 14 = .ok (.iconst 0, 1) := by decide +kernel
theorem dX8_drop_15 : decode cX8_drop 15 = .ok (.iconst 5, 1) := by decide +kernel
theorem dX8_drop_16 : decode cX8_drop 16 = .ok (.invokestatic 109, 3) := by decide +kernel
theorem dX8_drop_19 : decode cX8_drop 19 = .ok (.ifCond .ne 8, 3) := by decide +kernel
theorem dX8_drop_22 : decode cX8_drop 22 = .ok (.aload_n 0, 1) := by decide +kernel
theorem dX8_drop_23 : decode cX8_drop 23 = .ok (.invokevirtual 226, 3) := by decide +kernel
theorem dX8_drop_26 : decode cX8_drop 26 = .ok (.ireturn, 1) := by decide +kernel
theorem dX8_drop_27 : decode cX8_drop 27 = .ok (.iload_n 2, 1) := by decide +kernel
theorem dX8_drop_28 : decode cX8_drop 28 = .ok (.iconst 2, 1) := by decide +kernel
theorem dX8_drop_29 : decode cX8_drop 29 = .ok (.if_icmp .ne 11, 3) := by decide +kernel
theorem dX8_drop_32 : decode cX8_drop 32 = .ok (.aload_n 0, 1) := by decide +kernel
theorem dX8_drop_33 : decode cX8_drop 33 = .ok (.iload_n 1, 1) := by decide +kernel
theorem dX8_drop_34 : decode cX8_drop 34 = .ok (.invokevirtual 229, 3) := by decide +kernel
theorem dX8_drop_37 : decode cX8_drop 37 = .ok (.goto 25, 3) := by decide +kernel
theorem dX8_drop_40 : decode cX8_drop 40 = .ok (.iload_n 2, 1) := by decide +kernel
theorem dX8_drop_41 : decode cX8_drop 41 = .ok (.iconst 2, 1) := by decide +kernel
theorem dX8_drop_42 : decode cX8_drop 42 = .ok (.if_icmp .ge 12, 3) := by decide +kernel
theorem dX8_drop_45 : decode cX8_drop 45 = .ok (.aload_n 0, 1) := by decide +kernel
theorem dX8_drop_46 : decode cX8_drop 46 = .ok (.iload_n 1, 1) := by decide +kernel
theorem dX8_drop_47 : decode cX8_drop 47 = .ok (.iload_n 2, 1) := by decide +kernel
theorem dX8_drop_48 : decode cX8_drop 48 = .ok (.invokevirtual 180, 3) := by decide +kernel
theorem dX8_drop_51 : decode cX8_drop 51 = .ok (.goto 11, 3) := by decide +kernel
theorem dX8_drop_54 : decode cX8_drop 54 = .ok (.aload_n 0, 1) := by decide +kernel
theorem dX8_drop_55 : decode cX8_drop 55 = .ok (.iload_n 1, 1) := by decide +kernel
theorem dX8_drop_56 : decode cX8_drop 56 = .ok (.iload_n 2, 1) := by decide +kernel
theorem dX8_drop_57 : decode cX8_drop 57 = .ok (.iconst 1, 1) := by decide +kernel
theorem dX8_drop_58 : decode cX8_drop 58 = .ok (.isub, 1) := by decide +kernel
theorem dX8_drop_59 : decode cX8_drop 59 = .ok (.invokevirtual 180, 3) := by decide +kernel
theorem dX8_drop_62 : decode cX8_drop 62 = .ok (.ireturn, 1) := by decide +kernel
theorem dX8_may_0 : decode cX8_may 0 = .ok (.aload_n 0, 1) := by decide +kernel
theorem dX8_may_1 : decode cX8_may 1 = .ok (.iconst 0, 1) := by decide +kernel
theorem dX8_may_2 : decode cX8_may 2 = .ok (.putfield 1, 3) := by decide +kernel
theorem dX8_may_5 : decode cX8_may 5 = .ok (.aload_n 0, 1) := by decide +kernel
theorem dX8_may_6 : decode cX8_may 6 = .ok (.iload_n 1, 1) := by decide +kernel
theorem dX8_may_7 : decode cX8_may 7 = .ok (.invokevirtual 217, 3) := by decide +kernel
theorem dX8_may_10 : decode cX8_may 10 = .ok (.ifCond .eq 25, 3) := by decide +kernel
theorem dX8_may_13 : decode cX8_may 13 = .ok (.aload_n 0, 1) := by decide +kernel
theorem dX8_may_14 : decode cX8_may 14 = .ok (.iload_n 2, 1) := by decide +kernel
theorem dX8_may_15 : decode cX8_may 15 = .ok (.invokevirtual 232, 3) := by decide +kernel
theorem dX8_may_18 : decode cX8_may 18 = .ok (.ifCond .eq 17, 3) := by decide +kernel
theorem dX8_may_21 : decode cX8_may 21 = .ok (.aload_n 0, 1) := by decide +kernel
theorem dX8_may_22 : decode cX8_may 22 = .ok (.iload_n 1, 1) := by decide +kernel
theorem dX8_may_23 : decode cX8_may 23 = .ok (.iload_n 2, 1) := by decide +kernel
theorem dX8_may_24 : decode cX8_may 24 = .ok (.iconst 0, 1) := by decide +kernel
theorem dX8_may_25 : decode cX8_may 25 = .ok (.invokevirtual 235, 3) := by decide +kernel
theorem dX8_may_28 : decode cX8_may 28 = .ok (.ifCond .eq 7, 3) := by decide +kernel
theorem dX8_may_31 : decode cX8_may 31 = .ok (.iconst 1, 1) := by decide +kernel
theorem dX8_may_32 : decode cX8_may 32 = .ok (.goto 4, 3) := by decide +kernel
theorem dX8_may_35 : decode cX8_may 35 = .ok (.iconst 0, 1) := by decide +kernel
theorem dX8_may_36 : decode cX8_may 36 = .ok (.ireturn, 1) := by decide +kernel
theorem dX8_would_0 : decode cX8_would 0 = .ok (.aload_n 0, 1) := by decide +kernel
theorem dX8_would_1 : decode cX8_would 1 = .ok (.iconst 0, 1) := by decide +kernel
theorem dX8_would_2 : decode cX8_would 2 = .ok (.putfield 1, 3) := by decide +kernel
theorem dX8_would_5 : decode cX8_would 5 = .ok (.aload_n 0, 1) := by decide +kernel
theorem dX8_would_6 : decode cX8_would 6 = .ok (.iload_n 1, 1) := by decide +kernel
theorem dX8_would_7 : decode cX8_would 7 = .ok (.invokevirtual 217, 3) := by decide +kernel
theorem dX8_would_10 : decode cX8_would 10 = .ok (.ifCond .eq 25, 3) := by decide +kernel
theorem dX8_would_13 : decode cX8_would 13 = .ok (.aload_n 0, 1) := by decide +kernel
theorem dX8_would_14 : decode cX8_would 14 = .ok (.iload_n 2, 1) := by decide +kernel
theorem dX8_would_15 : decode cX8_would 15 = .ok (.invokevirtual 232, 3) := by decide +kernel
theorem dX8_would_18 : decode cX8_would 18 = .ok (.ifCond .eq 17, 3) := by decide +kernel
theorem dX8_would_21 : decode cX8_would 21 = .ok (.iload_n 3, 1) := by decide +kernel
theorem dX8_would_22 : decode cX8_would 22 = .ok (.iconst 0, 1) := by decide +kernel
theorem dX8_would_23 : decode cX8_would 23 = .ok (.aload_n 0, 1) := by decide +kernel
theorem dX8_would_24 : decode cX8_would 24 = .ok (.iload_n 1, 1) := by decide +kernel
theorem dX8_would_25 : decode cX8_would 25 = .ok (.iconst 0, 1) := by decide +kernel
theorem dX8_would_26 : decode cX8_would 26 = .ok (.invokevirtual 176, 3) := by decide +kernel
theorem dX8_would_29 : decode cX8_would 29 = .ok (.invokestatic 109, 3) := by decide +kernel
theorem dX8_would_32 : decode cX8_would 32 = .ok (.ifCond .ne 5, 3) := by decide +kernel
theorem dX8_would_35 : decode cX8_would 35 = .ok (.iconst (-1), 1) := by decide +kernel
theorem dX8_would_36 : decode cX8_would 36 = .ok (.ireturn, 1) := by decide +kernel
theorem dX8_would_37 : decode cX8_would 37 = .ok (.aload_n 0, 1) := by decide +kernel
theorem dX8_would_38 : decode cX8_would 38 = .ok (.invokevirtual 209, 3) := by decide +kernel
theorem dX8_would_41 : decode cX8_would 41 = .ok (.aload_n 0, 1) := by decide +kernel
theorem dX8_would_42 : decode cX8_would 42 = .ok (.getfield 79, 3) := by decide +kernel
theorem dX8_would_45 : decode cX8_would 45 = .ok (.iload_n 1, 1) := by decide +kernel
theorem dX8_would_46 : decode cX8_would 46 = .ok (.iload_n 3, 1) := by decide +kernel
theorem dX8_would_47 : decode cX8_would 47 = .ok (.iastore, 1) := by decide +kernel
theorem dX8_would_48 : decode cX8_would 48 = .ok (.aload_n 0, 1) := by decide +kernel
theorem dX8_would_49 : decode cX8_would 49 = .ok (.getfield 82, 3) := by decide +kernel
theorem dX8_would_52 : decode cX8_would 52 = .ok (.iload_n 1, 1) := by decide +kernel
theorem dX8_would_53 : decode cX8_would 53 = .ok (.iload_n 2, 1) := by decide +kernel
theorem dX8_would_54 : decode cX8_would 54 = .ok (.iastore, 1) := by decide +kernel
theorem dX8_would_55 : decode cX8_would 55 = .ok (.aload_n 0, 1) := by decide +kernel
theorem dX8_would_56 : decode cX8_would 56 = .ok (.getfield 85, 3) := by decide +kernel
theorem dX8_would_59 : decode cX8_would 59 = .ok (.iload_n 1, 1) := by decide +kernel
theorem dX8_would_60 : decode cX8_would 60 = .ok (.iconst (-1), 1) := by decide +kernel
theorem dX8_would_61 : decode cX8_would 61 = .ok (.iastore, 1) := by decide +kernel
theorem dX8_would_62 : decode cX8_would 62 = .ok (.aload_n 0, 1) := by decide +kernel
theorem dX8_would_63 : decode cX8_would 63 = .ok (.iconst 0, 1) := by decide +kernel
theorem dX8_would_64 : decode cX8_would 64 = .ok (.invokevirtual 202, 3) := by decide +kernel
theorem dX8_would_67 : decode cX8_would 67 = .ok (.ireturn, 1) := by decide +kernel
theorem dX8_orders_0 : decode cX8_orders 0 = .ok (.aload_n 0, 1) := by decide +kernel
theorem dX8_orders_1 : decode cX8_orders 1 = .ok (.iconst 0, 1) := by decide +kernel
theorem dX8_orders_2 : decode cX8_orders 2 = .ok (.putfield 1, 3) := by decide +kernel
theorem dX8_orders_5 : decode cX8_orders 5 = .ok (.aload_n 0, 1) := by decide +kernel
theorem dX8_orders_6 : decode cX8_orders 6 = .ok (.invokevirtual 209, 3) := by decide +kernel
theorem dX8_orders_9 : decode cX8_orders 9 = .ok (.aload_n 0, 1) := by decide +kernel
theorem dX8_orders_10 : decode cX8_orders 10 = .ok (.aload_n 0, 1) := by decide +kernel
theorem dX8_orders_11 : decode cX8_orders 11 = .ok (.invokevirtual 238, 3) := by decide +kernel
theorem dX8_orders_14 : decode cX8_orders 14 = .ok (.invokevirtual 241, 3) := by decide +kernel
theorem dX8_orders_17 : decode cX8_orders 17 = .ok (.ireturn, 1) := by decide +kernel
theorem dX8_ordered_0 : decode cX8_ordered 0 = .ok (.aload_n 0, 1) := by decide +kernel
theorem dX8_ordered_1 : decode cX8_ordered 1 = .ok (.iconst 0, 1) := by decide +kernel
theorem dX8_ordered_2 : decode cX8_ordered 2 = .ok (.putfield 1, 3) := by decide +kernel
theorem dX8_ordered_5 : decode cX8_ordered 5 = .ok (.aload_n 0, 1) := by decide +kernel
theorem dX8_ordered_6 : decode cX8_ordered 6 = .ok (.invokevirtual 209, 3) := by decide +kernel
theorem dX8_ordered_9 : decode cX8_ordered 9 = .ok (.aload_n 0, 1) := by decide +kernel
theorem dX8_ordered_10 : decode cX8_ordered 10 = .ok (.aload_n 0, 1) := by decide +kernel
theorem dX8_ordered_11 : decode cX8_ordered 11 = .ok (.invokevirtual 238, 3) := by decide +kernel
theorem dX8_ordered_14 : decode cX8_ordered 14 = .ok (.invokevirtual 241, 3) := by decide +kernel
theorem dX8_ordered_17 : decode cX8_ordered 17 = .ok (.pop, 1) := by decide +kernel
theorem dX8_ordered_18 : decode cX8_ordered 18 = .ok (.iload_n 1, 1) := by decide +kernel
theorem dX8_ordered_19 : decode cX8_ordered 19 = .ok (.iconst 0, 1) := by decide +kernel
theorem dX8_ordered_20 : decode cX8_ordered 20 = .ok (.aload_n 0, 1) := by decide +kernel
theorem dX8_ordered_21 : decode cX8_ordered 21 = .ok (.getfield 199, 3) := by decide +kernel
theorem dX8_ordered_24 : decode cX8_ordered 24 = .ok (.iconst 1, 1) := by decide +kernel
theorem dX8_ordered_25 : decode cX8_ordered 25 = .ok (.isub, 1) := by decide +kernel
theorem dX8_ordered_26 : decode cX8_ordered 26 = .ok (.invokestatic 109, 3) := by decide +kernel
theorem dX8_ordered_29 : decode cX8_ordered 29 = .ok (.ifCond .eq 12, 3) := by decide +kernel
theorem dX8_ordered_32 : decode cX8_ordered 32 = .ok (.aload_n 0, 1) := by decide +kernel
theorem dX8_ordered_33 : decode cX8_ordered 33 = .ok (.getfield 88, 3) := by decide +kernel
theorem dX8_ordered_36 : decode cX8_ordered 36 = .ok (.iload_n 1, 1) := by decide +kernel
theorem dX8_ordered_37 : decode cX8_ordered 37 = .ok (.iaload, 1) := by decide +kernel
theorem dX8_ordered_38 : decode cX8_ordered 38 = .ok (.goto 4, 3) := by decide +kernel
theorem dX8_ordered_41 : decode cX8_ordered 41 = .ok (.iconst (-1), 1) := by decide +kernel
theorem dX8_ordered_42 : decode cX8_ordered 42 = .ok (.ireturn, 1) := by decide +kernel
theorem dX8_without_0 : decode cX8_without 0 = .ok (.aload_n 0, 1) := by decide +kernel
theorem dX8_without_1 : decode cX8_without 1 = .ok (.iconst 0, 1) := by decide +kernel
theorem dX8_without_2 : decode cX8_without 2 = .ok (.putfield 1, 3) := by decide +kernel
theorem dX8_without_5 : decode cX8_without 5 = .ok (.aload_n 0, 1) := by decide +kernel
theorem dX8_without_6 : decode cX8_without 6 = .ok (.iload_n 1, 1) := by decide +kernel
theorem dX8_without_7 : decode cX8_without 7 = .ok (.invokevirtual 223, 3) := by decide +kernel
theorem dX8_without_10 : decode cX8_without 10 = .ok (.ifCond .eq 13, 3) := by decide +kernel
theorem dX8_without_13 : decode cX8_without 13 = .ok (.aload_n 0, 1) := by decide +kernel
theorem dX8_without_14 : decode cX8_without 14 = .ok (.iload_n 1, 1) := by decide +kernel
theorem dX8_without_15 : decode cX8_without 15 = .ok (.iconst 2, 1) := by decide +kernel
theorem dX8_without_16 : decode cX8_without 16 = .ok (.invokevirtual 180, 3) := by decide +kernel
theorem dX8_without_19 : decode cX8_without 19 = .ok (.iconst 1, 1) := by decide +kernel
theorem dX8_without_20 : decode cX8_without 20 = .ok (.if_icmp .eq 5, 3) := by decide +kernel
theorem dX8_without_23 : decode cX8_without 23 = .ok (.iconst (-1), 1) := by decide +kernel
theorem dX8_without_24 : decode cX8_without 24 = .ok (.ireturn, 1) := by decide +kernel
theorem dX8_without_25 : decode cX8_without 25 = .ok (.aload_n 0, 1) := by decide +kernel
theorem dX8_without_26 : decode cX8_without 26 = .ok (.invokevirtual 209, 3) := by decide +kernel
theorem dX8_without_29 : decode cX8_without 29 = .ok (.aload_n 0, 1) := by decide +kernel
theorem dX8_without_30 : decode cX8_without 30 = .ok (.iconst 1, 1) := by decide +kernel
theorem dX8_without_31 : decode cX8_without 31 = .ok (.iload_n 1, 1) := by decide +kernel
theorem dX8_without_32 : decode cX8_without 32 = .ok (.ishl, 1) := by decide +kernel
theorem dX8_without_33 : decode cX8_without 33 = .ok (.invokevirtual 202, 3) := by decide +kernel
theorem dX8_without_36 : decode cX8_without 36 = .ok (.ireturn, 1) := by decide +kernel
theorem dX8_pours_0 : decode cX8_pours 0 = .ok (.iconst 0, 1) := by decide +kernel
theorem dX8_pours_1 : decode cX8_pours 1 = .ok (.istore_n 2, 1) := by decide +kernel
theorem dX8_pours_2 : decode cX8_pours 2 = .ok (.iconst 0, 1) := by decide +kernel
theorem dX8_pours_3 : decode cX8_pours 3 = .ok (.istore_n 3, 1) := by decide +kernel
theorem dX8_pours_4 : decode cX8_pours 4 = .ok (.iload_n 3, 1) := by decide +kernel
theorem dX8_pours_5 : decode cX8_pours 5 = .ok (.aload_n 0, 1) := by decide +kernel
theorem dX8_pours_6 : decode cX8_pours 6 = .ok (.getfield 70, 3) := by decide +kernel
theorem dX8_pours_9 : decode cX8_pours 9 = .ok (.bipush 9, 2) := by decide +kernel
theorem dX8_pours_11 : decode cX8_pours 11 = .ok (.iaload, 1) := by decide +kernel
theorem dX8_pours_12 : decode cX8_pours 12 = .ok (.if_icmp .ge 16, 3) := by decide +kernel
theorem dX8_pours_15 : decode cX8_pours 15 = .ok (.aload_n 0, 1) := by decide +kernel
theorem dX8_pours_16 : decode cX8_pours 16 = .ok (.getfield 97, 3) := by decide +kernel
theorem dX8_pours_19 : decode cX8_pours 19 = .ok (.iload_n 3, 1) := by decide +kernel
theorem dX8_pours_20 : decode cX8_pours 20 = .ok (.iconst 0, 1) := by decide +kernel
theorem dX8_pours_21 : decode cX8_pours 21 = .ok (.iastore, 1) := by decide +kernel
theorem dX8_pours_22 : decode cX8_pours 22 = .ok (.iinc 3 1, 3) := by decide +kernel
theorem dX8_pours_25 : decode cX8_pours 25 = .ok (.goto (-21), 3) := by decide +kernel
theorem dX8_pours_28 : decode cX8_pours 28 = .ok (.iconst 0, 1) := by decide +kernel
theorem dX8_pours_29 : decode cX8_pours 29 = .ok (.istore_n 3, 1) := by decide +kernel
theorem dX8_pours_30 : decode cX8_pours 30 = .ok (.iload_n 3, 1) := by decide +kernel
theorem dX8_pours_31 : decode cX8_pours 31 = .ok (.aload_n 0, 1) := by decide +kernel
theorem dX8_pours_32 : decode cX8_pours 32 = .ok (.getfield 70, 3) := by decide +kernel
theorem dX8_pours_35 : decode cX8_pours 35 = .ok (.bipush 13, 2) := by decide +kernel
theorem dX8_pours_37 : decode cX8_pours 37 = .ok (.iaload, 1) := by decide +kernel
theorem dX8_pours_38 : decode cX8_pours 38 = .ok (.if_icmp .ge 163, 3) := by decide +kernel
theorem dX8_pours_41 : decode cX8_pours 41 = .ok (.aload_n 0, 1) := by decide +kernel
theorem dX8_pours_42 : decode cX8_pours 42 = .ok (.iload_n 3, 1) := by decide +kernel
theorem dX8_pours_43 : decode cX8_pours 43 = .ok (.iconst 2, 1) := by decide +kernel
theorem dX8_pours_44 : decode cX8_pours 44 = .ok (.invokevirtual 180, 3) := by decide +kernel
theorem dX8_pours_47 : decode cX8_pours 47 = .ok (.ifCond .ne 18, 3) := by decide +kernel
theorem dX8_pours_50 : decode cX8_pours 50 = .ok (.aload_n 0, 1) := by decide +kernel
theorem dX8_pours_51 : decode cX8_pours 51 = .ok (.iload_n 3, 1) := by decide +kernel
theorem dX8_pours_52 : decode cX8_pours 52 = .ok (.iconst 1, 1) := by decide +kernel
theorem dX8_pours_53 : decode cX8_pours 53 = .ok (.invokevirtual 180, 3) := by decide +kernel
theorem dX8_pours_56 : decode cX8_pours 56 = .ok (.aload_n 0, 1) := by decide +kernel
theorem dX8_pours_57 : decode cX8_pours 57 = .ok (.iload_n 3, 1) := by decide +kernel
theorem dX8_pours_58 : decode cX8_pours 58 = .ok (.invokevirtual 229, 3) := by decide +kernel
theorem dX8_pours_61 : decode cX8_pours 61 = .ok (.isub, 1) := by decide +kernel
theorem dX8_pours_62 : decode cX8_pours 62 = .ok (.goto 4, 3) := by decide +kernel
theorem dX8_pours_65 : decode cX8_pours 65 = .ok (.iconst 0, 1) := by decide +kernel
theorem dX8_pours_66 : decode cX8_pours 66 = .ok (.istore 4, 2) := by decide +kernel
theorem dX8_pours_68 : decode cX8_pours 68 = .ok (.iconst 0, 1) := by decide +kernel
theorem dX8_pours_69 : decode cX8_pours 69 = .ok (.istore 5, 2) := by decide +kernel
theorem dX8_pours_71 : decode cX8_pours 71 = .ok (.iconst 0, 1) := by decide +kernel
theorem dX8_pours_72 : decode cX8_pours 72 = .ok (.istore 6, 2) := by decide +kernel
theorem dX8_pours_74 : decode cX8_pours 74 = .ok (.iload 6, 2) := by decide +kernel
theorem dX8_pours_76 : decode cX8_pours 76 = .ok (.aload_n 0, 1) := by decide +kernel
theorem dX8_pours_77 : decode cX8_pours 77 = .ok (.getfield 70, 3) := by decide +kernel
theorem dX8_pours_80 : decode cX8_pours 80 = .ok (.bipush 9, 2) := by decide +kernel
theorem dX8_pours_82 : decode cX8_pours 82 = .ok (.iaload, 1) := by decide +kernel
theorem dX8_pours_83 : decode cX8_pours 83 = .ok (.if_icmp .ge 89, 3) := by decide +kernel
theorem dX8_pours_86 : decode cX8_pours 86 = .ok (.aload_n 0, 1) := by decide +kernel
theorem dX8_pours_87 : decode cX8_pours 87 = .ok (.getfield 94, 3) := by decide +kernel
theorem dX8_pours_90 : decode cX8_pours 90 = .ok (.iload 6, 2) := by decide +kernel
theorem dX8_pours_92 : decode cX8_pours 92 = .ok (.iaload, 1) := by decide +kernel
theorem dX8_pours_93 : decode cX8_pours 93 = .ok (.iload_n 3, 1) := by decide +kernel
theorem dX8_pours_94 : decode cX8_pours 94 = .ok (.if_icmp .eq 6, 3) := by decide +kernel
theorem dX8_pours_97 : decode cX8_pours 97 = .ok (.goto 69, 3) := by decide +kernel
theorem dX8_pours_100 : decode cX8_pours 100 = .ok (.iload 4, 2) := by decide +kernel
theorem dX8_pours_102 : decode cX8_pours 102 = .ok (.aload_n 0, 1) := by decide +kernel
theorem dX8_pours_103 : decode cX8_pours 103 = .ok (.iload 6, 2) := by decide +kernel
theorem dX8_pours_105 : decode cX8_pours 105 = .ok (.invokevirtual 220, 3) := by decide +kernel
theorem dX8_pours_108 : decode cX8_pours 108 = .ok (.if_icmp .ge 8, 3) := by decide +kernel
theorem dX8_pours_111 : decode cX8_pours 111 = .ok (.iload 4, 2) := by decide +kernel
theorem dX8_pours_113 : decode cX8_pours 113 = .ok (.goto 9, 3) := by decide +kernel
theorem dX8_pours_116 : decode cX8_pours 116 = .ok (.aload_n 0, 1) := by decide +kernel
theorem dX8_pours_117 : decode cX8_pours 117 = .ok (.iload 6, 2) := by decide +kernel
theorem dX8_pours_119 : decode cX8_pours 119 = .ok (.invokevirtual 220, 3) := by decide +kernel
theorem dX8_pours_122 : decode cX8_pours 122 = .ok (.istore 7, 2) := by decide +kernel
theorem dX8_pours_124 : decode cX8_pours 124 = .ok (.iload 7, 2) := by decide +kernel
theorem dX8_pours_126 : decode cX8_pours 126 = .ok (.ifCond .eq 19, 3) := by decide +kernel
theorem dX8_pours_129 : decode cX8_pours 129 = .ok (.aload_n 0, 1) := by decide +kernel
theorem dX8_pours_130 : decode cX8_pours 130 = .ok (.iload 6, 2) := by decide +kernel
theorem dX8_pours_132 : decode cX8_pours 132 = .ok (.aload_n 0, 1) := by decide +kernel
theorem dX8_pours_133 : decode cX8_pours 133 = .ok (.iload_n 3, 1) := by decide +kernel
theorem dX8_pours_134 : decode cX8_pours 134 = .ok (.iconst 0, 1) := by decide +kernel
theorem dX8_pours_135 : decode cX8_pours 135 = .ok (.invokevirtual 180, 3) := by decide +kernel
theorem dX8_pours_138 : decode cX8_pours 138 = .ok (.iload_n 1, 1) := by decide +kernel
theorem dX8_pours_139 : decode cX8_pours 139 = .ok (.invokevirtual 235, 3) := by decide +kernel
theorem dX8_pours_142 : decode cX8_pours 142 = .ok (.ifCond .ne 5, 3) := by decide +kernel
theorem dX8_pours_145 : decode cX8_pours 145 = .ok (.iconst (-1), 1) := by decide +kernel
theorem dX8_pours_146 : decode cX8_pours 146 = .ok (.ireturn, 1) := by decide +kernel
theorem dX8_pours_147 : decode cX8_pours 147 = .ok (.aload_n 0, 1) := by decide +kernel
theorem dX8_pours_148 : decode cX8_pours 148 = .ok (.getfield 97, 3) := by decide +kernel
theorem dX8_pours_151 : decode cX8_pours 151 = .ok (.iload 6, 2) := by decide +kernel
theorem dX8_pours_153 : decode cX8_pours 153 = .ok (.iload 7, 2) := by decide +kernel
theorem dX8_pours_155 : decode cX8_pours 155 = .ok (.iastore, 1) := by decide +kernel
theorem dX8_pours_156 : decode cX8_pours 156 = .ok (.iload 4, 2) := by decide +kernel
theorem dX8_pours_158 : decode cX8_pours 158 = .ok (.iload 7, 2) := by decide +kernel
theorem dX8_pours_160 : decode cX8_pours 160 = .ok (.isub, 1) := by decide +kernel
theorem dX8_pours_161 : decode cX8_pours 161 = .ok (.istore 4, 2) := by decide +kernel
theorem dX8_pours_163 : decode cX8_pours 163 = .ok (.iconst 1, 1) := by decide +kernel
theorem dX8_pours_164 : decode cX8_pours 164 = .ok (.istore 5, 2) := by decide +kernel
theorem dX8_pours_166 : decode cX8_pours 166 = .ok (.iinc 6 1, 3) := by decide +kernel
theorem dX8_pours_169 : decode cX8_pours 169 = .ok (.goto (-95), 3) := by decide +kernel
theorem dX8_pours_172 : decode cX8_pours 172 = .ok (.iload 5, 2) := by decide +kernel
theorem dX8_pours_174 : decode cX8_pours 174 = .ok (.ifCond .eq 10, 3) := by decide +kernel
theorem dX8_pours_177 : decode cX8_pours 177 = .ok (.iload 4, 2) := by decide +kernel
theorem dX8_pours_179 : decode cX8_pours 179 = .ok (.ifCond .le 5, 3) := by decide +kernel
theorem dX8_pours_182 : decode cX8_pours 182 = .ok (.iconst (-1), 1) := by decide +kernel
theorem dX8_pours_183 : decode cX8_pours 183 = .ok (.ireturn, 1) := by decide +kernel
theorem dX8_pours_184 : decode cX8_pours 184 = .ok (.iload 5, 2) := by decide +kernel
theorem dX8_pours_186 : decode cX8_pours 186 = .ok (.ifCond .eq 9, 3) := by decide +kernel
theorem dX8_pours_189 : decode cX8_pours 189 = .ok (.iload_n 2, 1) := by decide +kernel
theorem dX8_pours_190 : decode cX8_pours 190 = .ok (.iconst 1, 1) := by decide +kernel
theorem dX8_pours_191 : decode cX8_pours 191 = .ok (.iload_n 3, 1) := by decide +kernel
theorem dX8_pours_192 : decode cX8_pours 192 = .ok (.ishl, 1) := by decide +kernel
theorem dX8_pours_193 : decode cX8_pours 193 = .ok (.ior, 1) := by decide +kernel
