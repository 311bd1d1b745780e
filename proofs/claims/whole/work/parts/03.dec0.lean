theorem dX0_init_0 : decode cX0_init 0 = .ok (.aload_n 0, 1) := by decide +kernel
theorem dX0_init_1 : decode cX0_init 1 = .ok (.invokespecial 1, 3) := by decide +kernel
theorem dX0_init_4 : decode cX0_init 4 = .ok (.aload_n 0, 1) := by decide +kernel
theorem dX0_init_5 : decode cX0_init 5 = .ok (.bipush 24, 2) := by decide +kernel
theorem dX0_init_7 : decode cX0_init 7 = .ok (.newarray .int, 2) := by decide +kernel
theorem dX0_init_9 : decode cX0_init 9 = .ok (.putfield 9, 3) := by decide +kernel
theorem dX0_init_12 : decode cX0_init 12 = .ok (.aload_n 0, 1) := by decide +kernel
theorem dX0_init_13 : decode cX0_init 13 = .ok (.bipush 50, 2) := by decide +kernel
theorem dX0_init_15 : decode cX0_init 15 = .ok (.newarray .int, 2) := by decide +kernel
theorem dX0_init_17 : decode cX0_init 17 = .ok (.putfield 13, 3) := by decide +kernel
theorem dX0_init_20 : decode cX0_init 20 = .ok (.return_, 1) := by decide +kernel
theorem dX0_addBody_0 : decode cX0_addBody 0 = .ok (.aload_n 0, 1) := by decide +kernel
theorem dX0_addBody_1 : decode cX0_addBody 1 = .ok (.getfield 13, 3) := by decide +kernel
theorem dX0_addBody_4 : decode cX0_addBody 4 = .ok (.aload_n 0, 1) := by decide +kernel
theorem dX0_addBody_5 : decode cX0_addBody 5 = .ok (.getfield 16, 3) := by decide +kernel
theorem dX0_addBody_8 : decode cX0_addBody 8 = .ok (.iload_n 1, 1) := by decide +kernel
theorem dX0_addBody_9 : decode cX0_addBody 9 = .ok (.iastore, 1) := by decide +kernel
theorem dX0_addBody_10 : decode cX0_addBody 10 = .ok (.aload_n 0, 1) := by decide +kernel
theorem dX0_addBody_11 : decode cX0_addBody 11 = .ok (.dup, 1) := by decide +kernel
theorem dX0_addBody_12 : decode cX0_addBody 12 = .ok (.getfield 16, 3) := by decide +kernel
theorem dX0_addBody_15 : decode cX0_addBody 15 = .ok (.dup_x1, 1) := by decide +kernel
theorem dX0_addBody_16 : decode cX0_addBody 16 = .ok (.iconst 1, 1) := by decide +kernel
theorem dX0_addBody_17 : decode cX0_addBody 17 = .ok (.iadd, 1) := by decide +kernel
theorem dX0_addBody_18 : decode cX0_addBody 18 = .ok (.putfield 16, 3) := by decide +kernel
theorem dX0_addBody_21 : decode cX0_addBody 21 = .ok (.ireturn, 1) := by decide +kernel
theorem dX0_kindOf_0 : decode cX0_kindOf 0 = .ok (.iload_n 1, 1) := by decide +kernel
theorem dX0_kindOf_1 : decode cX0_kindOf 1 = .ok (.ifCond .lt 20, 3) := by decide +kernel
theorem dX0_kindOf_4 : decode cX0_kindOf 4 = .ok (.iload_n 1, 1) := by decide +kernel
theorem dX0_kindOf_5 : decode cX0_kindOf 5 = .ok (.aload_n 0, 1) := by decide +kernel
theorem dX0_kindOf_6 : decode cX0_kindOf 6 = .ok (.getfield 16, 3) := by decide +kernel
theorem dX0_kindOf_9 : decode cX0_kindOf 9 = .ok (.if_icmp .ge 12, 3) := by decide +kernel
theorem dX0_kindOf_12 : decode cX0_kindOf 12 = .ok (.aload_n 0, 1) := by decide +kernel
theorem dX0_kindOf_13 : decode cX0_kindOf 13 = .ok (.getfield 13, 3) := by decide +kernel
theorem dX0_kindOf_16 : decode cX0_kindOf 16 = .ok (.iload_n 1, 1) := by decide +kernel
theorem dX0_kindOf_17 : decode cX0_kindOf 17 = .ok (.iaload, 1) := by decide +kernel
theorem dX0_kindOf_18 : decode cX0_kindOf 18 = .ok (.goto 4, 3) := by decide +kernel
theorem dX0_kindOf_21 : decode cX0_kindOf 21 = .ok (.iconst 0, 1) := by decide +kernel
theorem dX0_kindOf_22 : decode cX0_kindOf 22 = .ok (.ireturn, 1) := by decide +kernel
theorem dX0_isUnder_0 : decode cX0_isUnder 0 = .ok (.iload_n 0, 1) := by decide +kernel
theorem dX0_isUnder_1 : decode cX0_isUnder 1 = .ok (.istore_n 2, 1) := by decide +kernel
theorem dX0_isUnder_2 : decode cX0_isUnder 2 = .ok (.iconst 0, 1) := by decide +kernel
theorem dX0_isUnder_3 : decode cX0_isUnder 3 = .ok (.istore_n 3, 1) := by decide +kernel
theorem dX0_isUnder_4 : decode cX0_isUnder 4 = .ok (.iload_n 3, 1) := by decide +kernel
theorem dX0_isUnder_5 : decode cX0_isUnder 5 = .ok (.bipush 8, 2) := by decide +kernel
theorem dX0_isUnder_7 : decode cX0_isUnder 7 = .ok (.if_icmp .ge 26, 3) := by decide +kernel
theorem dX0_isUnder_10 : decode cX0_isUnder 10 = .ok (.iload_n 2, 1) := by decide +kernel
theorem dX0_isUnder_11 : decode cX0_isUnder 11 = .ok (.ifCond .lt 22, 3) := by decide +kernel
theorem dX0_isUnder_14 : decode cX0_isUnder 14 = .ok (.iload_n 2, 1) := by decide +kernel
theorem dX0_isUnder_15 : decode cX0_isUnder 15 = .ok (.iload_n 1, 1) := by decide +kernel
theorem dX0_isUnder_16 : decode cX0_isUnder 16 = .ok (.if_icmp .ne 5, 3) := by decide +kernel
theorem dX0_isUnder_19 : decode cX0_isUnder 19 = .ok (.iconst 1, 1) := by decide +kernel
theorem dX0_isUnder_20 : decode cX0_isUnder 20 = .ok (.ireturn, 1) := by decide +kernel
theorem dX0_isUnder_21 : decode cX0_isUnder 21 = .ok (.getstatic 20, 3) := by decide +kernel
theorem dX0_isUnder_24 : decode cX0_isUnder 24 = .ok (.iload_n 2, 1) := by decide +kernel
theorem dX0_isUnder_25 : decode cX0_isUnder 25 = .ok (.iaload, 1) := by decide +kernel
theorem dX0_isUnder_26 : decode cX0_isUnder 26 = .ok (.istore_n 2, 1) := by decide +kernel
theorem dX0_isUnder_27 : decode cX0_isUnder 27 = .ok (.iinc 3 1, 3) := by decide +kernel
theorem dX0_isUnder_30 : decode cX0_isUnder 30 = .ok (.goto (-26), 3) := by decide +kernel
theorem dX0_isUnder_33 : decode cX0_isUnder 33 = .ok (.iconst 0, 1) := by decide +kernel
theorem dX0_isUnder_34 : decode cX0_isUnder 34 = .ok (.ireturn, 1) := by decide +kernel
theorem dX0_begin_0 : decode cX0_begin 0 = .ok (.aload_n 0, 1) := by decide +kernel
theorem dX0_begin_1 : decode cX0_begin 1 = .ok (.iload_n 1, 1) := by decide +kernel
theorem dX0_begin_2 : decode cX0_begin 2 = .ok (.putfield 23, 3) := by decide +kernel
theorem dX0_begin_5 : decode cX0_begin 5 = .ok (.aload_n 0, 1) := by decide +kernel
theorem dX0_begin_6 : decode cX0_begin 6 = .ok (.aload_n 0, 1) := by decide +kernel
theorem dX0_begin_7 : decode cX0_begin 7 = .ok (.iload_n 1, 1) := by decide +kernel
theorem dX0_begin_8 : decode cX0_begin 8 = .ok (.invokevirtual 26, 3) := by decide +kernel
theorem dX0_begin_11 : decode cX0_begin 11 = .ok (.putfield 30, 3) := by decide +kernel
theorem dX0_begin_14 : decode cX0_begin 14 = .ok (.aload_n 0, 1) := by decide +kernel
theorem dX0_begin_15 : decode cX0_begin 15 = .ok (.aload_n 0, 1) := by decide +kernel
theorem dX0_begin_16 : decode cX0_begin 16 = .ok (.getfield 30, 3) := by decide +kernel
theorem dX0_begin_19 : decode cX0_begin 19 = .ok (.iload_n 2, 1) := by decide +kernel
theorem dX0_begin_20 : decode cX0_begin 20 = .ok (.iload_n 3, 1) := by decide +kernel
theorem dX0_begin_21 : decode cX0_begin 21 = .ok (.iconst 0, 1) := by decide +kernel
theorem dX0_begin_22 : decode cX0_begin 22 = .ok (.invokevirtual 33, 3) := by decide +kernel
theorem dX0_begin_25 : decode cX0_begin 25 = .ok (.ireturn, 1) := by decide +kernel
theorem dX0_run_0 : decode cX0_run 0 = .ok (.iload_n 1, 1) := by decide +kernel
theorem dX0_run_1 : decode cX0_run 1 = .ok (.istore 5, 2) := by decide +kernel
theorem dX0_run_3 : decode cX0_run 3 = .ok (.iconst 0, 1) := by decide +kernel
theorem dX0_run_4 : decode cX0_run 4 = .ok (.istore 6, 2) := by decide +kernel
theorem dX0_run_6 : decode cX0_run 6 = .ok (.iload 6, 2) := by decide +kernel
theorem dX0_run_8 : decode cX0_run 8 = .ok (.bipush 8, 2) := by decide +kernel
theorem dX0_run_10 : decode cX0_run 10 = .ok (.if_icmp .ge 35, 3) := by decide +kernel
theorem dX0_run_13 : decode cX0_run 13 = .ok (.iload 5, 2) := by decide +kernel
theorem dX0_run_15 : decode cX0_run 15 = .ok (.ifCond .le 30, 3) := by decide +kernel
theorem dX0_run_18 : decode cX0_run 18 = .ok (.getstatic 37, 3) := by decide +kernel
theorem dX0_run_21 : decode cX0_run 21 = .ok (.iload 5, 2) := by decide +kernel
theorem dX0_run_23 : decode cX0_run 23 = .ok (.iconst 4, 1) := by decide +kernel
theorem dX0_run_24 : decode cX0_run 24 = .ok (.imul, 1) := by decide +kernel
theorem dX0_run_25 : decode cX0_run 25 = .ok (.iload_n 2, 1) := by decide +kernel
theorem dX0_run_26 : decode cX0_run 26 = .ok (.iadd, 1) := by decide +kernel
theorem dX0_run_27 : decode cX0_run 27 = .ok (.iaload, 1) := by decide +kernel
theorem dX0_run_28 : decode cX0_run 28 = .ok (.ifCond .ne 17, 3) := by decide +kernel
theorem dX0_run_31 : decode cX0_run 31 = .ok (.getstatic 20, 3) := by decide +kernel
theorem dX0_run_34 : decode cX0_run 34 = .ok (.iload 5, 2) := by decide +kernel
theorem dX0_run_36 : decode cX0_run 36 = .ok (.iaload, 1) := by decide +kernel
theorem dX0_run_37 : decode cX0_run 37 = .ok (.istore 5, 2) := by decide +kernel
theorem dX0_run_39 : decode cX0_run 39 = .ok (.iinc 6 1, 3) := by decide +kernel
theorem dX0_run_42 : decode cX0_run 42 = .ok (.goto (-36), 3) := by decide +kernel
theorem dX0_run_45 : decode cX0_run 45 = .ok (.iload 5, 2) := by decide +kernel
theorem dX0_run_47 : decode cX0_run 47 = .ok (.ifCond .lt 10, 3) := by decide +kernel
theorem dX0_run_50 : decode cX0_run 50 = .ok (.iload 4, 2) := by decide +kernel
theorem dX0_run_52 : decode cX0_run 52 = .ok (.bipush 40, 2) := by decide +kernel
theorem dX0_run_54 : decode cX0_run 54 = .ok (.if_icmp .le 5, 3) := by decide +kernel
theorem dX0_run_57 : decode cX0_run 57 = .ok (.iconst 0, 1) := by decide +kernel
theorem dX0_run_58 : decode cX0_run 58 = .ok (.ireturn, 1) := by decide +kernel
theorem dX0_run_59 : decode cX0_run 59 = .ok (.getstatic 37, 3) := by decide +kernel
theorem dX0_run_62 : decode cX0_run 62 = .ok (.iload 5, 2) := by decide +kernel
theorem dX0_run_64 : decode cX0_run 64 = .ok (.iconst 4, 1) := by decide +kernel
theorem dX0_run_65 : decode cX0_run 65 = .ok (.imul, 1) := by decide +kernel
theorem dX0_run_66 : decode cX0_run 66 = .ok (.iload_n 2, 1) := by decide +kernel
theorem dX0_run_67 : decode cX0_run 67 = .ok (.iadd, 1) := by decide +kernel
theorem dX0_run_68 : decode cX0_run 68 = .ok (.iaload, 1) := by decide +kernel
theorem dX0_run_69 : decode cX0_run 69 = .ok (.istore 6, 2) := by decide +kernel
theorem dX0_run_71 : decode cX0_run 71 = .ok (.aload_n 0, 1) := by decide +kernel
theorem dX0_run_72 : decode cX0_run 72 = .ok (.iload 6, 2) := by decide +kernel
theorem dX0_run_74 : decode cX0_run 74 = .ok (.invokevirtual 40, 3) := by decide +kernel
theorem dX0_run_77 : decode cX0_run 77 = .ok (.getstatic 20, 3) := by decide +kernel
theorem dX0_run_80 : decode cX0_run 80 = .ok (.iload 5, 2) := by decide +kernel
theorem dX0_run_82 : decode cX0_run 82 = .ok (.iaload, 1) := by decide +kernel
theorem dX0_run_83 : decode cX0_run 83 = .ok (.istore 7, 2) := by decide +kernel
theorem dX0_run_85 : decode cX0_run 85 = .ok (.iload 4, 2) := by decide +kernel
theorem dX0_run_87 : decode cX0_run 87 = .ok (.iconst 1, 1) := by decide +kernel
theorem dX0_run_88 : decode cX0_run 88 = .ok (.iadd, 1) := by decide +kernel
theorem dX0_run_89 : decode cX0_run 89 = .ok (.istore 8, 2) := by decide +kernel
theorem dX0_run_91 : decode cX0_run 91 = .ok (.iload 6, 2) := by decide +kernel
theorem dX0_run_93 : decode cX0_run 93 = .ok (.lookupswitch 308 #[(1, 115), (2, 122), (10, 148), (11, 163), (20, 170), (30, 183), (40, 195), (41, 208), (50, 221), (60, 245), (70, 258), (80, 271), (81, 295)], 115) := by decide +kernel
theorem dX0_run_208 : decode cX0_run 208 = .ok (.iload_n 3, 1) := by decide +kernel
theorem dX0_run_209 : decode cX0_run 209 = .ok (.aload_n 0, 1) := by decide +kernel
theorem dX0_run_210 : decode cX0_run 210 = .ok (.getfield 23, 3) := by decide +kernel
theorem dX0_run_213 : decode cX0_run 213 = .ok (.iadd, 1) := by decide +kernel
theorem dX0_run_214 : decode cX0_run 214 = .ok (.ireturn, 1) := by decide +kernel
theorem dX0_run_215 : decode cX0_run 215 = .ok (.aload_n 0, 1) := by decide +kernel
theorem dX0_run_216 : decode cX0_run 216 = .ok (.aload_n 0, 1) := by decide +kernel
theorem dX0_run_217 : decode cX0_run 217 = .ok (.getfield 30, 3) := by decide +kernel
theorem dX0_run_220 : decode cX0_run 220 = .ok (.iconst 1, 1) := by decide +kernel
theorem dX0_run_221 : decode cX0_run 221 = .ok (.iload_n 3, 1) := by decide +kernel
theorem dX0_run_222 : decode cX0_run 222 = .ok (.iload 8, 2) := by decide +kernel
theorem dX0_run_224 : decode cX0_run 224 = .ok (.invokevirtual 33, 3) := by decide +kernel
theorem dX0_run_227 : decode cX0_run 227 = .ok (.aload_n 0, 1) := by decide +kernel
theorem dX0_run_228 : decode cX0_run 228 = .ok (.aload_n 0, 1) := by decide +kernel
theorem dX0_run_229 : decode cX0_run 229 = .ok (.getfield 30, 3) := by decide +kernel
theorem dX0_run_232 : decode cX0_run 232 = .ok (.iconst 2, 1) := by decide +kernel
theorem dX0_run_233 : decode cX0_run 233 = .ok (.iconst 1, 1) := by decide +kernel
theorem dX0_run_234 : decode cX0_run 234 = .ok (.iload 8, 2) := by decide +kernel
theorem dX0_run_236 : decode cX0_run 236 = .ok (.invokevirtual 33, 3) := by decide +kernel
theorem dX0_run_239 : decode cX0_run 239 = .ok (.isub, 1) := by decide +kernel
theorem dX0_run_240 : decode cX0_run 240 = .ok (.ireturn, 1) := by decide +kernel
theorem dX0_run_241 : decode cX0_run 241 = .ok (.aload_n 0, 1) := by decide +kernel
theorem dX0_run_242 : decode cX0_run 242 = .ok (.aload_n 0, 1) := by decide +kernel
theorem dX0_run_243 : decode cX0_run 243 = .ok (.getfield 30, 3) := by decide +kernel
theorem dX0_run_246 : decode cX0_run 246 = .ok (.iconst 0, 1) := by decide +kernel
theorem dX0_run_247 : decode cX0_run 247 = .ok (.iload_n 3, 1) := by decide +kernel
theorem dX0_run_248 : decode cX0_run 248 = .ok (.iload 8, 2) := by decide +kernel
theorem dX0_run_250 : decode cX0_run 250 = .ok (.invokevirtual 33, 3) := by decide +kernel
theorem dX0_run_253 : decode cX0_run 253 = .ok (.iconst 2, 1) := by decide +kernel
theorem dX0_run_254 : decode cX0_run 254 = .ok (.imul, 1) := by decide +kernel
theorem dX0_run_255 : decode cX0_run 255 = .ok (.ireturn, 1) := by decide +kernel
theorem dX0_run_256 : decode cX0_run 256 = .ok (.iload_n 3, 1) := by decide +kernel
theorem dX0_run_257 : decode cX0_run 257 = .ok (.aload_n 0, 1) := by decide +kernel
theorem dX0_run_258 : decode cX0_run 258 = .ok (.getfield 23, 3) := by decide +kernel
theorem dX0_run_261 : decode cX0_run 261 = .ok (.ixor, 1) := by decide +kernel
theorem dX0_run_262 : decode cX0_run 262 = .ok (.ireturn, 1) := by decide +kernel
theorem dX0_run_263 : decode cX0_run 263 = .ok (.aload_n 0, 1) := by decide +kernel
theorem dX0_run_264 : decode cX0_run 264 = .ok (.iload 7, 2) := by decide +kernel
theorem dX0_run_266 : decode cX0_run 266 = .ok (.iconst 0, 1) := by decide +kernel
theorem dX0_run_267 : decode cX0_run 267 = .ok (.iload_n 3, 1) := by decide +kernel
theorem dX0_run_268 : decode cX0_run 268 = .ok (.iload 8, 2) := by decide +kernel
theorem dX0_run_270 : decode cX0_run 270 = .ok (.invokevirtual 33, 3) := by decide +kernel
theorem dX0_run_273 : decode cX0_run 273 = .ok (.iconst 3, 1) := by decide +kernel
theorem dX0_run_274 : decode cX0_run 274 = .ok (.iadd, 1) := by decide +kernel
theorem dX0_run_275 : decode cX0_run 275 = .ok (.ireturn, 1) := by decide +kernel
theorem dX0_run_276 : decode cX0_run 276 = .ok (.aload_n 0, 1) := by decide +kernel
theorem dX0_run_277 : decode cX0_run 277 = .ok (.iload 7, 2) := by decide +kernel
theorem dX0_run_279 : decode cX0_run 279 = .ok (.iconst 1, 1) := by decide +kernel
theorem dX0_run_280 : decode cX0_run 280 = .ok (.iload_n 3, 1) := by decide +kernel
theorem dX0_run_281 : decode cX0_run 281 = .ok (.iload 8, 2) := by decide +kernel
theorem dX0_run_283 : decode cX0_run 283 = .ok (.invokevirtual 33, 3) := by decide +kernel
theorem dX0_run_286 : decode cX0_run 286 = .ok (.ineg, 1) := by decide +kernel
theorem dX0_run_287 : decode cX0_run 287 = .ok (.ireturn, 1) := by decide +kernel
theorem dX0_run_288 : decode cX0_run 288 = .ok (.aload_n 0, 1) := by decide +kernel
theorem dX0_run_289 : decode cX0_run 289 = .ok (.iload 7, 2) := by decide +kernel
theorem dX0_run_291 : decode cX0_run 291 = .ok (.iconst 2, 1) := by decide +kernel
theorem dX0_run_292 : decode cX0_run 292 = .ok (.iload_n 3, 1) := by decide +kernel
theorem dX0_run_293 : decode cX0_run 293 = .ok (.iload 8, 2) := by decide +kernel
theorem dX0_run_295 : decode cX0_run 295 = .ok (.invokevirtual 33, 3) := by decide +kernel
theorem dX0_run_298 : decode cX0_run 298 = .ok (.iconst 3, 1) := by decide +kernel
theorem dX0_run_299 : decode cX0_run 299 = .ok (.imul, 1) := by decide +kernel
theorem dX0_run_300 : decode cX0_run 300 = .ok (.ireturn, 1) := by decide +kernel
theorem dX0_run_301 : decode cX0_run 301 = .ok (.aload_n 0, 1) := by decide +kernel
theorem dX0_run_302 : decode cX0_run 302 = .ok (.iload 7, 2) := by decide +kernel
theorem dX0_run_304 : decode cX0_run 304 = .ok (.iconst 1, 1) := by decide +kernel
theorem dX0_run_305 : decode cX0_run 305 = .ok (.iload_n 3, 1) := by decide +kernel
theorem dX0_run_306 : decode cX0_run 306 = .ok (.iconst 1, 1) := by decide +kernel
theorem dX0_run_307 : decode cX0_run 307 = .ok (.iadd, 1) := by decide +kernel
theorem dX0_run_308 : decode cX0_run 308 = .ok (.iload 8, 2) := by decide +kernel
theorem dX0_run_310 : decode cX0_run 310 = .ok (.invokevirtual 33, 3) := by decide +kernel
theorem dX0_run_313 : decode cX0_run 313 = .ok (.ireturn, 1) := by decide +kernel
theorem dX0_run_314 : decode cX0_run 314 = .ok (.aload_n 0, 1) := by decide +kernel
theorem dX0_run_315 : decode cX0_run 315 = .ok (.iload 7, 2) := by decide +kernel
theorem dX0_run_317 : decode cX0_run 317 = .ok (.iconst 2, 1) := by decide +kernel
theorem dX0_run_318 : decode cX0_run 318 = .ok (.iload_n 3, 1) := by decide +kernel
theorem dX0_run_319 : decode cX0_run 319 = .ok (.iload 8, 2) := by decide +kernel
theorem dX0_run_321 : decode cX0_run 321 = .ok (.invokevirtual 33, 3) := by decide +kernel
theorem dX0_run_324 : decode cX0_run 324 = .ok (.aload_n 0, 1) := by decide +kernel
theorem dX0_run_325 : decode cX0_run 325 = .ok (.aload_n 0, 1) := by decide +kernel
theorem dX0_run_326 : decode cX0_run 326 = .ok (.getfield 30, 3) := by decide +kernel
theorem dX0_run_329 : decode cX0_run 329 = .ok (.iconst 0, 1) := by decide +kernel
theorem dX0_run_330 : decode cX0_run 330 = .ok (.iconst 2, 1) := by decide +kernel
theorem dX0_run_331 : decode cX0_run 331 = .ok (.iload 8, 2) := by decide +kernel
theorem dX0_run_333 : decode cX0_run 333 = .ok (.invokevirtual 33, 3) := by decide +kernel
theorem dX0_run_336 : decode cX0_run 336 = .ok (.isub, 1) := by decide +kernel
theorem dX0_run_337 : decode cX0_run 337 = .ok (.ireturn, 1) := by decide +kernel
theorem dX0_run_338 : decode cX0_run 338 = .ok (.aload_n 0, 1) := by decide +kernel
theorem dX0_run_339 : decode cX0_run 339 = .ok (.iload 7, 2) := by decide +kernel
theorem dX0_run_341 : decode cX0_run 341 = .ok (.iconst 3, 1) := by decide +kernel
theorem dX0_run_342 : decode cX0_run 342 = .ok (.iload_n 3, 1) := by decide +kernel
theorem dX0_run_343 : decode cX0_run 343 = .ok (.iload 8, 2) := by decide +kernel
theorem dX0_run_345 : decode cX0_run 345 = .ok (.invokevirtual 33, 3) := by decide +kernel
theorem dX0_run_348 : decode cX0_run 348 = .ok (.iconst 5, 1) := by decide +kernel
theorem dX0_run_349 : decode cX0_run 349 = .ok (.ixor, 1) := by decide +kernel
theorem dX0_run_350 : decode cX0_run 350 = .ok (.ireturn, 1) := by decide +kernel
theorem dX0_run_351 : decode cX0_run 351 = .ok (.aload_n 0, 1) := by decide +kernel
theorem dX0_run_352 : decode cX0_run 352 = .ok (.iload 7, 2) := by decide +kernel
theorem dX0_run_354 : decode cX0_run 354 = .ok (.iconst 0, 1) := by decide +kernel
theorem dX0_run_355 : decode cX0_run 355 = .ok (.iload_n 3, 1) := by decide +kernel
theorem dX0_run_356 : decode cX0_run 356 = .ok (.iload 8, 2) := by decide +kernel
theorem dX0_run_358 : decode cX0_run 358 = .ok (.invokevirtual 33, 3) := by decide +kernel
theorem dX0_run_361 : decode cX0_run 361 = .ok (.iconst 2, 1) := by decide +kernel
theorem dX0_run_362 : decode cX0_run 362 = .ok (.imul, 1) := by decide +kernel
theorem dX0_run_363 : decode cX0_run 363 = .ok (.ireturn, 1) := by decide +kernel
theorem dX0_run_364 : decode cX0_run 364 = .ok (.aload_n 0, 1) := by decide +kernel
theorem dX0_run_365 : decode cX0_run 365 = .ok (.iload 7, 2) := by decide +kernel
theorem dX0_run_367 : decode cX0_run 367 = .ok (.iconst 1, 1) := by decide +kernel
theorem dX0_run_368 : decode cX0_run 368 = .ok (.iload_n 3, 1) := by decide +kernel
theorem dX0_run_369 : decode cX0_run 369 = .ok (.iload 8, 2) := by decide +kernel
theorem dX0_run_371 : decode cX0_run 371 = .ok (.invokevirtual 33, 3) := by decide +kernel
theorem dX0_run_374 : decode cX0_run 374 = .ok (.aload_n 0, 1) := by decide +kernel
theorem dX0_run_375 : decode cX0_run 375 = .ok (.aload_n 0, 1) := by decide +kernel
theorem dX0_run_376 : decode cX0_run 376 = .ok (.getfield 30, 3) := by decide +kernel
theorem dX0_run_379 : decode cX0_run 379 = .ok (.iconst 2, 1) := by decide +kernel
theorem dX0_run_380 : decode cX0_run 380 = .ok (.iconst 2, 1) := by decide +kernel
theorem dX0_run_381 : decode cX0_run 381 = .ok (.iload 8, 2) := by decide +kernel
theorem dX0_run_383 : decode cX0_run 383 = .ok (.invokevirtual 33, 3) := by decide +kernel
theorem dX0_run_386 : decode cX0_run 386 = .ok (.iadd, 1) := by decide +kernel
theorem dX0_run_387 : decode cX0_run 387 = .ok (.ireturn, 1) := by decide +kernel
theorem dX0_run_388 : decode cX0_run 388 = .ok (.aload_n 0, 1) := by decide +kernel
theorem dX0_run_389 : decode cX0_run 389 = .ok (.iload 7, 2) := by decide +kernel
theorem dX0_run_391 : decode cX0_run 391 = .ok (.iconst 3, 1) := by decide +kernel
theorem dX0_run_392 : decode cX0_run 392 = .ok (.iload_n 3, 1) := by decide +kernel
theorem dX0_run_393 : decode cX0_run 393 = .ok (.iload 8, 2) := by decide +kernel
theorem dX0_run_395 : decode cX0_run 395 = .ok (.invokevirtual 33, 3) := by decide +kernel
theorem dX0_run_398 : decode cX0_run 398 = .ok (.iconst 1, 1) := by decide +kernel
theorem dX0_run_399 : decode cX0_run 399 = .ok (.isub, 1) := by decide +kernel
theorem dX0_run_400 : decode cX0_run 400 = .ok (.ireturn, 1) := by decide +kernel
theorem dX0_run_401 : decode cX0_run 401 = .ok (.iconst 0, 1) := by decide +kernel
theorem dX0_run_402 : decode cX0_run 402 = .ok (.ireturn, 1) := by decide +kernel
theorem dX0_mark_0 : decode cX0_mark 0 = .ok (.aload_n 0, 1) := by decide +kernel
theorem dX0_mark_1 : decode cX0_mark 1 = .ok (.getfield 44, 3) := by decide +kernel
theorem dX0_mark_4 : decode cX0_mark 4 = .ok (.bipush 24, 2) := by decide +kernel
theorem dX0_mark_6 : decode cX0_mark 6 = .ok (.if_icmp .ge 13, 3) := by decide +kernel
theorem dX0_mark_9 : decode cX0_mark 9 = .ok (.aload_n 0, 1) := by decide +kernel
theorem dX0_mark_10 : decode cX0_mark 10 = .ok (.getfield 9, 3) := by decide +kernel
theorem dX0_mark_13 : decode cX0_mark 13 = .ok (.aload_n 0, 1) := by decide +kernel
theorem dX0_mark_14 : decode cX0_mark 14 = .ok (.getfield 44, 3) := by decide +kernel
theorem dX0_mark_17 : decode cX0_mark 17 = .ok (.iload_n 1, 1) := by decide +kernel
theorem dX0_mark_18 : decode cX0_mark 18 = .ok (.iastore, 1) := by decide +kernel
theorem dX0_mark_19 : decode cX0_mark 19 = .ok (.aload_n 0, 1) := by decide +kernel
theorem dX0_mark_20 : decode cX0_mark 20 = .ok (.dup, 1) := by decide +kernel
theorem dX0_mark_21 : decode cX0_mark 21 = .ok (.getfield 44, 3) := by decide +kernel
theorem dX0_mark_24 : decode cX0_mark 24 = .ok (.iconst 1, 1) := by decide +kernel
theorem dX0_mark_25 : decode cX0_mark 25 = .ok (.iadd, 1) := by decide +kernel
theorem dX0_mark_26 : decode cX0_mark 26 = .ok (.putfield 44, 3) := by decide +kernel
theorem dX0_mark_29 : decode cX0_mark 29 = .ok (.return_, 1) := by decide +kernel
theorem dX1_init_0 : decode cX1_init 0 = .ok (.aload_n 0, 1) := by decide +kernel
theorem dX1_init_1 : decode cX1_init 1 = .ok (.invokespecial 1, 3) := by decide +kernel
theorem dX1_init_4 : decode cX1_init 4 = .ok (.aload_n 0, 1) := by decide +kernel
theorem dX1_init_5 : decode cX1_init 5 = .ok (.bipush 40, 2) := by decide +kernel
theorem dX1_init_7 : decode cX1_init 7 = .ok (.newarray .int, 2) := by decide +kernel
theorem dX1_init_9 : decode cX1_init 9 = .ok (.putfield 9, 3) := by decide +kernel
theorem dX1_init_12 : decode cX1_init 12 = .ok (.aload_n 0, 1) := by decide +kernel
theorem dX1_init_13 : decode cX1_init 13 = .ok (.bipush 40, 2) := by decide +kernel
theorem dX1_init_15 : decode cX1_init 15 = .ok (.newarray .int, 2) := by decide +kernel
theorem dX1_init_17 : decode cX1_init 17 = .ok (.putfield 13, 3) := by decide +kernel
theorem dX1_init_20 : decode cX1_init 20 = .ok (.aload_n 0, 1) := by decide +kernel
theorem dX1_init_21 : decode cX1_init 21 = .ok (.bipush 40, 2) := by decide +kernel
theorem dX1_init_23 : decode cX1_init 23 = .ok (.newarray .int, 2) := by decide +kernel
theorem dX1_init_25 : decode cX1_init 25 = .ok (.putfield 16, 3) := by decide +kernel
theorem dX1_init_28 : decode cX1_init 28 = .ok (.aload_n 0, 1) := by decide +kernel
theorem dX1_init_29 : decode cX1_init 29 = .ok (.bipush 40, 2) := by decide +kernel
theorem dX1_init_31 : decode cX1_init 31 = .ok (.newarray .int, 2) := by decide +kernel
theorem dX1_init_33 : decode cX1_init 33 = .ok (.putfield 19, 3) := by decide +kernel
theorem dX1_init_36 : decode cX1_init 36 = .ok (.return_, 1) := by decide +kernel
theorem dX1_note_0 : decode cX1_note 0 = .ok (.aload_n 0, 1) := by decide +kernel
theorem dX1_note_1 : decode cX1_note 1 = .ok (.getfield 22, 3) := by decide +kernel
theorem dX1_note_4 : decode cX1_note 4 = .ok (.bipush 40, 2) := by decide +kernel
theorem dX1_note_6 : decode cX1_note 6 = .ok (.if_icmp .lt 7, 3) := by decide +kernel
theorem dX1_note_9 : decode cX1_note 9 = .ok (.aload_n 0, 1) := by decide +kernel
theorem dX1_note_10 : decode cX1_note 10 = .ok (.invokevirtual 26, 3) := by decide +kernel
theorem dX1_note_13 : decode cX1_note 13 = .ok (.aload_n 0, 1) := by decide +kernel
theorem dX1_note_14 : decode cX1_note 14 = .ok (.getfield 9, 3) := by decide +kernel
theorem dX1_note_17 : decode cX1_note 17 = .ok (.aload_n 0, 1) := by decide +kernel
theorem dX1_note_18 : decode cX1_note 18 = .ok (.getfield 22, 3) := by decide +kernel
theorem dX1_note_21 : decode cX1_note 21 = .ok (.iload_n 1, 1) := by decide +kernel
theorem dX1_note_22 : decode cX1_note 22 = .ok (.iastore, 1) := by decide +kernel
theorem dX1_note_23 : decode cX1_note 23 = .ok (.aload_n 0, 1) := by decide +kernel
theorem dX1_note_24 : decode cX1_note 24 = .ok (.getfield 13, 3) := by decide +kernel
theorem dX1_note_27 : decode cX1_note 27 = .ok (.aload_n 0, 1) := by decide +kernel
theorem dX1_note_28 : decode cX1_note 28 = .ok (.getfield 22, 3) := by decide +kernel
theorem dX1_note_31 : decode cX1_note 31 = .ok (.iload_n 2, 1) := by decide +kernel
theorem dX1_note_32 : decode cX1_note 32 = .ok (.iastore, 1) := by decide +kernel
theorem dX1_note_33 : decode cX1_note 33 = .ok (.aload_n 0, 1) := by decide +kernel
theorem dX1_note_34 : decode cX1_note 34 = .ok (.getfield 16, 3) := by decide +kernel
theorem dX1_note_37 : decode cX1_note 37 = .ok (.aload_n 0, 1) := by decide +kernel
theorem dX1_note_38 : decode cX1_note 38 = .ok (.getfield 22, 3) := by decide +kernel
theorem dX1_note_41 : decode cX1_note 41 = .ok (.iload_n 3, 1) := by decide +kernel
theorem dX1_note_42 : decode cX1_note 42 = .ok (.iastore, 1) := by decide +kernel
theorem dX1_note_43 : decode cX1_note 43 = .ok (.aload_n 0, 1) := by decide +kernel
theorem dX1_note_44 : decode cX1_note 44 = .ok (.getfield 19, 3) := by decide +kernel
theorem dX1_note_47 : decode cX1_note 47 = .ok (.aload_n 0, 1) := by decide +kernel
theorem dX1_note_48 : decode cX1_note 48 = .ok (.getfield 22, 3) := by decide +kernel
theorem dX1_note_51 : decode cX1_note 51 = .ok (.iload 4, 2) := by decide +kernel
theorem dX1_note_53 : decode cX1_note 53 = .ok (.iastore, 1) := by decide +kernel
theorem dX1_note_54 : decode cX1_note 54 = .ok (.aload_n 0, 1) := by decide +kernel
theorem dX1_note_55 : decode cX1_note 55 = .ok (.dup, 1) := by decide +kernel
theorem dX1_note_56 : decode cX1_note 56 = .ok (.getfield 22, 3) := by decide +kernel
theorem dX1_note_59 : decode cX1_note 59 = .ok (.iconst 1, 1) := by decide +kernel
theorem dX1_note_60 : decode cX1_note 60 = .ok (.iadd, 1) := by decide +kernel
theorem dX1_note_61 : decode cX1_note 61 = .ok (.putfield 22, 3) := by decide +kernel
theorem dX1_note_64 : decode cX1_note 64 = .ok (.aload_n 0, 1) := by decide +kernel
theorem dX1_note_65 : decode cX1_note 65 = .ok (.aload_n 0, 1) := by decide +kernel
theorem dX1_note_66 : decode cX1_note 66 = .ok (.getfield 22, 3) := by decide +kernel
theorem dX1_note_69 : decode cX1_note 69 = .ok (.putfield 29, 3) := by decide +kernel
theorem dX1_note_72 : decode cX1_note 72 = .ok (.return_, 1) := by decide +kernel
theorem dX1_dropOldest_0 : decode cX1_dropOldest 0 = .ok (.aload_n 0, 1) := by decide +kernel
theorem dX1_dropOldest_1 : decode cX1_dropOldest 1 = .ok (.getfield 9, 3) := by decide +kernel
theorem dX1_dropOldest_4 : decode cX1_dropOldest 4 = .ok (.iconst 1, 1) := by decide +kernel
theorem dX1_dropOldest_5 : decode cX1_dropOldest 5 = .ok (.aload_n 0, 1) := by decide +kernel
theorem dX1_dropOldest_6 : decode cX1_dropOldest 6 = .ok (.getfield 9, 3) := by decide +kernel
theorem dX1_dropOldest_9 : decode cX1_dropOldest 9 = .ok (.iconst 0, 1) := by decide +kernel
theorem dX1_dropOldest_10 : decode cX1_dropOldest 10 = .ok (.bipush 39, 2) := by decide +kernel
theorem dX1_dropOldest_12 : decode cX1_dropOldest 12 = .ok (.invokestatic 32, 3) := by decide +kernel
theorem dX1_dropOldest_15 : decode cX1_dropOldest 15 = .ok (.aload_n 0, 1) := by decide +kernel
theorem dX1_dropOldest_16 : decode cX1_dropOldest 16 = .ok (.getfield 13, 3) := by decide +kernel
theorem dX1_dropOldest_19 : decode cX1_dropOldest 19 = .ok (.iconst 1, 1) := by decide +kernel
theorem dX1_dropOldest_20 : decode cX1_dropOldest 20 = .ok (.aload_n 0, 1) := by decide +kernel
theorem dX1_dropOldest_21 : decode cX1_dropOldest 21 = .ok (.getfield 13, 3) := by decide +kernel
theorem dX1_dropOldest_24 : decode cX1_dropOldest 24 = .ok (.iconst 0, 1) := by decide +kernel
theorem dX1_dropOldest_25 : decode cX1_dropOldest 25 = .ok (.bipush 39, 2) := by decide +kernel
theorem dX1_dropOldest_27 : decode cX1_dropOldest 27 = .ok (.invokestatic 32, 3) := by decide +kernel
theorem dX1_dropOldest_30 : decode cX1_dropOldest 30 = .ok (.aload_n 0, 1) := by decide +kernel
theorem dX1_dropOldest_31 : decode cX1_dropOldest 31 = .ok (.getfield 16, 3) := by decide +kernel
theorem dX1_dropOldest_34 : decode cX1_dropOldest 34 = .ok (.iconst 1, 1) := by decide +kernel
theorem dX1_dropOldest_35 : decode cX1_dropOldest 35 = .ok (.aload_n 0, 1) := by decide +kernel
theorem dX1_dropOldest_36 : decode cX1_dropOldest 36 = .ok (.getfield 16, 3) := by decide +kernel
theorem dX1_dropOldest_39 : decode cX1_dropOldest 39 = .ok (.iconst 0, 1) := by decide +kernel
theorem dX1_dropOldest_40 : decode cX1_dropOldest 40 = .ok (.bipush 39, 2) := by decide +kernel
theorem dX1_dropOldest_42 : decode cX1_dropOldest 42 = .ok (.invokestatic 32, 3) := by decide +kernel
theorem dX1_dropOldest_45 : decode cX1_dropOldest 45 = .ok (.aload_n 0, 1) := by decide +kernel
theorem dX1_dropOldest_46 : decode cX1_dropOldest 46 = .ok (.getfield 19, 3) := by decide +kernel
theorem dX1_dropOldest_49 : decode cX1_dropOldest 49 = .ok (.iconst 1, 1) := by decide +kernel
theorem dX1_dropOldest_50 : decode cX1_dropOldest 50 = .ok (.aload_n 0, 1) := by decide +kernel
theorem dX1_dropOldest_51 : decode cX1_dropOldest 51 = .ok (.getfield 19, 3) := by decide +kernel
theorem dX1_dropOldest_54 : decode cX1_dropOldest 54 = .ok (.iconst 0, 1) := by decide +kernel
theorem dX1_dropOldest_55 : decode cX1_dropOldest 55 = .ok (.bipush 39, 2) := by decide +kernel
theorem dX1_dropOldest_57 : decode cX1_dropOldest 57 = .ok (.invokestatic 32, 3) := by decide +kernel
theorem dX1_dropOldest_60 : decode cX1_dropOldest 60 = .ok (.aload_n 0, 1) := by decide +kernel
theorem dX1_dropOldest_61 : decode cX1_dropOldest 61 = .ok (.bipush 39, 2) := by decide +kernel
theorem dX1_dropOldest_63 : decode cX1_dropOldest 63 = .ok (.putfield 22, 3) := by decide +kernel
theorem dX1_dropOldest_66 : decode cX1_dropOldest 66 = .ok (.return_, 1) := by decide +kernel
theorem dX1_goBack_0 : decode cX1_goBack 0 = .ok (.aload_n 0, 1) := by decide +kernel
theorem dX1_goBack_1 : decode cX1_goBack 1 = .ok (.getfield 22, 3) := by decide +kernel
theorem dX1_goBack_4 : decode cX1_goBack 4 = .ok (.ifCond .ne 5, 3) := by decide +kernel
theorem dX1_goBack_7 : decode cX1_goBack 7 = .ok (.iconst 0, 1) := by decide +kernel
theorem dX1_goBack_8 : decode cX1_goBack 8 = .ok (.ireturn, 1) := by decide +kernel
theorem dX1_goBack_9 : decode cX1_goBack 9 = .ok (.aload_n 0, 1) := by decide +kernel
theorem dX1_goBack_10 : decode cX1_goBack 10 = .ok (.dup, 1) := by decide +kernel
theorem dX1_goBack_11 : decode cX1_goBack 11 = .ok (.getfield 22, 3) := by decide +kernel
theorem dX1_goBack_14 : decode cX1_goBack 14 = .ok (.iconst 1, 1) := by decide +kernel
theorem dX1_goBack_15 : decode cX1_goBack 15 = .ok (.isub, 1) := by decide +kernel
theorem dX1_goBack_16 : decode cX1_goBack 16 = .ok (.putfield 22, 3) := by decide +kernel
theorem dX1_goBack_19 : decode cX1_goBack 19 = .ok (.iconst 1, 1) := by decide +kernel
theorem dX1_goBack_20 : decode cX1_goBack 20 = .ok (.ireturn, 1) := by decide +kernel
theorem dX1_goOn_0 : decode cX1_goOn 0 = .ok (.aload_n 0, 1) := by decide +kernel
theorem dX1_goOn_1 : decode cX1_goOn 1 = .ok (.getfield 22, 3) := by decide +kernel
theorem dX1_goOn_4 : decode cX1_goOn 4 = .ok (.aload_n 0, 1) := by decide +kernel
theorem dX1_goOn_5 : decode cX1_goOn 5 = .ok (.getfield 29, 3) := by decide +kernel
theorem dX1_goOn_8 : decode cX1_goOn 8 = .ok (.if_icmp .lt 5, 3) := by decide +kernel
theorem dX1_goOn_11 : decode cX1_goOn 11 = .ok (.iconst 0, 1) := by decide +kernel
theorem dX1_goOn_12 : decode cX1_goOn 12 = .ok (.ireturn, 1) := by decide +kernel
theorem dX1_goOn_13 : decode cX1_goOn 13 = .ok (.aload_n 0, 1) := by decide +kernel
theorem dX1_goOn_14 : decode cX1_goOn 14 = .ok (.dup, 1) := by decide +kernel
theorem dX1_goOn_15 : decode cX1_goOn 15 = .ok (.getfield 22, 3) := by decide +kernel
theorem dX1_goOn_18 : decode cX1_goOn 18 = .ok (.iconst 1, 1) := by decide +kernel
theorem dX1_goOn_19 : decode cX1_goOn 19 = .ok (.iadd, 1) := by decide +kernel
theorem dX1_goOn_20 : decode cX1_goOn 20 = .ok (.putfield 22, 3) := by decide +kernel
theorem dX1_goOn_23 : decode cX1_goOn 23 = .ok (.iconst 1, 1) := by decide +kernel
theorem dX1_goOn_24 : decode cX1_goOn 24 = .ok (.ireturn, 1) := by decide +kernel
theorem dX2_init_0 : decode cX2_init 0 = .ok (.aload_n 0, 1) := by decide +kernel
theorem dX2_init_1 : decode cX2_init 1 = .ok (.invokespecial 3, 3) := by decide +kernel
theorem dX2_init_4 : decode cX2_init 4 = .ok (.aload_n 0, 1) := by decide +kernel
theorem dX2_init_5 : decode cX2_init 5 = .ok (.bipush 120, 2) := by decide +kernel
theorem dX2_init_7 : decode cX2_init 7 = .ok (.newarray .int, 2) := by decide +kernel
theorem dX2_init_9 : decode cX2_init 9 = .ok (.putfield 9, 3) := by decide +kernel
theorem dX2_init_12 : decode cX2_init 12 = .ok (.aload_n 0, 1) := by decide +kernel
theorem dX2_init_13 : decode cX2_init 13 = .ok (.sipush 128, 3) := by decide +kernel
theorem dX2_init_16 : decode cX2_init 16 = .ok (.newarray .int, 2) := by decide +kernel
theorem dX2_init_18 : decode cX2_init 18 = .ok (.putfield 13, 3) := by decide +kernel
theorem dX2_init_21 : decode cX2_init 21 = .ok (.aload_n 0, 1) := by decide +kernel
theorem dX2_init_22 : decode cX2_init 22 = .ok (.sipush 128, 3) := by decide +kernel
theorem dX2_init_25 : decode cX2_init 25 = .ok (.newarray .int, 2) := by decide +kernel
theorem dX2_init_27 : decode cX2_init 27 = .ok (.putfield 16, 3) := by decide +kernel
theorem dX2_init_30 : decode cX2_init 30 = .ok (.aload_n 0, 1) := by decide +kernel
theorem dX2_init_31 : decode cX2_init 31 = .ok (.sipush 128, 3) := by decide +kernel
theorem dX2_init_34 : decode cX2_init 34 = .ok (.newarray .int, 2) := by decide +kernel
theorem dX2_init_36 : decode cX2_init 36 = .ok (.putfield 19, 3) := by decide +kernel
theorem dX2_init_39 : decode cX2_init 39 = .ok (.return_, 1) := by decide +kernel
theorem dX2_isFull_0 : decode cX2_isFull 0 = .ok (.aload_n 0, 1) := by decide +kernel
theorem dX2_isFull_1 : decode cX2_isFull 1 = .ok (.getfield 22, 3) := by decide +kernel
theorem dX2_isFull_4 : decode cX2_isFull 4 = .ok (.bipush 120, 2) := by decide +kernel
theorem dX2_isFull_6 : decode cX2_isFull 6 = .ok (.if_icmp .lt 7, 3) := by decide +kernel
theorem dX2_isFull_9 : decode cX2_isFull 9 = .ok (.iconst 1, 1) := by decide +kernel
theorem dX2_isFull_10 : decode cX2_isFull 10 = .ok (.goto 4, 3) := by decide +kernel
theorem dX2_isFull_13 : decode cX2_isFull 13 = .ok (.iconst 0, 1) := by decide +kernel
theorem dX2_isFull_14 : decode cX2_isFull 14 = .ok (.ireturn, 1) := by decide +kernel
theorem dX2_write_0 : decode cX2_write 0 = .ok (.aload_n 0, 1) := by decide +kernel
theorem dX2_write_1 : decode cX2_write 1 = .ok (.getfield 9, 3) := by decide +kernel
theorem dX2_write_4 : decode cX2_write 4 = .ok (.aload_n 0, 1) := by decide +kernel
theorem dX2_write_5 : decode cX2_write 5 = .ok (.getfield 22, 3) := by decide +kernel
theorem dX2_write_8 : decode cX2_write 8 = .ok (.iload_n 1, 1) := by decide +kernel
theorem dX2_write_9 : decode cX2_write 9 = .ok (.iastore, 1) := by decide +kernel
theorem dX2_write_10 : decode cX2_write 10 = .ok (.aload_n 0, 1) := by decide +kernel
theorem dX2_write_11 : decode cX2_write 11 = .ok (.dup, 1) := by decide +kernel
theorem dX2_write_12 : decode cX2_write 12 = .ok (.getfield 22, 3) := by decide +kernel
theorem dX2_write_15 : decode cX2_write 15 = .ok (.iconst 1, 1) := by decide +kernel
theorem dX2_write_16 : decode cX2_write 16 = .ok (.iadd, 1) := by decide +kernel
theorem dX2_write_17 : decode cX2_write 17 = .ok (.putfield 22, 3) := by decide +kernel
theorem dX2_write_20 : decode cX2_write 20 = .ok (.aload_n 0, 1) := by decide +kernel
theorem dX2_write_21 : decode cX2_write 21 = .ok (.getfield 22, 3) := by decide +kernel
theorem dX2_write_24 : decode cX2_write 24 = .ok (.ireturn, 1) := by decide +kernel
theorem dX2_enact_0 : decode cX2_enact 0 = .ok (.aload_n 0, 1) := by decide +kernel
theorem dX2_enact_1 : decode cX2_enact 1 = .ok (.iconst 0, 1) := by decide +kernel
theorem dX2_enact_2 : decode cX2_enact 2 = .ok (.putfield 26, 3) := by decide +kernel
theorem dX2_enact_5 : decode cX2_enact 5 = .ok (.aload_n 0, 1) := by decide +kernel
theorem dX2_enact_6 : decode cX2_enact 6 = .ok (.iconst (-1), 1) := by decide +kernel
theorem dX2_enact_7 : decode cX2_enact 7 = .ok (.putfield 29, 3) := by decide +kernel
theorem dX2_enact_10 : decode cX2_enact 10 = .ok (.aload_n 0, 1) := by decide +kernel
theorem dX2_enact_11 : decode cX2_enact 11 = .ok (.iconst 0, 1) := by decide +kernel
theorem dX2_enact_12 : decode cX2_enact 12 = .ok (.putfield 32, 3) := by decide +kernel
theorem dX2_enact_15 : decode cX2_enact 15 = .ok (.aload_n 0, 1) := by decide +kernel
theorem dX2_enact_16 : decode cX2_enact 16 = .ok (.invokevirtual 35, 3) := by decide +kernel
theorem dX2_enact_19 : decode cX2_enact 19 = .ok (.iconst 0, 1) := by decide +kernel
theorem dX2_enact_20 : decode cX2_enact 20 = .ok (.istore_n 1, 1) := by decide +kernel
theorem dX2_enact_21 : decode cX2_enact 21 = .ok (.iload_n 1, 1) := by decide +kernel
theorem dX2_enact_22 : decode cX2_enact 22 = .ok (.bipush 120, 2) := by decide +kernel
theorem dX2_enact_24 : decode cX2_enact 24 = .ok (.if_icmp .ge 39, 3) := by decide +kernel
theorem dX2_enact_27 : decode cX2_enact 27 = .ok (.aload_n 0, 1) := by decide +kernel
theorem dX2_enact_28 : decode cX2_enact 28 = .ok (.getfield 29, 3) := by decide +kernel
theorem dX2_enact_31 : decode cX2_enact 31 = .ok (.ifCond .ge 32, 3) := by decide +kernel
theorem dX2_enact_34 : decode cX2_enact 34 = .ok (.aload_n 0, 1) := by decide +kernel
theorem dX2_enact_35 : decode cX2_enact 35 = .ok (.invokevirtual 38, 3) := by decide +kernel
theorem dX2_enact_38 : decode cX2_enact 38 = .ok (.bipush 59, 2) := by decide +kernel
theorem dX2_enact_40 : decode cX2_enact 40 = .ok (.if_icmp .ne 23, 3) := by decide +kernel
theorem dX2_enact_43 : decode cX2_enact 43 = .ok (.aload_n 0, 1) := by decide +kernel
theorem dX2_enact_44 : decode cX2_enact 44 = .ok (.dup, 1) := by decide +kernel
theorem dX2_enact_45 : decode cX2_enact 45 = .ok (.getfield 26, 3) := by decide +kernel
theorem dX2_enact_48 : decode cX2_enact 48 = .ok (.iconst 1, 1) := by decide +kernel
theorem dX2_enact_49 : decode cX2_enact 49 = .ok (.iadd, 1) := by decide +kernel
theorem dX2_enact_50 : decode cX2_enact 50 = .ok (.putfield 26, 3) := by decide +kernel
theorem dX2_enact_53 : decode cX2_enact 53 = .ok (.aload_n 0, 1) := by decide +kernel
theorem dX2_enact_54 : decode cX2_enact 54 = .ok (.invokevirtual 35, 3) := by decide +kernel
theorem dX2_enact_57 : decode cX2_enact 57 = .ok (.iinc 1 1, 3) := by decide +kernel
theorem dX2_enact_60 : decode cX2_enact 60 = .ok (.goto (-39), 3) := by decide +kernel
theorem dX2_enact_63 : decode cX2_enact 63 = .ok (.aload_n 0, 1) := by decide +kernel
theorem dX2_enact_64 : decode cX2_enact 64 = .ok (.getfield 26, 3) := by decide +kernel
theorem dX2_enact_67 : decode cX2_enact 67 = .ok (.aload_n 0, 1) := by decide +kernel
theorem dX2_enact_68 : decode cX2_enact 68 = .ok (.getfield 22, 3) := by decide +kernel
theorem dX2_enact_71 : decode cX2_enact 71 = .ok (.if_icmp .ge 7, 3) := by decide +kernel
theorem dX2_enact_74 : decode cX2_enact 74 = .ok (.aload_n 0, 1) := by decide +kernel
theorem dX2_enact_75 : decode cX2_enact 75 = .ok (.invokevirtual 42, 3) := by decide +kernel
theorem dX2_enact_78 : decode cX2_enact 78 = .ok (.aload_n 0, 1) := by decide +kernel
theorem dX2_enact_79 : decode cX2_enact 79 = .ok (.iconst 0, 1) := by decide +kernel
theorem dX2_enact_80 : decode cX2_enact 80 = .ok (.putfield 22, 3) := by decide +kernel
theorem dX2_enact_83 : decode cX2_enact 83 = .ok (.aload_n 0, 1) := by decide +kernel
theorem dX2_enact_84 : decode cX2_enact 84 = .ok (.getfield 29, 3) := by decide +kernel
theorem dX2_enact_87 : decode cX2_enact 87 = .ok (.ifCond .ge 29, 3) := by decide +kernel
theorem dX2_enact_90 : decode cX2_enact 90 = .ok (.aload_n 0, 1) := by decide +kernel
theorem dX2_enact_91 : decode cX2_enact 91 = .ok (.getfield 16, 3) := by decide +kernel
theorem dX2_enact_94 : decode cX2_enact 94 = .ok (.astore_n 1, 1) := by decide +kernel
theorem dX2_enact_95 : decode cX2_enact 95 = .ok (.aload_n 0, 1) := by decide +kernel
theorem dX2_enact_96 : decode cX2_enact 96 = .ok (.aload_n 0, 1) := by decide +kernel
theorem dX2_enact_97 : decode cX2_enact 97 = .ok (.getfield 19, 3) := by decide +kernel
theorem dX2_enact_100 : decode cX2_enact 100 = .ok (.putfield 16, 3) := by decide +kernel
theorem dX2_enact_103 : decode cX2_enact 103 = .ok (.aload_n 0, 1) := by decide +kernel
theorem dX2_enact_104 : decode cX2_enact 104 = .ok (.aload_n 1, 1) := by decide +kernel
theorem dX2_enact_105 : decode cX2_enact 105 = .ok (.putfield 19, 3) := by decide +kernel
theorem dX2_enact_108 : decode cX2_enact 108 = .ok (.aload_n 0, 1) := by decide +kernel
theorem dX2_enact_109 : decode cX2_enact 109 = .ok (.aload_n 0, 1) := by decide +kernel
theorem dX2_enact_110 : decode cX2_enact 110 = .ok (.getfield 32, 3) := by decide +kernel
theorem dX2_enact_113 : decode cX2_enact 113 = .ok (.putfield 45, 3) := by decide +kernel
theorem dX2_enact_116 : decode cX2_enact 116 = .ok (.aload_n 0, 1) := by decide +kernel
theorem dX2_enact_117 : decode cX2_enact 117 = .ok (.getfield 29, 3) := by decide +kernel
theorem dX2_enact_120 : decode cX2_enact 120 = .ok (.ireturn, 1) := by decide +kernel
theorem dX2_next_0 : decode cX2_next 0 = .ok (.aload_n 0, 1) := by decide +kernel
theorem dX2_next_1 : decode cX2_next 1 = .ok (.getfield 26, 3) := by decide +kernel
theorem dX2_next_4 : decode cX2_next 4 = .ok (.aload_n 0, 1) := by decide +kernel
theorem dX2_next_5 : decode cX2_next 5 = .ok (.getfield 22, 3) := by decide +kernel
theorem dX2_next_8 : decode cX2_next 8 = .ok (.if_icmp .ge 24, 3) := by decide +kernel
theorem dX2_next_11 : decode cX2_next 11 = .ok (.aload_n 0, 1) := by decide +kernel
theorem dX2_next_12 : decode cX2_next 12 = .ok (.getfield 26, 3) := by decide +kernel
theorem dX2_next_15 : decode cX2_next 15 = .ok (.bipush 120, 2) := by decide +kernel
theorem dX2_next_17 : decode cX2_next 17 = .ok (.if_icmp .ge 15, 3) := by decide +kernel
theorem dX2_next_20 : decode cX2_next 20 = .ok (.aload_n 0, 1) := by decide +kernel
theorem dX2_next_21 : decode cX2_next 21 = .ok (.getfield 9, 3) := by decide +kernel
theorem dX2_next_24 : decode cX2_next 24 = .ok (.aload_n 0, 1) := by decide +kernel
theorem dX2_next_25 : decode cX2_next 25 = .ok (.getfield 26, 3) := by decide +kernel
theorem dX2_next_28 : decode cX2_next 28 = .ok (.iaload, 1) := by decide +kernel
theorem dX2_next_29 : decode cX2_next 29 = .ok (.goto 4, 3) := by decide +kernel
theorem dX2_next_32 : decode cX2_next 32 = .ok (.iconst (-1), 1) := by decide +kernel
theorem dX2_next_33 : decode cX2_next 33 = .ok (.ireturn, 1) := by decide +kernel
theorem dX2_refuse_0 : decode cX2_refuse 0 = .ok (.aload_n 0, 1) := by decide +kernel
theorem dX2_refuse_1 : decode cX2_refuse 1 = .ok (.getfield 29, 3) := by decide +kernel
theorem dX2_refuse_4 : decode cX2_refuse 4 = .ok (.ifCond .ge 11, 3) := by decide +kernel
theorem dX2_refuse_7 : decode cX2_refuse 7 = .ok (.aload_n 0, 1) := by decide +kernel
theorem dX2_refuse_8 : decode cX2_refuse 8 = .ok (.aload_n 0, 1) := by decide +kernel
theorem dX2_refuse_9 : decode cX2_refuse 9 = .ok (.getfield 26, 3) := by decide +kernel
theorem dX2_refuse_12 : decode cX2_refuse 12 = .ok (.putfield 29, 3) := by decide +kernel
theorem dX2_refuse_15 : decode cX2_refuse 15 = .ok (.return_, 1) := by decide +kernel
theorem dX2_emit_0 : decode cX2_emit 0 = .ok (.aload_n 0, 1) := by decide +kernel
theorem dX2_emit_1 : decode cX2_emit 1 = .ok (.getfield 32, 3) := by decide +kernel
theorem dX2_emit_4 : decode cX2_emit 4 = .ok (.sipush 128, 3) := by decide +kernel
theorem dX2_emit_7 : decode cX2_emit 7 = .ok (.if_icmp .ge 23, 3) := by decide +kernel
theorem dX2_emit_10 : decode cX2_emit 10 = .ok (.aload_n 0, 1) := by decide +kernel
theorem dX2_emit_11 : decode cX2_emit 11 = .ok (.getfield 19, 3) := by decide +kernel
theorem dX2_emit_14 : decode cX2_emit 14 = .ok (.aload_n 0, 1) := by decide +kernel
theorem dX2_emit_15 : decode cX2_emit 15 = .ok (.getfield 32, 3) := by decide +kernel
theorem dX2_emit_18 : decode cX2_emit 18 = .ok (.iload_n 1, 1) := by decide +kernel
theorem dX2_emit_19 : decode cX2_emit 19 = .ok (.iastore, 1) := by decide +kernel
theorem dX2_emit_20 : decode cX2_emit 20 = .ok (.aload_n 0, 1) := by decide +kernel
theorem dX2_emit_21 : decode cX2_emit 21 = .ok (.dup, 1) := by decide +kernel
theorem dX2_emit_22 : decode cX2_emit 22 = .ok (.getfield 32, 3) := by decide +kernel
theorem dX2_emit_25 : decode cX2_emit 25 = .ok (.iconst 1, 1) := by decide +kernel
theorem dX2_emit_26 : decode cX2_emit 26 = .ok (.iadd, 1) := by decide +kernel
theorem dX2_emit_27 : decode cX2_emit 27 = .ok (.putfield 32, 3) := by decide +kernel
theorem dX2_emit_30 : decode cX2_emit 30 = .ok (.return_, 1) := by decide +kernel
theorem dX2_readLine_0 : decode cX2_readLine 0 = .ok (.aload_n 0, 1) := by decide +kernel
theorem dX2_readLine_1 : decode cX2_readLine 1 = .ok (.iconst 0, 1) := by decide +kernel
theorem dX2_readLine_2 : decode cX2_readLine 2 = .ok (.invokevirtual 48, 3) := by decide +kernel
theorem dX2_readLine_5 : decode cX2_readLine 5 = .ok (.aload_n 0, 1) := by decide +kernel
theorem dX2_readLine_6 : decode cX2_readLine 6 = .ok (.getfield 29, 3) := by decide +kernel
theorem dX2_readLine_9 : decode cX2_readLine 9 = .ok (.ifCond .ge 34, 3) := by decide +kernel
theorem dX2_readLine_12 : decode cX2_readLine 12 = .ok (.aload_n 0, 1) := by decide +kernel
theorem dX2_readLine_13 : decode cX2_readLine 13 = .ok (.invokevirtual 38, 3) := by decide +kernel
theorem dX2_readLine_16 : decode cX2_readLine 16 = .ok (.bipush 63, 2) := by decide +kernel
theorem dX2_readLine_18 : decode cX2_readLine 18 = .ok (.if_icmp .ne 25, 3) := by decide +kernel
theorem dX2_readLine_21 : decode cX2_readLine 21 = .ok (.aload_n 0, 1) := by decide +kernel
theorem dX2_readLine_22 : decode cX2_readLine 22 = .ok (.dup, 1) := by decide +kernel
theorem dX2_readLine_23 : decode cX2_readLine 23 = .ok (.getfield 26, 3) := by decide +kernel
theorem dX2_readLine_26 : decode cX2_readLine 26 = .ok (.iconst 1, 1) := by decide +kernel
theorem dX2_readLine_27 : decode cX2_readLine 27 = .ok (.iadd, 1) := by decide +kernel
theorem dX2_readLine_28 : decode cX2_readLine 28 = .ok (.putfield 26, 3) := by decide +kernel
theorem dX2_readLine_31 : decode cX2_readLine 31 = .ok (.aload_n 0, 1) := by decide +kernel
theorem dX2_readLine_32 : decode cX2_readLine 32 = .ok (.sipush 20063, 3) := by decide +kernel
theorem dX2_readLine_35 : decode cX2_readLine 35 = .ok (.invokevirtual 52, 3) := by decide +kernel
theorem dX2_readLine_38 : decode cX2_readLine 38 = .ok (.aload_n 0, 1) := by decide +kernel
theorem dX2_readLine_39 : decode cX2_readLine 39 = .ok (.iconst 0, 1) := by decide +kernel
theorem dX2_readLine_40 : decode cX2_readLine 40 = .ok (.invokevirtual 48, 3) := by decide +kernel
theorem dX2_readLine_43 : decode cX2_readLine 43 = .ok (.aload_n 0, 1) := by decide +kernel
theorem dX2_readLine_44 : decode cX2_readLine 44 = .ok (.sipush 20059, 3) := by decide +kernel
theorem dX2_readLine_47 : decode cX2_readLine 47 = .ok (.invokevirtual 52, 3) := by decide +kernel
theorem dX2_readLine_50 : decode cX2_readLine 50 = .ok (.return_, 1) := by decide +kernel
theorem dX2_readEither_0 : decode cX2_readEither 0 = .ok (.aload_n 0, 1) := by decide +kernel
theorem dX2_readEither_1 : decode cX2_readEither 1 = .ok (.iload_n 1, 1) := by decide +kernel
theorem dX2_readEither_2 : decode cX2_readEither 2 = .ok (.invokevirtual 55, 3) := by decide +kernel
theorem dX2_readEither_5 : decode cX2_readEither 5 = .ok (.iconst 0, 1) := by decide +kernel
theorem dX2_readEither_6 : decode cX2_readEither 6 = .ok (.istore_n 2, 1) := by decide +kernel
theorem dX2_readEither_7 : decode cX2_readEither 7 = .ok (.iload_n 2, 1) := by decide +kernel
theorem dX2_readEither_8 : decode cX2_readEither 8 = .ok (.bipush 120, 2) := by decide +kernel
theorem dX2_readEither_10 : decode cX2_readEither 10 = .ok (.if_icmp .ge 47, 3) := by decide +kernel
theorem dX2_readEither_13 : decode cX2_readEither 13 = .ok (.aload_n 0, 1) := by decide +kernel
theorem dX2_readEither_14 : decode cX2_readEither 14 = .ok (.getfield 29, 3) := by decide +kernel
theorem dX2_readEither_17 : decode cX2_readEither 17 = .ok (.ifCond .ge 40, 3) := by decide +kernel
theorem dX2_readEither_20 : decode cX2_readEither 20 = .ok (.aload_n 0, 1) := by decide +kernel
theorem dX2_readEither_21 : decode cX2_readEither 21 = .ok (.invokevirtual 38, 3) := by decide +kernel
theorem dX2_readEither_24 : decode cX2_readEither 24 = .ok (.bipush 124, 2) := by decide +kernel
theorem dX2_readEither_26 : decode cX2_readEither 26 = .ok (.if_icmp .ne 31, 3) := by decide +kernel
theorem dX2_readEither_29 : decode cX2_readEither 29 = .ok (.aload_n 0, 1) := by decide +kernel
theorem dX2_readEither_30 : decode cX2_readEither 30 = .ok (.dup, 1) := by decide +kernel
theorem dX2_readEither_31 : decode cX2_readEither 31 = .ok (.getfield 26, 3) := by decide +kernel
theorem dX2_readEither_34 : decode cX2_readEither 34 = .ok (.iconst 1, 1) := by decide +kernel
theorem dX2_readEither_35 : decode cX2_readEither 35 = .ok (.iadd, 1) := by decide +kernel
theorem dX2_readEither_36 : decode cX2_readEither 36 = .ok (.putfield 26, 3) := by decide +kernel
theorem dX2_readEither_39 : decode cX2_readEither 39 = .ok (.aload_n 0, 1) := by decide +kernel
theorem dX2_readEither_40 : decode cX2_readEither 40 = .ok (.iload_n 1, 1) := by decide +kernel
theorem dX2_readEither_41 : decode cX2_readEither 41 = .ok (.invokevirtual 55, 3) := by decide +kernel
theorem dX2_readEither_44 : decode cX2_readEither 44 = .ok (.aload_n 0, 1) := by decide +kernel
theorem dX2_readEither_45 : decode cX2_readEither 45 = .ok (.sipush 20124, 3) := by decide +kernel
theorem dX2_readEither_48 : decode cX2_readEither 48 = .ok (.invokevirtual 52, 3) := by decide +kernel
theorem dX2_readEither_51 : decode cX2_readEither 51 = .ok (.iinc 2 1, 3) := by decide +kernel
theorem dX2_readEither_54 : decode cX2_readEither 54 = .ok (.goto (-47), 3) := by decide +kernel
theorem dX2_readEither_57 : decode cX2_readEither 57 = .ok (.return_, 1) := by decide +kernel
theorem dX2_readBoth_0 : decode cX2_readBoth 0 = .ok (.aload_n 0, 1) := by decide +kernel
theorem dX2_readBoth_1 : decode cX2_readBoth 1 = .ok (.iload_n 1, 1) := by decide +kernel
theorem dX2_readBoth_2 : decode cX2_readBoth 2 = .ok (.invokevirtual 58, 3) := by decide +kernel
theorem dX2_readBoth_5 : decode cX2_readBoth 5 = .ok (.iconst 0, 1) := by decide +kernel
theorem dX2_readBoth_6 : decode cX2_readBoth 6 = .ok (.istore_n 2, 1) := by decide +kernel
theorem dX2_readBoth_7 : decode cX2_readBoth 7 = .ok (.iload_n 2, 1) := by decide +kernel
theorem dX2_readBoth_8 : decode cX2_readBoth 8 = .ok (.bipush 120, 2) := by decide +kernel
theorem dX2_readBoth_10 : decode cX2_readBoth 10 = .ok (.if_icmp .ge 47, 3) := by decide +kernel
theorem dX2_readBoth_13 : decode cX2_readBoth 13 = .ok (.aload_n 0, 1) := by decide +kernel
theorem dX2_readBoth_14 : decode cX2_readBoth 14 = .ok (.getfield 29, 3) := by decide +kernel
theorem dX2_readBoth_17 : decode cX2_readBoth 17 = .ok (.ifCond .ge 40, 3) := by decide +kernel
theorem dX2_readBoth_20 : decode cX2_readBoth 20 = .ok (.aload_n 0, 1) := by decide +kernel
theorem dX2_readBoth_21 : decode cX2_readBoth 21 = .ok (.invokevirtual 38, 3) := by decide +kernel
theorem dX2_readBoth_24 : decode cX2_readBoth 24 = .ok (.bipush 38, 2) := by decide +kernel
theorem dX2_readBoth_26 : decode cX2_readBoth 26 = .ok (.if_icmp .ne 31, 3) := by decide +kernel
theorem dX2_readBoth_29 : decode cX2_readBoth 29 = .ok (.aload_n 0, 1) := by decide +kernel
theorem dX2_readBoth_30 : decode cX2_readBoth 30 = .ok (.dup, 1) := by decide +kernel
theorem dX2_readBoth_31 : decode cX2_readBoth 31 = .ok (.getfield 26, 3) := by decide +kernel
theorem dX2_readBoth_34 : decode cX2_readBoth 34 = .ok (.iconst 1, 1) := by decide +kernel
theorem dX2_readBoth_35 : decode cX2_readBoth 35 = .ok (.iadd, 1) := by decide +kernel
theorem dX2_readBoth_36 : decode cX2_readBoth 36 = .ok (.putfield 26, 3) := by decide +kernel
theorem dX2_readBoth_39 : decode cX2_readBoth 39 = .ok (.aload_n 0, 1) := by decide +kernel
theorem dX2_readBoth_40 : decode cX2_readBoth 40 = .ok (.iload_n 1, 1) := by decide +kernel
theorem dX2_readBoth_41 : decode cX2_readBoth 41 = .ok (.invokevirtual 58, 3) := by decide +kernel
theorem dX2_readBoth_44 : decode cX2_readBoth 44 = .ok (.aload_n 0, 1) := by decide +kernel
theorem dX2_readBoth_45 : decode cX2_readBoth 45 = .ok (.sipush 20038, 3) := by decide +kernel
theorem dX2_readBoth_48 : decode cX2_readBoth 48 = .ok (.invokevirtual 52, 3) := by decide +kernel
theorem dX2_readBoth_51 : decode cX2_readBoth 51 = .ok (.iinc 2 1, 3) := by decide +kernel
theorem dX2_readBoth_54 : decode cX2_readBoth 54 = .ok (.goto (-47), 3) := by decide +kernel
theorem dX2_readBoth_57 : decode cX2_readBoth 57 = .ok (.return_, 1) := by decide +kernel
theorem dX2_readCompared_0 : decode cX2_readCompared 0 = .ok (.aload_n 0, 1) := by decide +kernel
theorem dX2_readCompared_1 : decode cX2_readCompared 1 = .ok (.iload_n 1, 1) := by decide +kernel
theorem dX2_readCompared_2 : decode cX2_readCompared 2 = .ok (.invokevirtual 61, 3) := by decide +kernel
theorem dX2_readCompared_5 : decode cX2_readCompared 5 = .ok (.aload_n 0, 1) := by decide +kernel
theorem dX2_readCompared_6 : decode cX2_readCompared 6 = .ok (.invokevirtual 38, 3) := by decide +kernel
theorem dX2_readCompared_9 : decode cX2_readCompared 9 = .ok (.istore_n 2, 1) := by decide +kernel
theorem dX2_readCompared_10 : decode cX2_readCompared 10 = .ok (.aload_n 0, 1) := by decide +kernel
theorem dX2_readCompared_11 : decode cX2_readCompared 11 = .ok (.getfield 29, 3) := by decide +kernel
theorem dX2_readCompared_14 : decode cX2_readCompared 14 = .ok (.ifCond .ge 45, 3) := by decide +kernel
theorem dX2_readCompared_17 : decode cX2_readCompared 17 = .ok (.iload_n 2, 1) := by decide +kernel
theorem dX2_readCompared_18 : decode cX2_readCompared 18 = .ok (.bipush 60, 2) := by decide +kernel
theorem dX2_readCompared_20 : decode cX2_readCompared 20 = .ok (.if_icmp .eq 15, 3) := by decide +kernel
theorem dX2_readCompared_23 : decode cX2_readCompared 23 = .ok (.iload_n 2, 1) := by decide +kernel
theorem dX2_readCompared_24 : decode cX2_readCompared 24 = .ok (.bipush 61, 2) := by decide +kernel
theorem dX2_readCompared_26 : decode cX2_readCompared 26 = .ok (.if_icmp .eq 9, 3) := by decide +kernel
theorem dX2_readCompared_29 : decode cX2_readCompared 29 = .ok (.iload_n 2, 1) := by decide +kernel
theorem dX2_readCompared_30 : decode cX2_readCompared 30 = .ok (.bipush 62, 2) := by decide +kernel
theorem dX2_readCompared_32 : decode cX2_readCompared 32 = .ok (.if_icmp .ne 27, 3) := by decide +kernel
theorem dX2_readCompared_35 : decode cX2_readCompared 35 = .ok (.aload_n 0, 1) := by decide +kernel
theorem dX2_readCompared_36 : decode cX2_readCompared 36 = .ok (.dup, 1) := by decide +kernel
theorem dX2_readCompared_37 : decode cX2_readCompared 37 = .ok (.getfield 26, 3) := by decide +kernel
theorem dX2_readCompared_40 : decode cX2_readCompared 40 = .ok (.iconst 1, 1) := by decide +kernel
theorem dX2_readCompared_41 : decode cX2_readCompared 41 = .ok (.iadd, 1) := by decide +kernel
theorem dX2_readCompared_42 : decode cX2_readCompared 42 = .ok (.putfield 26, 3) := by decide +kernel
theorem dX2_readCompared_45 : decode cX2_readCompared 45 = .ok (.aload_n 0, 1) := by decide +kernel
theorem dX2_readCompared_46 : decode cX2_readCompared 46 = .ok (.iload_n 1, 1) := by decide +kernel
theorem dX2_readCompared_47 : decode cX2_readCompared 47 = .ok (.invokevirtual 61, 3) := by decide +kernel
theorem dX2_readCompared_50 : decode cX2_readCompared 50 = .ok (.aload_n 0, 1) := by decide +kernel
theorem dX2_readCompared_51 : decode cX2_readCompared 51 = .ok (.sipush 20000, 3) := by decide +kernel
theorem dX2_readCompared_54 : decode cX2_readCompared 54 = .ok (.iload_n 2, 1) := by decide +kernel
theorem dX2_readCompared_55 : decode cX2_readCompared 55 = .ok (.iadd, 1) := by decide +kernel
theorem dX2_readCompared_56 : decode cX2_readCompared 56 = .ok (.invokevirtual 52, 3) := by decide +kernel
theorem dX2_readCompared_59 : decode cX2_readCompared 59 = .ok (.return_, 1) := by decide +kernel
theorem dX2_readSum_0 : decode cX2_readSum 0 = .ok (.aload_n 0, 1) := by decide +kernel
theorem dX2_readSum_1 : decode cX2_readSum 1 = .ok (.iload_n 1, 1) := by decide +kernel
theorem dX2_readSum_2 : decode cX2_readSum 2 = .ok (.invokevirtual 64, 3) := by decide +kernel
theorem dX2_readSum_5 : decode cX2_readSum 5 = .ok (.iconst 0, 1) := by decide +kernel
theorem dX2_readSum_6 : decode cX2_readSum 6 = .ok (.istore_n 2, 1) := by decide +kernel
theorem dX2_readSum_7 : decode cX2_readSum 7 = .ok (.iload_n 2, 1) := by decide +kernel
theorem dX2_readSum_8 : decode cX2_readSum 8 = .ok (.bipush 120, 2) := by decide +kernel
theorem dX2_readSum_10 : decode cX2_readSum 10 = .ok (.if_icmp .ge 63, 3) := by decide +kernel
theorem dX2_readSum_13 : decode cX2_readSum 13 = .ok (.aload_n 0, 1) := by decide +kernel
theorem dX2_readSum_14 : decode cX2_readSum 14 = .ok (.getfield 29, 3) := by decide +kernel
theorem dX2_readSum_17 : decode cX2_readSum 17 = .ok (.ifCond .ge 56, 3) := by decide +kernel
theorem dX2_readSum_20 : decode cX2_readSum 20 = .ok (.aload_n 0, 1) := by decide +kernel
theorem dX2_readSum_21 : decode cX2_readSum 21 = .ok (.invokevirtual 38, 3) := by decide +kernel
theorem dX2_readSum_24 : decode cX2_readSum 24 = .ok (.bipush 43, 2) := by decide +kernel
theorem dX2_readSum_26 : decode cX2_readSum 26 = .ok (.if_icmp .eq 12, 3) := by decide +kernel
theorem dX2_readSum_29 : decode cX2_readSum 29 = .ok (.aload_n 0, 1) := by decide +kernel
theorem dX2_readSum_30 : decode cX2_readSum 30 = .ok (.invokevirtual 38, 3) := by decide +kernel
theorem dX2_readSum_33 : decode cX2_readSum 33 = .ok (.bipush 45, 2) := by decide +kernel
theorem dX2_readSum_35 : decode cX2_readSum 35 = .ok (.if_icmp .ne 38, 3) := by decide +kernel
theorem dX2_readSum_38 : decode cX2_readSum 38 = .ok (.aload_n 0, 1) := by decide +kernel
theorem dX2_readSum_39 : decode cX2_readSum 39 = .ok (.invokevirtual 38, 3) := by decide +kernel
theorem dX2_readSum_42 : decode cX2_readSum 42 = .ok (.istore_n 3, 1) := by decide +kernel
theorem dX2_readSum_43 : decode cX2_readSum 43 = .ok (.aload_n 0, 1) := by decide +kernel
theorem dX2_readSum_44 : decode cX2_readSum 44 = .ok (.dup, 1) := by decide +kernel
theorem dX2_readSum_45 : decode cX2_readSum 45 = .ok (.getfield 26, 3) := by decide +kernel
theorem dX2_readSum_48 : decode cX2_readSum 48 = .ok (.iconst 1, 1) := by decide +kernel
theorem dX2_readSum_49 : decode cX2_readSum 49 = .ok (.iadd, 1) := by decide +kernel
theorem dX2_readSum_50 : decode cX2_readSum 50 = .ok (.putfield 26, 3) := by decide +kernel
theorem dX2_readSum_53 : decode cX2_readSum 53 = .ok (.aload_n 0, 1) := by decide +kernel
theorem dX2_readSum_54 : decode cX2_readSum 54 = .ok (.iload_n 1, 1) := by decide +kernel
theorem dX2_readSum_55 : decode cX2_readSum 55 = .ok (.invokevirtual 64, 3) := by decide +kernel
theorem dX2_readSum_58 : decode cX2_readSum 58 = .ok (.aload_n 0, 1) := by decide +kernel
theorem dX2_readSum_59 : decode cX2_readSum 59 = .ok (.sipush 20000, 3) := by decide +kernel
theorem dX2_readSum_62 : decode cX2_readSum 62 = .ok (.iload_n 3, 1) := by decide +kernel
theorem dX2_readSum_63 : decode cX2_readSum 63 = .ok (.iadd, 1) := by decide +kernel
theorem dX2_readSum_64 : decode cX2_readSum 64 = .ok (.invokevirtual 52, 3) := by decide +kernel
theorem dX2_readSum_67 : decode cX2_readSum 67 = .ok (.iinc 2 1, 3) := by decide +kernel
theorem dX2_readSum_70 : decode cX2_readSum 70 = .ok (.goto (-63), 3) := by decide +kernel
theorem dX2_readSum_73 : decode cX2_readSum 73 = .ok (.return_, 1) := by decide +kernel
theorem dX2_readProduct_0 : decode cX2_readProduct 0 = .ok (.aload_n 0, 1) := by decide +kernel
theorem dX2_readProduct_1 : decode cX2_readProduct 1 = .ok (.iload_n 1, 1) := by decide +kernel
theorem dX2_readProduct_2 : decode cX2_readProduct 2 = .ok (.invokevirtual 67, 3) := by decide +kernel
theorem dX2_readProduct_5 : decode cX2_readProduct 5 = .ok (.iconst 0, 1) := by decide +kernel
theorem dX2_readProduct_6 : decode cX2_readProduct 6 = .ok (.istore_n 2, 1) := by decide +kernel
theorem dX2_readProduct_7 : decode cX2_readProduct 7 = .ok (.iload_n 2, 1) := by decide +kernel
theorem dX2_readProduct_8 : decode cX2_readProduct 8 = .ok (.bipush 120, 2) := by decide +kernel
theorem dX2_readProduct_10 : decode cX2_readProduct 10 = .ok (.if_icmp .ge 72, 3) := by decide +kernel
theorem dX2_readProduct_13 : decode cX2_readProduct 13 = .ok (.aload_n 0, 1) := by decide +kernel
theorem dX2_readProduct_14 : decode cX2_readProduct 14 = .ok (.getfield 29, 3) := by decide +kernel
theorem dX2_readProduct_17 : decode cX2_readProduct 17 = .ok (.ifCond .ge 65, 3) := by decide +kernel
theorem dX2_readProduct_20 : decode cX2_readProduct 20 = .ok (.aload_n 0, 1) := by decide +kernel
theorem dX2_readProduct_21 : decode cX2_readProduct 21 = .ok (.invokevirtual 38, 3) := by decide +kernel
theorem dX2_readProduct_24 : decode cX2_readProduct 24 = .ok (.bipush 42, 2) := by decide +kernel
theorem dX2_readProduct_26 : decode cX2_readProduct 26 = .ok (.if_icmp .eq 21, 3) := by decide +kernel
theorem dX2_readProduct_29 : decode cX2_readProduct 29 = .ok (.aload_n 0, 1) := by decide +kernel
theorem dX2_readProduct_30 : decode cX2_readProduct 30 = .ok (.invokevirtual 38, 3) := by decide +kernel
theorem dX2_readProduct_33 : decode cX2_readProduct 33 = .ok (.bipush 47, 2) := by decide +kernel
theorem dX2_readProduct_35 : decode cX2_readProduct 35 = .ok (.if_icmp .eq 12, 3) := by decide +kernel
theorem dX2_readProduct_38 : decode cX2_readProduct 38 = .ok (.aload_n 0, 1) := by decide +kernel
theorem dX2_readProduct_39 : decode cX2_readProduct 39 = .ok (.invokevirtual 38, 3) := by decide +kernel
theorem dX2_readProduct_42 : decode cX2_readProduct 42 = .ok (.bipush 37, 2) := by decide +kernel
theorem dX2_readProduct_44 : decode cX2_readProduct 44 = .ok (.if_icmp .ne 38, 3) := by decide +kernel
theorem dX2_readProduct_47 : decode cX2_readProduct 47 = .ok (.aload_n 0, 1) := by decide +kernel
theorem dX2_readProduct_48 : decode cX2_readProduct 48 = .ok (.invokevirtual 38, 3) := by decide +kernel
theorem dX2_readProduct_51 : decode cX2_readProduct 51 = .ok (.istore_n 3, 1) := by decide +kernel
theorem dX2_readProduct_52 : decode cX2_readProduct 52 = .ok (.aload_n 0, 1) := by decide +kernel
theorem dX2_readProduct_53 : decode cX2_readProduct 53 = .ok (.dup, 1) := by decide +kernel
theorem dX2_readProduct_54 : decode cX2_readProduct 54 = .ok (.getfield 26, 3) := by decide +kernel
theorem dX2_readProduct_57 : decode cX2_readProduct 57 = .ok (.iconst 1, 1) := by decide +kernel
theorem dX2_readProduct_58 : decode cX2_readProduct 58 = .ok (.iadd, 1) := by decide +kernel
theorem dX2_readProduct_59 : decode cX2_readProduct 59 = .ok (.putfield 26, 3) := by decide +kernel
theorem dX2_readProduct_62 : decode cX2_readProduct 62 = .ok (.aload_n 0, 1) := by decide +kernel
theorem dX2_readProduct_63 : decode cX2_readProduct 63 = .ok (.iload_n 1, 1) := by decide +kernel
theorem dX2_readProduct_64 : decode cX2_readProduct 64 = .ok (.invokevirtual 67, 3) := by decide +kernel
theorem dX2_readProduct_67 : decode cX2_readProduct 67 = .ok (.aload_n 0, 1) := by decide +kernel
theorem dX2_readProduct_68 : decode cX2_readProduct 68 = .ok (.sipush 20000, 3) := by decide +kernel
theorem dX2_readProduct_71 : decode cX2_readProduct 71 = .ok (.iload_n 3, 1) := by decide +kernel
theorem dX2_readProduct_72 : decode cX2_readProduct 72 = .ok (.iadd, 1) := by decide +kernel
theorem dX2_readProduct_73 : decode cX2_readProduct 73 = .ok (.invokevirtual 52, 3) := by decide +kernel
theorem dX2_readProduct_76 : decode cX2_readProduct 76 = .ok (.iinc 2 1, 3) := by decide +kernel
theorem dX2_readProduct_79 : decode cX2_readProduct 79 = .ok (.goto (-72), 3) := by decide +kernel
theorem dX2_readProduct_82 : decode cX2_readProduct 82 = .ok (.return_, 1) := by decide +kernel
theorem dX2_readOperand_0 : decode cX2_readOperand 0 = .ok (.aload_n 0, 1) := by decide +kernel
theorem dX2_readOperand_1 : decode cX2_readOperand 1 = .ok (.invokevirtual 38, 3) := by decide +kernel
theorem dX2_readOperand_4 : decode cX2_readOperand 4 = .ok (.istore_n 2, 1) := by decide +kernel
theorem dX2_readOperand_5 : decode cX2_readOperand 5 = .ok (.iload_n 2, 1) := by decide +kernel
theorem dX2_readOperand_6 : decode cX2_readOperand 6 = .ok (.ifCond .ge 7, 3) := by decide +kernel
theorem dX2_readOperand_9 : decode cX2_readOperand 9 = .ok (.iconst (-1), 1) := by decide +kernel
theorem dX2_readOperand_10 : decode cX2_readOperand 10 = .ok (.goto 10, 3) := by decide +kernel
theorem dX2_readOperand_13 : decode cX2_readOperand 13 = .ok (.ldc 70, 2) := by decide +kernel
theorem dX2_readOperand_15 : decode cX2_readOperand 15 = .ok (.iload_n 2, 1) := by decide +kernel
theorem dX2_readOperand_16 : decode cX2_readOperand 16 = .ok (.i2c, 1) := by decide +kernel
theorem dX2_readOperand_17 : decode cX2_readOperand 17 = .ok (.invokevirtual 72, 3) := by decide +kernel
theorem dX2_readOperand_20 : decode cX2_readOperand 20 = .ok (.istore_n 3, 1) := by decide +kernel
theorem dX2_readOperand_21 : decode cX2_readOperand 21 = .ok (.iload_n 2, 1) := by decide +kernel
theorem dX2_readOperand_22 : decode cX2_readOperand 22 = .ok (.invokestatic 78, 3) := by decide +kernel
theorem dX2_readOperand_25 : decode cX2_readOperand 25 = .ok (.ifCond .eq 10, 3) := by decide +kernel
theorem dX2_readOperand_28 : decode cX2_readOperand 28 = .ok (.aload_n 0, 1) := by decide +kernel
theorem dX2_readOperand_29 : decode cX2_readOperand 29 = .ok (.invokevirtual 82, 3) := by decide +kernel
theorem dX2_readOperand_32 : decode cX2_readOperand 32 = .ok (.goto 78, 3) := by decide +kernel
theorem dX2_readOperand_35 : decode cX2_readOperand 35 = .ok (.iload_n 3, 1) := by decide +kernel
theorem dX2_readOperand_36 : decode cX2_readOperand 36 = .ok (.ifCond .lt 25, 3) := by decide +kernel
theorem dX2_readOperand_39 : decode cX2_readOperand 39 = .ok (.aload_n 0, 1) := by decide +kernel
theorem dX2_readOperand_40 : decode cX2_readOperand 40 = .ok (.dup, 1) := by decide +kernel
theorem dX2_readOperand_41 : decode cX2_readOperand 41 = .ok (.getfield 26, 3) := by decide +kernel
theorem dX2_readOperand_44 : decode cX2_readOperand 44 = .ok (.iconst 1, 1) := by decide +kernel
theorem dX2_readOperand_45 : decode cX2_readOperand 45 = .ok (.iadd, 1) := by decide +kernel
theorem dX2_readOperand_46 : decode cX2_readOperand 46 = .ok (.putfield 26, 3) := by decide +kernel
theorem dX2_readOperand_49 : decode cX2_readOperand 49 = .ok (.aload_n 0, 1) := by decide +kernel
theorem dX2_readOperand_50 : decode cX2_readOperand 50 = .ok (.sipush 10000, 3) := by decide +kernel
theorem dX2_readOperand_53 : decode cX2_readOperand 53 = .ok (.iload_n 3, 1) := by decide +kernel
theorem dX2_readOperand_54 : decode cX2_readOperand 54 = .ok (.iadd, 1) := by decide +kernel
theorem dX2_readOperand_55 : decode cX2_readOperand 55 = .ok (.invokevirtual 52, 3) := by decide +kernel
theorem dX2_readOperand_58 : decode cX2_readOperand 58 = .ok (.goto 52, 3) := by decide +kernel
theorem dX2_readOperand_61 : decode cX2_readOperand 61 = .ok (.iload_n 1, 1) := by decide +kernel
theorem dX2_readOperand_62 : decode cX2_readOperand 62 = .ok (.bipush 6, 2) := by decide +kernel
theorem dX2_readOperand_64 : decode cX2_readOperand 64 = .ok (.if_icmp .ge 42, 3) := by decide +kernel
theorem dX2_readOperand_67 : decode cX2_readOperand 67 = .ok (.iload_n 2, 1) := by decide +kernel
theorem dX2_readOperand_68 : decode cX2_readOperand 68 = .ok (.bipush 40, 2) := by decide +kernel
theorem dX2_readOperand_70 : decode cX2_readOperand 70 = .ok (.if_icmp .eq 15, 3) := by decide +kernel
theorem dX2_readOperand_73 : decode cX2_readOperand 73 = .ok (.iload_n 2, 1) := by decide +kernel
theorem dX2_readOperand_74 : decode cX2_readOperand 74 = .ok (.bipush 33, 2) := by decide +kernel
theorem dX2_readOperand_76 : decode cX2_readOperand 76 = .ok (.if_icmp .eq 9, 3) := by decide +kernel
theorem dX2_readOperand_79 : decode cX2_readOperand 79 = .ok (.iload_n 2, 1) := by decide +kernel
theorem dX2_readOperand_80 : decode cX2_readOperand 80 = .ok (.bipush 45, 2) := by decide +kernel
theorem dX2_readOperand_82 : decode cX2_readOperand 82 = .ok (.if_icmp .ne 24, 3) := by decide +kernel
theorem dX2_readOperand_85 : decode cX2_readOperand 85 = .ok (.aload_n 0, 1) := by decide +kernel
theorem dX2_readOperand_86 : decode cX2_readOperand 86 = .ok (.dup, 1) := by decide +kernel
theorem dX2_readOperand_87 : decode cX2_readOperand 87 = .ok (.getfield 26, 3) := by decide +kernel
theorem dX2_readOperand_90 : decode cX2_readOperand 90 = .ok (.iconst 1, 1) := by decide +kernel
theorem dX2_readOperand_91 : decode cX2_readOperand 91 = .ok (.iadd, 1) := by decide +kernel
theorem dX2_readOperand_92 : decode cX2_readOperand 92 = .ok (.putfield 26, 3) := by decide +kernel
theorem dX2_readOperand_95 : decode cX2_readOperand 95 = .ok (.aload_n 0, 1) := by decide +kernel
theorem dX2_readOperand_96 : decode cX2_readOperand 96 = .ok (.iload_n 2, 1) := by decide +kernel
theorem dX2_readOperand_97 : decode cX2_readOperand 97 = .ok (.iload_n 1, 1) := by decide +kernel
theorem dX2_readOperand_98 : decode cX2_readOperand 98 = .ok (.iconst 1, 1) := by decide +kernel
theorem dX2_readOperand_99 : decode cX2_readOperand 99 = .ok (.iadd, 1) := by decide +kernel
theorem dX2_readOperand_100 : decode cX2_readOperand 100 = .ok (.invokevirtual 85, 3) := by decide +kernel
theorem dX2_readOperand_103 : decode cX2_readOperand 103 = .ok (.goto 7, 3) := by decide +kernel
theorem dX2_readOperand_106 : decode cX2_readOperand 106 = .ok (.aload_n 0, 1) := by decide +kernel
theorem dX2_readOperand_107 : decode cX2_readOperand 107 = .ok (.invokevirtual 42, 3) := by decide +kernel
theorem dX2_readOperand_110 : decode cX2_readOperand 110 = .ok (.return_, 1) := by decide +kernel
theorem dX2_readOpened_0 : decode cX2_readOpened 0 = .ok (.iload_n 1, 1) := by decide +kernel
theorem dX2_readOpened_1 : decode cX2_readOpened 1 = .ok (.bipush 40, 2) := by decide +kernel
theorem dX2_readOpened_3 : decode cX2_readOpened 3 = .ok (.if_icmp .eq 28, 3) := by decide +kernel
theorem dX2_readOpened_6 : decode cX2_readOpened 6 = .ok (.aload_n 0, 1) := by decide +kernel
theorem dX2_readOpened_7 : decode cX2_readOpened 7 = .ok (.iload_n 2, 1) := by decide +kernel
theorem dX2_readOpened_8 : decode cX2_readOpened 8 = .ok (.invokevirtual 67, 3) := by decide +kernel
theorem dX2_readOpened_11 : decode cX2_readOpened 11 = .ok (.aload_n 0, 1) := by decide +kernel
theorem dX2_readOpened_12 : decode cX2_readOpened 12 = .ok (.iload_n 1, 1) := by decide +kernel
theorem dX2_readOpened_13 : decode cX2_readOpened 13 = .ok (.bipush 33, 2) := by decide +kernel
theorem dX2_readOpened_15 : decode cX2_readOpened 15 = .ok (.if_icmp .ne 9, 3) := by decide +kernel
theorem dX2_readOpened_18 : decode cX2_readOpened 18 = .ok (.sipush 20033, 3) := by decide +kernel
theorem dX2_readOpened_21 : decode cX2_readOpened 21 = .ok (.goto 6, 3) := by decide +kernel
theorem dX2_readOpened_24 : decode cX2_readOpened 24 = .ok (.sipush 20126, 3) := by decide +kernel
theorem dX2_readOpened_27 : decode cX2_readOpened 27 = .ok (.invokevirtual 52, 3) := by decide +kernel
theorem dX2_readOpened_30 : decode cX2_readOpened 30 = .ok (.return_, 1) := by decide +kernel
theorem dX2_readOpened_31 : decode cX2_readOpened 31 = .ok (.aload_n 0, 1) := by decide +kernel
theorem dX2_readOpened_32 : decode cX2_readOpened 32 = .ok (.iload_n 2, 1) := by decide +kernel
theorem dX2_readOpened_33 : decode cX2_readOpened 33 = .ok (.invokevirtual 48, 3) := by decide +kernel
theorem dX2_readOpened_36 : decode cX2_readOpened 36 = .ok (.aload_n 0, 1) := by decide +kernel
theorem dX2_readOpened_37 : decode cX2_readOpened 37 = .ok (.invokevirtual 38, 3) := by decide +kernel
theorem dX2_readOpened_40 : decode cX2_readOpened 40 = .ok (.bipush 41, 2) := by decide +kernel
theorem dX2_readOpened_42 : decode cX2_readOpened 42 = .ok (.if_icmp .eq 7, 3) := by decide +kernel
theorem dX2_readOpened_45 : decode cX2_readOpened 45 = .ok (.aload_n 0, 1) := by decide +kernel
theorem dX2_readOpened_46 : decode cX2_readOpened 46 = .ok (.invokevirtual 42, 3) := by decide +kernel
theorem dX2_readOpened_49 : decode cX2_readOpened 49 = .ok (.aload_n 0, 1) := by decide +kernel
theorem dX2_readOpened_50 : decode cX2_readOpened 50 = .ok (.dup, 1) := by decide +kernel
theorem dX2_readOpened_51 : decode cX2_readOpened 51 = .ok (.getfield 26, 3) := by decide +kernel
theorem dX2_readOpened_54 : decode cX2_readOpened 54 = .ok (.iconst 1, 1) := by decide +kernel
theorem dX2_readOpened_55 : decode cX2_readOpened 55 = .ok (.iadd, 1) := by decide +kernel
theorem dX2_readOpened_56 : decode cX2_readOpened 56 = .ok (.putfield 26, 3) := by decide +kernel
theorem dX2_readOpened_59 : decode cX2_readOpened 59 = .ok (.return_, 1) := by decide +kernel
theorem dX2_readNumber_0 : decode cX2_readNumber 0 = .ok (.iconst 0, 1) := by decide +kernel
theorem dX2_readNumber_1 : decode cX2_readNumber 1 = .ok (.istore_n 1, 1) := by decide +kernel
theorem dX2_readNumber_2 : decode cX2_readNumber 2 = .ok (.iconst 0, 1) := by decide +kernel
theorem dX2_readNumber_3 : decode cX2_readNumber 3 = .ok (.istore_n 2, 1) := by decide +kernel
theorem dX2_readNumber_4 : decode cX2_readNumber 4 = .ok (.iload_n 2, 1) := by decide +kernel
theorem dX2_readNumber_5 : decode cX2_readNumber 5 = .ok (.iconst 4, 1) := by decide +kernel
theorem dX2_readNumber_6 : decode cX2_readNumber 6 = .ok (.if_icmp .ge 42, 3) := by decide +kernel
theorem dX2_readNumber_9 : decode cX2_readNumber 9 = .ok (.aload_n 0, 1) := by decide +kernel
theorem dX2_readNumber_10 : decode cX2_readNumber 10 = .ok (.invokevirtual 38, 3) := by decide +kernel
theorem dX2_readNumber_13 : decode cX2_readNumber 13 = .ok (.invokestatic 78, 3) := by decide +kernel
theorem dX2_readNumber_16 : decode cX2_readNumber 16 = .ok (.ifCond .eq 32, 3) := by decide +kernel
theorem dX2_readNumber_19 : decode cX2_readNumber 19 = .ok (.iload_n 1, 1) := by decide +kernel
theorem dX2_readNumber_20 : decode cX2_readNumber 20 = .ok (.bipush 10, 2) := by decide +kernel
theorem dX2_readNumber_22 : decode cX2_readNumber 22 = .ok (.imul, 1) := by decide +kernel
theorem dX2_readNumber_23 : decode cX2_readNumber 23 = .ok (.aload_n 0, 1) := by decide +kernel
theorem dX2_readNumber_24 : decode cX2_readNumber 24 = .ok (.invokevirtual 38, 3) := by decide +kernel
theorem dX2_readNumber_27 : decode cX2_readNumber 27 = .ok (.iadd, 1) := by decide +kernel
theorem dX2_readNumber_28 : decode cX2_readNumber 28 = .ok (.bipush 48, 2) := by decide +kernel
theorem dX2_readNumber_30 : decode cX2_readNumber 30 = .ok (.isub, 1) := by decide +kernel
theorem dX2_readNumber_31 : decode cX2_readNumber 31 = .ok (.istore_n 1, 1) := by decide +kernel
theorem dX2_readNumber_32 : decode cX2_readNumber 32 = .ok (.aload_n 0, 1) := by decide +kernel
theorem dX2_readNumber_33 : decode cX2_readNumber 33 = .ok (.dup, 1) := by decide +kernel
theorem dX2_readNumber_34 : decode cX2_readNumber 34 = .ok (.getfield 26, 3) := by decide +kernel
theorem dX2_readNumber_37 : decode cX2_readNumber 37 = .ok (.iconst 1, 1) := by decide +kernel
theorem dX2_readNumber_38 : decode cX2_readNumber 38 = .ok (.iadd, 1) := by decide +kernel
theorem dX2_readNumber_39 : decode cX2_readNumber 39 = .ok (.putfield 26, 3) := by decide +kernel
theorem dX2_readNumber_42 : decode cX2_readNumber 42 = .ok (.iinc 2 1, 3) := by decide +kernel
theorem dX2_readNumber_45 : decode cX2_readNumber 45 = .ok (.goto (-41), 3) := by decide +kernel
theorem dX2_readNumber_48 : decode cX2_readNumber 48 = .ok (.aload_n 0, 1) := by decide +kernel
theorem dX2_readNumber_49 : decode cX2_readNumber 49 = .ok (.iload_n 1, 1) := by decide +kernel
theorem dX2_readNumber_50 : decode cX2_readNumber 50 = .ok (.invokevirtual 52, 3) := by decide +kernel
theorem dX2_readNumber_53 : decode cX2_readNumber 53 = .ok (.return_, 1) := by decide +kernel
theorem dX2_isDigit_0 : decode cX2_isDigit 0 = .ok (.iload_n 0, 1) := by decide +kernel
theorem dX2_isDigit_1 : decode cX2_isDigit 1 = .ok (.bipush 48, 2) := by decide +kernel
theorem dX2_isDigit_3 : decode cX2_isDigit 3 = .ok (.if_icmp .lt 13, 3) := by decide +kernel
theorem dX2_isDigit_6 : decode cX2_isDigit 6 = .ok (.iload_n 0, 1) := by decide +kernel
theorem dX2_isDigit_7 : decode cX2_isDigit 7 = .ok (.bipush 57, 2) := by decide +kernel
theorem dX2_isDigit_9 : decode cX2_isDigit 9 = .ok (.if_icmp .gt 7, 3) := by decide +kernel
theorem dX2_isDigit_12 : decode cX2_isDigit 12 = .ok (.iconst 1, 1) := by decide +kernel
theorem dX2_isDigit_13 : decode cX2_isDigit 13 = .ok (.goto 4, 3) := by decide +kernel
theorem dX2_isDigit_16 : decode cX2_isDigit 16 = .ok (.iconst 0, 1) := by decide +kernel
theorem dX2_isDigit_17 : decode cX2_isDigit 17 = .ok (.ireturn, 1) := by decide +kernel
theorem dX2_value_0 : decode cX2_value 0 = .ok (.aload_n 0, 1) := by decide +kernel
theorem dX2_value_1 : decode cX2_value 1 = .ok (.getfield 45, 3) := by decide +kernel
theorem dX2_value_4 : decode cX2_value 4 = .ok (.ifCond .ne 24, 3) := by decide +kernel
theorem dX2_value_7 : decode cX2_value 7 = .ok (.bipush 10, 2) := by decide +kernel
theorem dX2_value_9 : decode cX2_value 9 = .ok (.aload_n 1, 1) := by decide +kernel
theorem dX2_value_10 : decode cX2_value 10 = .ok (.iconst 3, 1) := by decide +kernel
theorem dX2_value_11 : decode cX2_value 11 = .ok (.iaload, 1) := by decide +kernel
theorem dX2_value_12 : decode cX2_value 12 = .ok (.imul, 1) := by decide +kernel
theorem dX2_value_13 : decode cX2_value 13 = .ok (.aload_n 1, 1) := by decide +kernel
theorem dX2_value_14 : decode cX2_value 14 = .ok (.iconst 2, 1) := by decide +kernel
theorem dX2_value_15 : decode cX2_value 15 = .ok (.iaload, 1) := by decide +kernel
theorem dX2_value_16 : decode cX2_value 16 = .ok (.iadd, 1) := by decide +kernel
theorem dX2_value_17 : decode cX2_value 17 = .ok (.aload_n 1, 1) := by decide +kernel
theorem dX2_value_18 : decode cX2_value 18 = .ok (.iconst 1, 1) := by decide +kernel
theorem dX2_value_19 : decode cX2_value 19 = .ok (.iaload, 1) := by decide +kernel
theorem dX2_value_20 : decode cX2_value 20 = .ok (.iadd, 1) := by decide +kernel
theorem dX2_value_21 : decode cX2_value 21 = .ok (.iconst 5, 1) := by decide +kernel
theorem dX2_value_22 : decode cX2_value 22 = .ok (.aload_n 1, 1) := by decide +kernel
theorem dX2_value_23 : decode cX2_value 23 = .ok (.iconst 4, 1) := by decide +kernel
theorem dX2_value_24 : decode cX2_value 24 = .ok (.iaload, 1) := by decide +kernel
theorem dX2_value_25 : decode cX2_value 25 = .ok (.imul, 1) := by decide +kernel
theorem dX2_value_26 : decode cX2_value 26 = .ok (.isub, 1) := by decide +kernel
theorem dX2_value_27 : decode cX2_value 27 = .ok (.ireturn, 1) := by decide +kernel
theorem dX2_value_28 : decode cX2_value 28 = .ok (.iconst 0, 1) := by decide +kernel
theorem dX2_value_29 : decode cX2_value 29 = .ok (.istore_n 2, 1) := by decide +kernel
theorem dX2_value_30 : decode cX2_value 30 = .ok (.iconst 0, 1) := by decide +kernel
theorem dX2_value_31 : decode cX2_value 31 = .ok (.istore_n 3, 1) := by decide +kernel
theorem dX2_value_32 : decode cX2_value 32 = .ok (.iconst 0, 1) := by decide +kernel
theorem dX2_value_33 : decode cX2_value 33 = .ok (.istore 4, 2) := by decide +kernel
theorem dX2_value_35 : decode cX2_value 35 = .ok (.iload 4, 2) := by decide +kernel
theorem dX2_value_37 : decode cX2_value 37 = .ok (.aload_n 0, 1) := by decide +kernel
theorem dX2_value_38 : decode cX2_value 38 = .ok (.getfield 45, 3) := by decide +kernel
theorem dX2_value_41 : decode cX2_value 41 = .ok (.if_icmp .ge 245, 3) := by decide +kernel
theorem dX2_value_44 : decode cX2_value 44 = .ok (.aload_n 0, 1) := by decide +kernel
theorem dX2_value_45 : decode cX2_value 45 = .ok (.getfield 16, 3) := by decide +kernel
theorem dX2_value_48 : decode cX2_value 48 = .ok (.iload 4, 2) := by decide +kernel
theorem dX2_value_50 : decode cX2_value 50 = .ok (.iaload, 1) := by decide +kernel
theorem dX2_value_51 : decode cX2_value 51 = .ok (.istore 5, 2) := by decide +kernel
theorem dX2_value_53 : decode cX2_value 53 = .ok (.iload_n 3, 1) := by decide +kernel
theorem dX2_value_54 : decode cX2_value 54 = .ok (.ifCond .eq 20, 3) := by decide +kernel
theorem dX2_value_57 : decode cX2_value 57 = .ok (.iload 5, 2) := by decide +kernel
theorem dX2_value_59 : decode cX2_value 59 = .ok (.sipush 20059, 3) := by decide +kernel
theorem dX2_value_62 : decode cX2_value 62 = .ok (.if_icmp .eq 7, 3) := by decide +kernel
theorem dX2_value_65 : decode cX2_value 65 = .ok (.iconst 1, 1) := by decide +kernel
theorem dX2_value_66 : decode cX2_value 66 = .ok (.goto 4, 3) := by decide +kernel
theorem dX2_value_69 : decode cX2_value 69 = .ok (.iconst 0, 1) := by decide +kernel
theorem dX2_value_70 : decode cX2_value 70 = .ok (.istore_n 3, 1) := by decide +kernel
theorem dX2_value_71 : decode cX2_value 71 = .ok (.goto 209, 3) := by decide +kernel
theorem dX2_value_74 : decode cX2_value 74 = .ok (.iload 5, 2) := by decide +kernel
theorem dX2_value_76 : decode cX2_value 76 = .ok (.sipush 20000, 3) := by decide +kernel
theorem dX2_value_79 : decode cX2_value 79 = .ok (.if_icmp .ge 43, 3) := by decide +kernel
theorem dX2_value_82 : decode cX2_value 82 = .ok (.iload_n 2, 1) := by decide +kernel
theorem dX2_value_83 : decode cX2_value 83 = .ok (.sipush 128, 3) := by decide +kernel
theorem dX2_value_86 : decode cX2_value 86 = .ok (.if_icmp .ge 36, 3) := by decide +kernel
theorem dX2_value_89 : decode cX2_value 89 = .ok (.aload_n 0, 1) := by decide +kernel
theorem dX2_value_90 : decode cX2_value 90 = .ok (.getfield 13, 3) := by decide +kernel
theorem dX2_value_93 : decode cX2_value 93 = .ok (.iload_n 2, 1) := by decide +kernel
theorem dX2_value_94 : decode cX2_value 94 = .ok (.iload 5, 2) := by decide +kernel
theorem dX2_value_96 : decode cX2_value 96 = .ok (.sipush 10000, 3) := by decide +kernel
theorem dX2_value_99 : decode cX2_value 99 = .ok (.if_icmp .ge 8, 3) := by decide +kernel
theorem dX2_value_102 : decode cX2_value 102 = .ok (.iload 5, 2) := by decide +kernel
theorem dX2_value_104 : decode cX2_value 104 = .ok (.goto 11, 3) := by decide +kernel
theorem dX2_value_107 : decode cX2_value 107 = .ok (.aload_n 1, 1) := by decide +kernel
theorem dX2_value_108 : decode cX2_value 108 = .ok (.iload 5, 2) := by decide +kernel
theorem dX2_value_110 : decode cX2_value 110 = .ok (.sipush 10000, 3) := by decide +kernel
theorem dX2_value_113 : decode cX2_value 113 = .ok (.isub, 1) := by decide +kernel
theorem dX2_value_114 : decode cX2_value 114 = .ok (.iaload, 1) := by decide +kernel
theorem dX2_value_115 : decode cX2_value 115 = .ok (.iastore, 1) := by decide +kernel
theorem dX2_value_116 : decode cX2_value 116 = .ok (.iinc 2 1, 3) := by decide +kernel
theorem dX2_value_119 : decode cX2_value 119 = .ok (.goto 161, 3) := by decide +kernel
theorem dX2_value_122 : decode cX2_value 122 = .ok (.iload_n 2, 1) := by decide +kernel
theorem dX2_value_123 : decode cX2_value 123 = .ok (.iconst 1, 1) := by decide +kernel
theorem dX2_value_124 : decode cX2_value 124 = .ok (.if_icmp .ge 5, 3) := by decide +kernel
theorem dX2_value_127 : decode cX2_value 127 = .ok (.iconst 0, 1) := by decide +kernel
theorem dX2_value_128 : decode cX2_value 128 = .ok (.ireturn, 1) := by decide +kernel
theorem dX2_value_129 : decode cX2_value 129 = .ok (.iload 5, 2) := by decide +kernel
theorem dX2_value_131 : decode cX2_value 131 = .ok (.sipush 20059, 3) := by decide +kernel
theorem dX2_value_134 : decode cX2_value 134 = .ok (.if_icmp .ne 12, 3) := by decide +kernel
theorem dX2_value_137 : decode cX2_value 137 = .ok (.aload_n 0, 1) := by decide +kernel
theorem dX2_value_138 : decode cX2_value 138 = .ok (.getfield 13, 3) := by decide +kernel
theorem dX2_value_141 : decode cX2_value 141 = .ok (.iload_n 2, 1) := by decide +kernel
theorem dX2_value_142 : decode cX2_value 142 = .ok (.iconst 1, 1) := by decide +kernel
theorem dX2_value_143 : decode cX2_value 143 = .ok (.isub, 1) := by decide +kernel
theorem dX2_value_144 : decode cX2_value 144 = .ok (.iaload, 1) := by decide +kernel
theorem dX2_value_145 : decode cX2_value 145 = .ok (.ireturn, 1) := by decide +kernel
theorem dX2_value_146 : decode cX2_value 146 = .ok (.iload 5, 2) := by decide +kernel
theorem dX2_value_148 : decode cX2_value 148 = .ok (.sipush 20063, 3) := by decide +kernel
theorem dX2_value_151 : decode cX2_value 151 = .ok (.if_icmp .ne 24, 3) := by decide +kernel
theorem dX2_value_154 : decode cX2_value 154 = .ok (.iinc 2 (-1), 3) := by decide +kernel
theorem dX2_value_157 : decode cX2_value 157 = .ok (.aload_n 0, 1) := by decide +kernel
theorem dX2_value_158 : decode cX2_value 158 = .ok (.getfield 13, 3) := by decide +kernel
theorem dX2_value_161 : decode cX2_value 161 = .ok (.iload_n 2, 1) := by decide +kernel
theorem dX2_value_162 : decode cX2_value 162 = .ok (.iaload, 1) := by decide +kernel
theorem dX2_value_163 : decode cX2_value 163 = .ok (.ifCond .ne 7, 3) := by decide +kernel
theorem dX2_value_166 : decode cX2_value 166 = .ok (.iconst 1, 1) := by decide +kernel
theorem dX2_value_167 : decode cX2_value 167 = .ok (.goto 4, 3) := by decide +kernel
theorem dX2_value_170 : decode cX2_value 170 = .ok (.iconst 0, 1) := by decide +kernel
theorem dX2_value_171 : decode cX2_value 171 = .ok (.istore_n 3, 1) := by decide +kernel
theorem dX2_value_172 : decode cX2_value 172 = .ok (.goto 108, 3) := by decide +kernel
theorem dX2_value_175 : decode cX2_value 175 = .ok (.iload 5, 2) := by decide +kernel
theorem dX2_value_177 : decode cX2_value 177 = .ok (.sipush 20126, 3) := by decide +kernel
theorem dX2_value_180 : decode cX2_value 180 = .ok (.if_icmp .eq 11, 3) := by decide +kernel
theorem dX2_value_183 : decode cX2_value 183 = .ok (.iload 5, 2) := by decide +kernel
theorem dX2_value_185 : decode cX2_value 185 = .ok (.sipush 20033, 3) := by decide +kernel
theorem dX2_value_188 : decode cX2_value 188 = .ok (.if_icmp .ne 53, 3) := by decide +kernel
theorem dX2_value_191 : decode cX2_value 191 = .ok (.aload_n 0, 1) := by decide +kernel
theorem dX2_value_192 : decode cX2_value 192 = .ok (.getfield 13, 3) := by decide +kernel
theorem dX2_value_195 : decode cX2_value 195 = .ok (.iload_n 2, 1) := by decide +kernel
theorem dX2_value_196 : decode cX2_value 196 = .ok (.iconst 1, 1) := by decide +kernel
theorem dX2_value_197 : decode cX2_value 197 = .ok (.isub, 1) := by decide +kernel
theorem dX2_value_198 : decode cX2_value 198 = .ok (.iload 5, 2) := by decide +kernel
theorem dX2_value_200 : decode cX2_value 200 = .ok (.sipush 20126, 3) := by decide +kernel
theorem dX2_value_203 : decode cX2_value 203 = .ok (.if_icmp .ne 15, 3) := by decide +kernel
theorem dX2_value_206 : decode cX2_value 206 = .ok (.aload_n 0, 1) := by decide +kernel
theorem dX2_value_207 : decode cX2_value 207 = .ok (.getfield 13, 3) := by decide +kernel
theorem dX2_value_210 : decode cX2_value 210 = .ok (.iload_n 2, 1) := by decide +kernel
theorem dX2_value_211 : decode cX2_value 211 = .ok (.iconst 1, 1) := by decide +kernel
theorem dX2_value_212 : decode cX2_value 212 = .ok (.isub, 1) := by decide +kernel
theorem dX2_value_213 : decode cX2_value 213 = .ok (.iaload, 1) := by decide +kernel
theorem dX2_value_214 : decode cX2_value 214 = .ok (.ineg, 1) := by decide +kernel
theorem dX2_value_215 : decode cX2_value 215 = .ok (.goto 22, 3) := by decide +kernel
theorem dX2_value_218 : decode cX2_value 218 = .ok (.aload_n 0, 1) := by decide +kernel
theorem dX2_value_219 : decode cX2_value 219 = .ok (.getfield 13, 3) := by decide +kernel
theorem dX2_value_222 : decode cX2_value 222 = .ok (.iload_n 2, 1) := by decide +kernel
theorem dX2_value_223 : decode cX2_value 223 = .ok (.iconst 1, 1) := by decide +kernel
theorem dX2_value_224 : decode cX2_value 224 = .ok (.isub, 1) := by decide +kernel
theorem dX2_value_225 : decode cX2_value 225 = .ok (.iaload, 1) := by decide +kernel
theorem dX2_value_226 : decode cX2_value 226 = .ok (.ifCond .ne 7, 3) := by decide +kernel
theorem dX2_value_229 : decode cX2_value 229 = .ok (.iconst 1, 1) := by decide +kernel
theorem dX2_value_230 : decode cX2_value 230 = .ok (.goto 4, 3) := by decide +kernel
theorem dX2_value_233 : decode cX2_value 233 = .ok (.iconst 0, 1) := by decide +kernel
theorem dX2_value_234 : decode cX2_value 234 = .ok (.invokestatic 89, 3) := by decide +kernel
theorem dX2_value_237 : decode cX2_value 237 = .ok (.iastore, 1) := by decide +kernel
theorem dX2_value_238 : decode cX2_value 238 = .ok (.goto 42, 3) := by decide +kernel
theorem dX2_value_241 : decode cX2_value 241 = .ok (.iload_n 2, 1) := by decide +kernel
theorem dX2_value_242 : decode cX2_value 242 = .ok (.iconst 1, 1) := by decide +kernel
theorem dX2_value_243 : decode cX2_value 243 = .ok (.if_icmp .le 37, 3) := by decide +kernel
theorem dX2_value_246 : decode cX2_value 246 = .ok (.iinc 2 (-1), 3) := by decide +kernel
theorem dX2_value_249 : decode cX2_value 249 = .ok (.aload_n 0, 1) := by decide +kernel
theorem dX2_value_250 : decode cX2_value 250 = .ok (.getfield 13, 3) := by decide +kernel
theorem dX2_value_253 : decode cX2_value 253 = .ok (.iload_n 2, 1) := by decide +kernel
theorem dX2_value_254 : decode cX2_value 254 = .ok (.iconst 1, 1) := by decide +kernel
theorem dX2_value_255 : decode cX2_value 255 = .ok (.isub, 1) := by decide +kernel
theorem dX2_value_256 : decode cX2_value 256 = .ok (.iload 5, 2) := by decide +kernel
theorem dX2_value_258 : decode cX2_value 258 = .ok (.sipush 20000, 3) := by decide +kernel
theorem dX2_value_261 : decode cX2_value 261 = .ok (.isub, 1) := by decide +kernel
theorem dX2_value_262 : decode cX2_value 262 = .ok (.aload_n 0, 1) := by decide +kernel
theorem dX2_value_263 : decode cX2_value 263 = .ok (.getfield 13, 3) := by decide +kernel
theorem dX2_value_266 : decode cX2_value 266 = .ok (.iload_n 2, 1) := by decide +kernel
theorem dX2_value_267 : decode cX2_value 267 = .ok (.iconst 1, 1) := by decide +kernel
theorem dX2_value_268 : decode cX2_value 268 = .ok (.isub, 1) := by decide +kernel
theorem dX2_value_269 : decode cX2_value 269 = .ok (.iaload, 1) := by decide +kernel
theorem dX2_value_270 : decode cX2_value 270 = .ok (.aload_n 0, 1) := by decide +kernel
theorem dX2_value_271 : decode cX2_value 271 = .ok (.getfield 13, 3) := by decide +kernel
theorem dX2_value_274 : decode cX2_value 274 = .ok (.iload_n 2, 1) := by decide +kernel
theorem dX2_value_275 : decode cX2_value 275 = .ok (.iaload, 1) := by decide +kernel
theorem dX2_value_276 : decode cX2_value 276 = .ok (.invokestatic 93, 3) := by decide +kernel
theorem dX2_value_279 : decode cX2_value 279 = .ok (.iastore, 1) := by decide +kernel
theorem dX2_value_280 : decode cX2_value 280 = .ok (.iinc 4 1, 3) := by decide +kernel
theorem dX2_value_283 : decode cX2_value 283 = .ok (.goto (-248), 3) := by decide +kernel
theorem dX2_value_286 : decode cX2_value 286 = .ok (.iconst 0, 1) := by decide +kernel
theorem dX2_value_287 : decode cX2_value 287 = .ok (.ireturn, 1) := by decide +kernel
theorem dX2_joined_0 : decode cX2_joined 0 = .ok (.iload_n 0, 1) := by decide +kernel
theorem dX2_joined_1 : decode cX2_joined 1 = .ok (.lookupswitch 168 #[(38, 97), (42, 152), (43, 144), (45, 148), (47, 156), (60, 111), (61, 122), (62, 133), (124, 83)], 83) := by decide +kernel
theorem dX2_joined_84 : decode cX2_joined 84 = .ok (.iload_n 1, 1) := by decide +kernel
theorem dX2_joined_85 : decode cX2_joined 85 = .ok (.ifCond .ne 7, 3) := by decide +kernel
theorem dX2_joined_88 : decode cX2_joined 88 = .ok (.iload_n 2, 1) := by decide +kernel
theorem dX2_joined_89 : decode cX2_joined 89 = .ok (.ifCond .eq 7, 3) := by decide +kernel
theorem dX2_joined_92 : decode cX2_joined 92 = .ok (.iconst 1, 1) := by decide +kernel
theorem dX2_joined_93 : decode cX2_joined 93 = .ok (.goto 4, 3) := by decide +kernel
theorem dX2_joined_96 : decode cX2_joined 96 = .ok (.iconst 0, 1) := by decide +kernel
theorem dX2_joined_97 : decode cX2_joined 97 = .ok (.ireturn, 1) := by decide +kernel
theorem dX2_joined_98 : decode cX2_joined 98 = .ok (.iload_n 1, 1) := by decide +kernel
theorem dX2_joined_99 : decode cX2_joined 99 = .ok (.ifCond .eq 11, 3) := by decide +kernel
theorem dX2_joined_102 : decode cX2_joined 102 = .ok (.iload_n 2, 1) := by decide +kernel
theorem dX2_joined_103 : decode cX2_joined 103 = .ok (.ifCond .eq 7, 3) := by decide +kernel
theorem dX2_joined_106 : decode cX2_joined 106 = .ok (.iconst 1, 1) := by decide +kernel
theorem dX2_joined_107 : decode cX2_joined 107 = .ok (.goto 4, 3) := by decide +kernel
theorem dX2_joined_110 : decode cX2_joined 110 = .ok (.iconst 0, 1) := by decide +kernel
theorem dX2_joined_111 : decode cX2_joined 111 = .ok (.ireturn, 1) := by decide +kernel
theorem dX2_joined_112 : decode cX2_joined 112 = .ok (.iload_n 1, 1) := by decide +kernel
theorem dX2_joined_113 : decode cX2_joined 113 = .ok (.iload_n 2, 1) := by decide +kernel
theorem dX2_joined_114 : decode cX2_joined 114 = .ok (.if_icmp .ge 7, 3) := by decide +kernel
theorem dX2_joined_117 : decode cX2_joined 117 = .ok (.iconst 1, 1) := by decide +kernel
theorem dX2_joined_118 : decode cX2_joined 118 = .ok (.goto 4, 3) := by decide +kernel
theorem dX2_joined_121 : decode cX2_joined 121 = .ok (.iconst 0, 1) := by decide +kernel
theorem dX2_joined_122 : decode cX2_joined 122 = .ok (.ireturn, 1) := by decide +kernel
theorem dX2_joined_123 : decode cX2_joined 123 = .ok (.iload_n 1, 1) := by decide +kernel
theorem dX2_joined_124 : decode cX2_joined 124 = .ok (.iload_n 2, 1) := by decide +kernel
theorem dX2_joined_125 : decode cX2_joined 125 = .ok (.if_icmp .ne 7, 3) := by decide +kernel
theorem dX2_joined_128 : decode cX2_joined 128 = .ok (.iconst 1, 1) := by decide +kernel
theorem dX2_joined_129 : decode cX2_joined 129 = .ok (.goto 4, 3) := by decide +kernel
theorem dX2_joined_132 : decode cX2_joined 132 = .ok (.iconst 0, 1) := by decide +kernel
theorem dX2_joined_133 : decode cX2_joined 133 = .ok (.ireturn, 1) := by decide +kernel
theorem dX2_joined_134 : decode cX2_joined 134 = .ok (.iload_n 1, 1) := by decide +kernel
theorem dX2_joined_135 : decode cX2_joined 135 = .ok (.iload_n 2, 1) := by decide +kernel
theorem dX2_joined_136 : decode cX2_joined 136 = .ok (.if_icmp .le 7, 3) := by decide +kernel
theorem dX2_joined_139 : decode cX2_joined 139 = .ok (.iconst 1, 1) := by decide +kernel
theorem dX2_joined_140 : decode cX2_joined 140 = .ok (.goto 4, 3) := by decide +kernel
theorem dX2_joined_143 : decode cX2_joined 143 = .ok (.iconst 0, 1) := by decide +kernel
theorem dX2_joined_144 : decode cX2_joined 144 = .ok (.ireturn, 1) := by decide +kernel
theorem dX2_joined_145 : decode cX2_joined 145 = .ok (.iload_n 1, 1) := by decide +kernel
theorem dX2_joined_146 : decode cX2_joined 146 = .ok (.iload_n 2, 1) := by decide +kernel
theorem dX2_joined_147 : decode cX2_joined 147 = .ok (.iadd, 1) := by decide +kernel
theorem dX2_joined_148 : decode cX2_joined 148 = .ok (.ireturn, 1) := by decide +kernel
theorem dX2_joined_149 : decode cX2_joined 149 = .ok (.iload_n 1, 1) := by decide +kernel
theorem dX2_joined_150 : decode cX2_joined 150 = .ok (.iload_n 2, 1) := by decide +kernel
theorem dX2_joined_151 : decode cX2_joined 151 = .ok (.isub, 1) := by decide +kernel
theorem dX2_joined_152 : decode cX2_joined 152 = .ok (.ireturn, 1) := by decide +kernel
theorem dX2_joined_153 : decode cX2_joined 153 = .ok (.iload_n 1, 1) := by decide +kernel
theorem dX2_joined_154 : decode cX2_joined 154 = .ok (.iload_n 2, 1) := by decide +kernel
theorem dX2_joined_155 : decode cX2_joined 155 = .ok (.imul, 1) := by decide +kernel
theorem dX2_joined_156 : decode cX2_joined 156 = .ok (.ireturn, 1) := by decide +kernel
theorem dX2_joined_157 : decode cX2_joined 157 = .ok (.iload_n 2, 1) := by decide +kernel
theorem dX2_joined_158 : decode cX2_joined 158 = .ok (.ifCond .ne 7, 3) := by decide +kernel
theorem dX2_joined_161 : decode cX2_joined 161 = .ok (.iconst 0, 1) := by decide +kernel
theorem dX2_joined_162 : decode cX2_joined 162 = .ok (.goto 6, 3) := by decide +kernel
theorem dX2_joined_165 : decode cX2_joined 165 = .ok (.iload_n 1, 1) := by decide +kernel
theorem dX2_joined_166 : decode cX2_joined 166 = .ok (.iload_n 2, 1) := by decide +kernel
theorem dX2_joined_167 : decode cX2_joined 167 = .ok (.idiv, 1) := by decide +kernel
theorem dX2_joined_168 : decode cX2_joined 168 = .ok (.ireturn, 1) := by decide +kernel
theorem dX2_joined_169 : decode cX2_joined 169 = .ok (.iload_n 2, 1) := by decide +kernel
theorem dX2_joined_170 : decode cX2_joined 170 = .ok (.ifCond .ne 7, 3) := by decide +kernel
theorem dX2_joined_173 : decode cX2_joined 173 = .ok (.iconst 0, 1) := by decide +kernel
theorem dX2_joined_174 : decode cX2_joined 174 = .ok (.goto 6, 3) := by decide +kernel
theorem dX2_joined_177 : decode cX2_joined 177 = .ok (.iload_n 1, 1) := by decide +kernel
theorem dX2_joined_178 : decode cX2_joined 178 = .ok (.iload_n 2, 1) := by decide +kernel
theorem dX2_joined_179 : decode cX2_joined 179 = .ok (.irem, 1) := by decide +kernel
theorem dX2_joined_180 : decode cX2_joined 180 = .ok (.ireturn, 1) := by decide +kernel
theorem dX2_bit_0 : decode cX2_bit 0 = .ok (.iload_n 0, 1) := by decide +kernel
theorem dX2_bit_1 : decode cX2_bit 1 = .ok (.ifCond .eq 7, 3) := by decide +kernel
theorem dX2_bit_4 : decode cX2_bit 4 = .ok (.iconst 1, 1) := by decide +kernel
theorem dX2_bit_5 : decode cX2_bit 5 = .ok (.goto 4, 3) := by decide +kernel
theorem dX2_bit_8 : decode cX2_bit 8 = .ok (.iconst 0, 1) := by decide +kernel
theorem dX2_bit_9 : decode cX2_bit 9 = .ok (.ireturn, 1) := by decide +kernel
theorem dX3_init_0 : decode cX3_init 0 = .ok (.aload_n 0, 1) := by decide +kernel
theorem dX3_init_1 : decode cX3_init 1 = .ok (.invokespecial 3, 3) := by decide +kernel
theorem dX3_init_4 : decode cX3_init 4 = .ok (.aload_n 0, 1) := by decide +kernel
theorem dX3_init_5 : decode cX3_init 5 = .ok (.sipush 1400, 3) := by decide +kernel
theorem dX3_init_8 : decode cX3_init 8 = .ok (.newarray .int, 2) := by decide +kernel
theorem dX3_init_10 : decode cX3_init 10 = .ok (.putfield 9, 3) := by decide +kernel
theorem dX3_init_13 : decode cX3_init 13 = .ok (.aload_n 0, 1) := by decide +kernel
theorem dX3_init_14 : decode cX3_init 14 = .ok (.bipush 6, 2) := by decide +kernel
theorem dX3_init_16 : decode cX3_init 16 = .ok (.newarray .int, 2) := by decide +kernel
theorem dX3_init_18 : decode cX3_init 18 = .ok (.putfield 15, 3) := by decide +kernel
theorem dX3_init_21 : decode cX3_init 21 = .ok (.aload_n 0, 1) := by decide +kernel
theorem dX3_init_22 : decode cX3_init 22 = .ok (.bipush 20, 2) := by decide +kernel
theorem dX3_init_24 : decode cX3_init 24 = .ok (.newarray .int, 2) := by decide +kernel
theorem dX3_init_26 : decode cX3_init 26 = .ok (.putfield 18, 3) := by decide +kernel
theorem dX3_init_29 : decode cX3_init 29 = .ok (.aload_n 0, 1) := by decide +kernel
theorem dX3_init_30 : decode cX3_init 30 = .ok (.bipush 20, 2) := by decide +kernel
theorem dX3_init_32 : decode cX3_init 32 = .ok (.newarray .int, 2) := by decide +kernel
theorem dX3_init_34 : decode cX3_init 34 = .ok (.putfield 21, 3) := by decide +kernel
theorem dX3_init_37 : decode cX3_init 37 = .ok (.aload_n 0, 1) := by decide +kernel
theorem dX3_init_38 : decode cX3_init 38 = .ok (.bipush 10, 2) := by decide +kernel
theorem dX3_init_40 : decode cX3_init 40 = .ok (.newarray .int, 2) := by decide +kernel
theorem dX3_init_42 : decode cX3_init 42 = .ok (.putfield 24, 3) := by decide +kernel
theorem dX3_init_45 : decode cX3_init 45 = .ok (.aload_n 0, 1) := by decide +kernel
theorem dX3_init_46 : decode cX3_init 46 = .ok (.bipush 10, 2) := by decide +kernel
theorem dX3_init_48 : decode cX3_init 48 = .ok (.newarray .int, 2) := by decide +kernel
theorem dX3_init_50 : decode cX3_init 50 = .ok (.putfield 27, 3) := by decide +kernel
theorem dX3_init_53 : decode cX3_init 53 = .ok (.aload_n 0, 1) := by decide +kernel
theorem dX3_init_54 : decode cX3_init 54 = .ok (.bipush 10, 2) := by decide +kernel
theorem dX3_init_56 : decode cX3_init 56 = .ok (.newarray .int, 2) := by decide +kernel
theorem dX3_init_58 : decode cX3_init 58 = .ok (.putfield 30, 3) := by decide +kernel
theorem dX3_init_61 : decode cX3_init 61 = .ok (.aload_n 0, 1) := by decide +kernel
theorem dX3_init_62 : decode cX3_init 62 = .ok (.bipush 8, 2) := by decide +kernel
theorem dX3_init_64 : decode cX3_init 64 = .ok (.newarray .int, 2) := by decide +kernel
theorem dX3_init_66 : decode cX3_init 66 = .ok (.putfield 35, 3) := by decide +kernel
theorem dX3_init_69 : decode cX3_init 69 = .ok (.aload_n 0, 1) := by decide +kernel
theorem dX3_init_70 : decode cX3_init 70 = .ok (.bipush 10, 2) := by decide +kernel
theorem dX3_init_72 : decode cX3_init 72 = .ok (.newarray .int, 2) := by decide +kernel
theorem dX3_init_74 : decode cX3_init 74 = .ok (.putfield 38, 3) := by decide +kernel
theorem dX3_init_77 : decode cX3_init 77 = .ok (.aload_n 0, 1) := by decide +kernel
theorem dX3_init_78 : decode cX3_init 78 = .ok (.bipush 10, 2) := by decide +kernel
theorem dX3_init_80 : decode cX3_init 80 = .ok (.newarray .int, 2) := by decide +kernel
theorem dX3_init_82 : decode cX3_init 82 = .ok (.putfield 41, 3) := by decide +kernel
theorem dX3_init_85 : decode cX3_init 85 = .ok (.aload_n 0, 1) := by decide +kernel
theorem dX3_init_86 : decode cX3_init 86 = .ok (.bipush 10, 2) := by decide +kernel
theorem dX3_init_88 : decode cX3_init 88 = .ok (.newarray .int, 2) := by decide +kernel
theorem dX3_init_90 : decode cX3_init 90 = .ok (.putfield 44, 3) := by decide +kernel
theorem dX3_init_93 : decode cX3_init 93 = .ok (.aload_n 0, 1) := by decide +kernel
theorem dX3_init_94 : decode cX3_init 94 = .ok (.aload_n 1, 1) := by decide +kernel
theorem dX3_init_95 : decode cX3_init 95 = .ok (.putfield 47, 3) := by decide +kernel
theorem dX3_init_98 : decode cX3_init 98 = .ok (.return_, 1) := by decide +kernel
theorem dX3_clear_0 : decode cX3_clear 0 = .ok (.aload_n 0, 1) := by decide +kernel
theorem dX3_clear_1 : decode cX3_clear 1 = .ok (.getfield 15, 3) := by decide +kernel
theorem dX3_clear_4 : decode cX3_clear 4 = .ok (.iconst 0, 1) := by decide +kernel
theorem dX3_clear_5 : decode cX3_clear 5 = .ok (.invokestatic 51, 3) := by decide +kernel
theorem dX3_clear_8 : decode cX3_clear 8 = .ok (.aload_n 0, 1) := by decide +kernel
theorem dX3_clear_9 : decode cX3_clear 9 = .ok (.getfield 18, 3) := by decide +kernel
theorem dX3_clear_12 : decode cX3_clear 12 = .ok (.bipush (-2), 2) := by decide +kernel
theorem dX3_clear_14 : decode cX3_clear 14 = .ok (.invokestatic 51, 3) := by decide +kernel
theorem dX3_clear_17 : decode cX3_clear 17 = .ok (.aload_n 0, 1) := by decide +kernel
theorem dX3_clear_18 : decode cX3_clear 18 = .ok (.getfield 21, 3) := by decide +kernel
theorem dX3_clear_21 : decode cX3_clear 21 = .ok (.bipush (-2), 2) := by decide +kernel
theorem dX3_clear_23 : decode cX3_clear 23 = .ok (.invokestatic 51, 3) := by decide +kernel
theorem dX3_clear_26 : decode cX3_clear 26 = .ok (.aload_n 0, 1) := by decide +kernel
theorem dX3_clear_27 : decode cX3_clear 27 = .ok (.getfield 24, 3) := by decide +kernel
theorem dX3_clear_30 : decode cX3_clear 30 = .ok (.iconst 0, 1) := by decide +kernel
theorem dX3_clear_31 : decode cX3_clear 31 = .ok (.invokestatic 51, 3) := by decide +kernel
theorem dX3_clear_34 : decode cX3_clear 34 = .ok (.aload_n 0, 1) := by decide +kernel
theorem dX3_clear_35 : decode cX3_clear 35 = .ok (.getfield 27, 3) := by decide +kernel
theorem dX3_clear_38 : decode cX3_clear 38 = .ok (.iconst 0, 1) := by decide +kernel
theorem dX3_clear_39 : decode cX3_clear 39 = .ok (.invokestatic 51, 3) := by decide +kernel
theorem dX3_clear_42 : decode cX3_clear 42 = .ok (.aload_n 0, 1) := by decide +kernel
theorem dX3_clear_43 : decode cX3_clear 43 = .ok (.getfield 30, 3) := by decide +kernel
theorem dX3_clear_46 : decode cX3_clear 46 = .ok (.iconst 0, 1) := by decide +kernel
theorem dX3_clear_47 : decode cX3_clear 47 = .ok (.invokestatic 51, 3) := by decide +kernel
theorem dX3_clear_50 : decode cX3_clear 50 = .ok (.aload_n 0, 1) := by decide +kernel
theorem dX3_clear_51 : decode cX3_clear 51 = .ok (.getfield 41, 3) := by decide +kernel
theorem dX3_clear_54 : decode cX3_clear 54 = .ok (.iconst 0, 1) := by decide +kernel
theorem dX3_clear_55 : decode cX3_clear 55 = .ok (.invokestatic 51, 3) := by decide +kernel
theorem dX3_clear_58 : decode cX3_clear 58 = .ok (.aload_n 0, 1) := by decide +kernel
theorem dX3_clear_59 : decode cX3_clear 59 = .ok (.getfield 44, 3) := by decide +kernel
theorem dX3_clear_62 : decode cX3_clear 62 = .ok (.bipush (-2), 2) := by decide +kernel
theorem dX3_clear_64 : decode cX3_clear 64 = .ok (.invokestatic 51, 3) := by decide +kernel
theorem dX3_clear_67 : decode cX3_clear 67 = .ok (.aload_n 0, 1) := by decide +kernel
theorem dX3_clear_68 : decode cX3_clear 68 = .ok (.iconst 0, 1) := by decide +kernel
theorem dX3_clear_69 : decode cX3_clear 69 = .ok (.putfield 57, 3) := by decide +kernel
theorem dX3_clear_72 : decode cX3_clear 72 = .ok (.aload_n 0, 1) := by decide +kernel
theorem dX3_clear_73 : decode cX3_clear 73 = .ok (.iconst 0, 1) := by decide +kernel
theorem dX3_clear_74 : decode cX3_clear 74 = .ok (.putfield 61, 3) := by decide +kernel
theorem dX3_clear_77 : decode cX3_clear 77 = .ok (.aload_n 0, 1) := by decide +kernel
theorem dX3_clear_78 : decode cX3_clear 78 = .ok (.iconst 0, 1) := by decide +kernel
theorem dX3_clear_79 : decode cX3_clear 79 = .ok (.putfield 64, 3) := by decide +kernel
theorem dX3_clear_82 : decode cX3_clear 82 = .ok (.aload_n 0, 1) := by decide +kernel
theorem dX3_clear_83 : decode cX3_clear 83 = .ok (.iconst (-1), 1) := by decide +kernel
theorem dX3_clear_84 : decode cX3_clear 84 = .ok (.putfield 67, 3) := by decide +kernel
theorem dX3_clear_87 : decode cX3_clear 87 = .ok (.return_, 1) := by decide +kernel
theorem dX3_hold_0 : decode cX3_hold 0 = .ok (.aload_n 0, 1) := by decide +kernel
theorem dX3_hold_1 : decode cX3_hold 1 = .ok (.invokevirtual 70, 3) := by decide +kernel
theorem dX3_hold_4 : decode cX3_hold 4 = .ok (.aload_n 0, 1) := by decide +kernel
theorem dX3_hold_5 : decode cX3_hold 5 = .ok (.iload_n 2, 1) := by decide +kernel
theorem dX3_hold_6 : decode cX3_hold 6 = .ok (.putfield 73, 3) := by decide +kernel
theorem dX3_hold_9 : decode cX3_hold 9 = .ok (.aload_n 0, 1) := by decide +kernel
theorem dX3_hold_10 : decode cX3_hold 10 = .ok (.iload_n 3, 1) := by decide +kernel
theorem dX3_hold_11 : decode cX3_hold 11 = .ok (.putfield 76, 3) := by decide +kernel
theorem dX3_hold_14 : decode cX3_hold 14 = .ok (.aload_n 0, 1) := by decide +kernel
theorem dX3_hold_15 : decode cX3_hold 15 = .ok (.iload 4, 2) := by decide +kernel
theorem dX3_hold_17 : decode cX3_hold 17 = .ok (.putfield 79, 3) := by decide +kernel
theorem dX3_hold_20 : decode cX3_hold 20 = .ok (.iconst 0, 1) := by decide +kernel
theorem dX3_hold_21 : decode cX3_hold 21 = .ok (.istore 5, 2) := by decide +kernel
theorem dX3_hold_23 : decode cX3_hold 23 = .ok (.iload 5, 2) := by decide +kernel
theorem dX3_hold_25 : decode cX3_hold 25 = .ok (.aload_n 0, 1) := by decide +kernel
theorem dX3_hold_26 : decode cX3_hold 26 = .ok (.getfield 47, 3) := by decide +kernel
theorem dX3_hold_29 : decode cX3_hold 29 = .ok (.getfield 82, 3) := by decide +kernel
theorem dX3_hold_32 : decode cX3_hold 32 = .ok (.if_icmp .ge 24, 3) := by decide +kernel
theorem dX3_hold_35 : decode cX3_hold 35 = .ok (.iload 5, 2) := by decide +kernel
theorem dX3_hold_37 : decode cX3_hold 37 = .ok (.aload_n 1, 1) := by decide +kernel
theorem dX3_hold_38 : decode cX3_hold 38 = .ok (.arraylength, 1) := by decide +kernel
theorem dX3_hold_39 : decode cX3_hold 39 = .ok (.if_icmp .ge 17, 3) := by decide +kernel
theorem dX3_hold_42 : decode cX3_hold 42 = .ok (.aload_n 0, 1) := by decide +kernel
theorem dX3_hold_43 : decode cX3_hold 43 = .ok (.aload_n 1, 1) := by decide +kernel
theorem dX3_hold_44 : decode cX3_hold 44 = .ok (.iload 5, 2) := by decide +kernel
theorem dX3_hold_46 : decode cX3_hold 46 = .ok (.iaload, 1) := by decide +kernel
theorem dX3_hold_47 : decode cX3_hold 47 = .ok (.invokevirtual 87, 3) := by decide +kernel
theorem dX3_hold_50 : decode cX3_hold 50 = .ok (.iinc 5 1, 3) := by decide +kernel
theorem dX3_hold_53 : decode cX3_hold 53 = .ok (.goto (-30), 3) := by decide +kernel
theorem dX3_hold_56 : decode cX3_hold 56 = .ok (.return_, 1) := by decide +kernel
theorem dX3_discuss_0 : decode cX3_discuss 0 = .ok (.iload_n 1, 1) := by decide +kernel
theorem dX3_discuss_1 : decode cX3_discuss 1 = .ok (.ifCond .lt 14, 3) := by decide +kernel
theorem dX3_discuss_4 : decode cX3_discuss 4 = .ok (.iload_n 1, 1) := by decide +kernel
theorem dX3_discuss_5 : decode cX3_discuss 5 = .ok (.aload_n 0, 1) := by decide +kernel
theorem dX3_discuss_6 : decode cX3_discuss 6 = .ok (.getfield 47, 3) := by decide +kernel
theorem dX3_discuss_9 : decode cX3_discuss 9 = .ok (.getfield 82, 3) := by decide +kernel
theorem dX3_discuss_12 : decode cX3_discuss 12 = .ok (.if_icmp .lt 4, 3) := by decide +kernel
theorem dX3_discuss_15 : decode cX3_discuss 15 = .ok (.return_, 1) := by decide +kernel
theorem dX3_discuss_16 : decode cX3_discuss 16 = .ok (.aload_n 0, 1) := by decide +kernel
theorem dX3_discuss_17 : decode cX3_discuss 17 = .ok (.getfield 41, 3) := by decide +kernel
theorem dX3_discuss_20 : decode cX3_discuss 20 = .ok (.iconst 0, 1) := by decide +kernel
theorem dX3_discuss_21 : decode cX3_discuss 21 = .ok (.invokestatic 51, 3) := by decide +kernel
theorem dX3_discuss_24 : decode cX3_discuss 24 = .ok (.aload_n 0, 1) := by decide +kernel
theorem dX3_discuss_25 : decode cX3_discuss 25 = .ok (.getfield 73, 3) := by decide +kernel
theorem dX3_discuss_28 : decode cX3_discuss 28 = .ok (.iconst 5, 1) := by decide +kernel
theorem dX3_discuss_29 : decode cX3_discuss 29 = .ok (.if_icmp .ne 8, 3) := by decide +kernel
theorem dX3_discuss_32 : decode cX3_discuss 32 = .ok (.aload_n 0, 1) := by decide +kernel
theorem dX3_discuss_33 : decode cX3_discuss 33 = .ok (.iload_n 1, 1) := by decide +kernel
theorem dX3_discuss_34 : decode cX3_discuss 34 = .ok (.invokevirtual 91, 3) := by decide +kernel
theorem dX3_discuss_37 : decode cX3_discuss 37 = .ok (.iconst 0, 1) := by decide +kernel
theorem dX3_discuss_38 : decode cX3_discuss 38 = .ok (.istore_n 2, 1) := by decide +kernel
theorem dX3_discuss_39 : decode cX3_discuss 39 = .ok (.aload_n 0, 1) := by decide +kernel
theorem dX3_discuss_40 : decode cX3_discuss 40 = .ok (.getfield 57, 3) := by decide +kernel
theorem dX3_discuss_43 : decode cX3_discuss 43 = .ok (.istore_n 3, 1) := by decide +kernel
theorem dX3_discuss_44 : decode cX3_discuss 44 = .ok (.iload_n 3, 1) := by decide +kernel
theorem dX3_discuss_45 : decode cX3_discuss 45 = .ok (.sipush 200, 3) := by decide +kernel
theorem dX3_discuss_48 : decode cX3_discuss 48 = .ok (.if_icmp .ge 44, 3) := by decide +kernel
theorem dX3_discuss_51 : decode cX3_discuss 51 = .ok (.iload_n 2, 1) := by decide +kernel
theorem dX3_discuss_52 : decode cX3_discuss 52 = .ok (.ifCond .lt 40, 3) := by decide +kernel
theorem dX3_discuss_55 : decode cX3_discuss 55 = .ok (.aload_n 0, 1) := by decide +kernel
theorem dX3_discuss_56 : decode cX3_discuss 56 = .ok (.getfield 15, 3) := by decide +kernel
theorem dX3_discuss_59 : decode cX3_discuss 59 = .ok (.iload_n 1, 1) := by decide +kernel
theorem dX3_discuss_60 : decode cX3_discuss 60 = .ok (.iaload, 1) := by decide +kernel
theorem dX3_discuss_61 : decode cX3_discuss 61 = .ok (.bipush 60, 2) := by decide +kernel
theorem dX3_discuss_63 : decode cX3_discuss 63 = .ok (.if_icmp .ge 29, 3) := by decide +kernel
theorem dX3_discuss_66 : decode cX3_discuss 66 = .ok (.aload_n 0, 1) := by decide +kernel
theorem dX3_discuss_67 : decode cX3_discuss 67 = .ok (.iload_n 1, 1) := by decide +kernel
theorem dX3_discuss_68 : decode cX3_discuss 68 = .ok (.invokevirtual 94, 3) := by decide +kernel
theorem dX3_discuss_71 : decode cX3_discuss 71 = .ok (.aload_n 0, 1) := by decide +kernel
theorem dX3_discuss_72 : decode cX3_discuss 72 = .ok (.invokevirtual 97, 3) := by decide +kernel
theorem dX3_discuss_75 : decode cX3_discuss 75 = .ok (.istore_n 2, 1) := by decide +kernel
theorem dX3_discuss_76 : decode cX3_discuss 76 = .ok (.iload_n 2, 1) := by decide +kernel
theorem dX3_discuss_77 : decode cX3_discuss 77 = .ok (.ifCond .lt 9, 3) := by decide +kernel
theorem dX3_discuss_80 : decode cX3_discuss 80 = .ok (.aload_n 0, 1) := by decide +kernel
theorem dX3_discuss_81 : decode cX3_discuss 81 = .ok (.iload_n 2, 1) := by decide +kernel
theorem dX3_discuss_82 : decode cX3_discuss 82 = .ok (.iload_n 1, 1) := by decide +kernel
theorem dX3_discuss_83 : decode cX3_discuss 83 = .ok (.invokevirtual 101, 3) := by decide +kernel
theorem dX3_discuss_86 : decode cX3_discuss 86 = .ok (.iinc 3 1, 3) := by decide +kernel
theorem dX3_discuss_89 : decode cX3_discuss 89 = .ok (.goto (-45), 3) := by decide +kernel
theorem dX3_discuss_92 : decode cX3_discuss 92 = .ok (.return_, 1) := by decide +kernel
theorem dX3_isThere_0 : decode cX3_isThere 0 = .ok (.iload_n 1, 1) := by decide +kernel
theorem dX3_isThere_1 : decode cX3_isThere 1 = .ok (.aload_n 0, 1) := by decide +kernel
theorem dX3_isThere_2 : decode cX3_isThere 2 = .ok (.getfield 79, 3) := by decide +kernel
theorem dX3_isThere_5 : decode cX3_isThere 5 = .ok (.if_icmp .eq 23, 3) := by decide +kernel
theorem dX3_isThere_8 : decode cX3_isThere 8 = .ok (.aload_n 0, 1) := by decide +kernel
theorem dX3_isThere_9 : decode cX3_isThere 9 = .ok (.getfield 47, 3) := by decide +kernel
theorem dX3_isThere_12 : decode cX3_isThere 12 = .ok (.getfield 105, 3) := by decide +kernel
theorem dX3_isThere_15 : decode cX3_isThere 15 = .ok (.iload_n 1, 1) := by decide +kernel
theorem dX3_isThere_16 : decode cX3_isThere 16 = .ok (.iaload, 1) := by decide +kernel
theorem dX3_isThere_17 : decode cX3_isThere 17 = .ok (.aload_n 0, 1) := by decide +kernel
theorem dX3_isThere_18 : decode cX3_isThere 18 = .ok (.getfield 61, 3) := by decide +kernel
theorem dX3_isThere_21 : decode cX3_isThere 21 = .ok (.if_icmp .gt 7, 3) := by decide +kernel
theorem dX3_isThere_24 : decode cX3_isThere 24 = .ok (.iconst 1, 1) := by decide +kernel
theorem dX3_isThere_25 : decode cX3_isThere 25 = .ok (.goto 4, 3) := by decide +kernel
theorem dX3_isThere_28 : decode cX3_isThere 28 = .ok (.iconst 0, 1) := by decide +kernel
theorem dX3_isThere_29 : decode cX3_isThere 29 = .ok (.ireturn, 1) := by decide +kernel
theorem dX3_cardsThere_0 : decode cX3_cardsThere 0 = .ok (.iconst 0, 1) := by decide +kernel
theorem dX3_cardsThere_1 : decode cX3_cardsThere 1 = .ok (.istore_n 1, 1) := by decide +kernel
theorem dX3_cardsThere_2 : decode cX3_cardsThere 2 = .ok (.iconst 0, 1) := by decide +kernel
theorem dX3_cardsThere_3 : decode cX3_cardsThere 3 = .ok (.istore_n 2, 1) := by decide +kernel
theorem dX3_cardsThere_4 : decode cX3_cardsThere 4 = .ok (.iload_n 2, 1) := by decide +kernel
theorem dX3_cardsThere_5 : decode cX3_cardsThere 5 = .ok (.aload_n 0, 1) := by decide +kernel
theorem dX3_cardsThere_6 : decode cX3_cardsThere 6 = .ok (.getfield 47, 3) := by decide +kernel
theorem dX3_cardsThere_9 : decode cX3_cardsThere 9 = .ok (.getfield 108, 3) := by decide +kernel
theorem dX3_cardsThere_12 : decode cX3_cardsThere 12 = .ok (.if_icmp .ge 33, 3) := by decide +kernel
theorem dX3_cardsThere_15 : decode cX3_cardsThere 15 = .ok (.iload_n 1, 1) := by decide +kernel
theorem dX3_cardsThere_16 : decode cX3_cardsThere 16 = .ok (.aload_n 0, 1) := by decide +kernel
theorem dX3_cardsThere_17 : decode cX3_cardsThere 17 = .ok (.iload_n 2, 1) := by decide +kernel
theorem dX3_cardsThere_18 : decode cX3_cardsThere 18 = .ok (.invokevirtual 111, 3) := by decide +kernel
theorem dX3_cardsThere_21 : decode cX3_cardsThere 21 = .ok (.ifCond .eq 15, 3) := by decide +kernel
theorem dX3_cardsThere_24 : decode cX3_cardsThere 24 = .ok (.aload_n 0, 1) := by decide +kernel
theorem dX3_cardsThere_25 : decode cX3_cardsThere 25 = .ok (.getfield 47, 3) := by decide +kernel
theorem dX3_cardsThere_28 : decode cX3_cardsThere 28 = .ok (.getfield 115, 3) := by decide +kernel
theorem dX3_cardsThere_31 : decode cX3_cardsThere 31 = .ok (.iload_n 2, 1) := by decide +kernel
theorem dX3_cardsThere_32 : decode cX3_cardsThere 32 = .ok (.iaload, 1) := by decide +kernel
theorem dX3_cardsThere_33 : decode cX3_cardsThere 33 = .ok (.goto 4, 3) := by decide +kernel
theorem dX3_cardsThere_36 : decode cX3_cardsThere 36 = .ok (.iconst 0, 1) := by decide +kernel
theorem dX3_cardsThere_37 : decode cX3_cardsThere 37 = .ok (.ior, 1) := by decide +kernel
theorem dX3_cardsThere_38 : decode cX3_cardsThere 38 = .ok (.istore_n 1, 1) := by decide +kernel
theorem dX3_cardsThere_39 : decode cX3_cardsThere 39 = .ok (.iinc 2 1, 3) := by decide +kernel
theorem dX3_cardsThere_42 : decode cX3_cardsThere 42 = .ok (.goto (-38), 3) := by decide +kernel
theorem dX3_cardsThere_45 : decode cX3_cardsThere 45 = .ok (.iload_n 1, 1) := by decide +kernel
theorem dX3_cardsThere_46 : decode cX3_cardsThere 46 = .ok (.ireturn, 1) := by decide +kernel
theorem dX3_writeDown_0 : decode cX3_writeDown 0 = .ok (.aload_n 0, 1) := by decide +kernel
theorem dX3_writeDown_1 : decode cX3_writeDown 1 = .ok (.invokevirtual 118, 3) := by decide +kernel
theorem dX3_writeDown_4 : decode cX3_writeDown 4 = .ok (.aload_n 0, 1) := by decide +kernel
theorem dX3_writeDown_5 : decode cX3_writeDown 5 = .ok (.getfield 47, 3) := by decide +kernel
theorem dX3_writeDown_8 : decode cX3_writeDown 8 = .ok (.getfield 121, 3) := by decide +kernel
theorem dX3_writeDown_11 : decode cX3_writeDown 11 = .ok (.iload_n 1, 1) := by decide +kernel
theorem dX3_writeDown_12 : decode cX3_writeDown 12 = .ok (.iaload, 1) := by decide +kernel
theorem dX3_writeDown_13 : decode cX3_writeDown 13 = .ok (.iand, 1) := by decide +kernel
theorem dX3_writeDown_14 : decode cX3_writeDown 14 = .ok (.istore_n 2, 1) := by decide +kernel
theorem dX3_writeDown_15 : decode cX3_writeDown 15 = .ok (.aload_n 0, 1) := by decide +kernel
theorem dX3_writeDown_16 : decode cX3_writeDown 16 = .ok (.iload_n 2, 1) := by decide +kernel
theorem dX3_writeDown_17 : decode cX3_writeDown 17 = .ok (.iconst (-1), 1) := by decide +kernel
theorem dX3_writeDown_18 : decode cX3_writeDown 18 = .ok (.iconst (-1), 1) := by decide +kernel
theorem dX3_writeDown_19 : decode cX3_writeDown 19 = .ok (.invokevirtual 124, 3) := by decide +kernel
theorem dX3_writeDown_22 : decode cX3_writeDown 22 = .ok (.return_, 1) := by decide +kernel
theorem dX3_sayFirst_0 : decode cX3_sayFirst 0 = .ok (.iconst 0, 1) := by decide +kernel
theorem dX3_sayFirst_1 : decode cX3_sayFirst 1 = .ok (.istore 4, 2) := by decide +kernel
theorem dX3_sayFirst_3 : decode cX3_sayFirst 3 = .ok (.iload 4, 2) := by decide +kernel
theorem dX3_sayFirst_5 : decode cX3_sayFirst 5 = .ok (.aload_n 0, 1) := by decide +kernel
theorem dX3_sayFirst_6 : decode cX3_sayFirst 6 = .ok (.getfield 47, 3) := by decide +kernel
theorem dX3_sayFirst_9 : decode cX3_sayFirst 9 = .ok (.getfield 128, 3) := by decide +kernel
theorem dX3_sayFirst_12 : decode cX3_sayFirst 12 = .ok (.if_icmp .ge 34, 3) := by decide +kernel
theorem dX3_sayFirst_15 : decode cX3_sayFirst 15 = .ok (.iload_n 1, 1) := by decide +kernel
theorem dX3_sayFirst_16 : decode cX3_sayFirst 16 = .ok (.iconst 1, 1) := by decide +kernel
theorem dX3_sayFirst_17 : decode cX3_sayFirst 17 = .ok (.iload 4, 2) := by decide +kernel
theorem dX3_sayFirst_19 : decode cX3_sayFirst 19 = .ok (.ishl, 1) := by decide +kernel
theorem dX3_sayFirst_20 : decode cX3_sayFirst 20 = .ok (.iand, 1) := by decide +kernel
theorem dX3_sayFirst_21 : decode cX3_sayFirst 21 = .ok (.ifCond .eq 19, 3) := by decide +kernel
theorem dX3_sayFirst_24 : decode cX3_sayFirst 24 = .ok (.aload_n 0, 1) := by decide +kernel
theorem dX3_sayFirst_25 : decode cX3_sayFirst 25 = .ok (.getfield 18, 3) := by decide +kernel
theorem dX3_sayFirst_28 : decode cX3_sayFirst 28 = .ok (.iload 4, 2) := by decide +kernel
theorem dX3_sayFirst_30 : decode cX3_sayFirst 30 = .ok (.iload_n 2, 1) := by decide +kernel
theorem dX3_sayFirst_31 : decode cX3_sayFirst 31 = .ok (.iastore, 1) := by decide +kernel
theorem dX3_sayFirst_32 : decode cX3_sayFirst 32 = .ok (.aload_n 0, 1) := by decide +kernel
theorem dX3_sayFirst_33 : decode cX3_sayFirst 33 = .ok (.getfield 21, 3) := by decide +kernel
theorem dX3_sayFirst_36 : decode cX3_sayFirst 36 = .ok (.iload 4, 2) := by decide +kernel
theorem dX3_sayFirst_38 : decode cX3_sayFirst 38 = .ok (.iload_n 3, 1) := by decide +kernel
theorem dX3_sayFirst_39 : decode cX3_sayFirst 39 = .ok (.iastore, 1) := by decide +kernel
theorem dX3_sayFirst_40 : decode cX3_sayFirst 40 = .ok (.iinc 4 1, 3) := by decide +kernel
theorem dX3_sayFirst_43 : decode cX3_sayFirst 43 = .ok (.goto (-40), 3) := by decide +kernel
theorem dX3_sayFirst_46 : decode cX3_sayFirst 46 = .ok (.aload_n 0, 1) := by decide +kernel
theorem dX3_sayFirst_47 : decode cX3_sayFirst 47 = .ok (.dup, 1) := by decide +kernel
theorem dX3_sayFirst_48 : decode cX3_sayFirst 48 = .ok (.getfield 64, 3) := by decide +kernel
theorem dX3_sayFirst_51 : decode cX3_sayFirst 51 = .ok (.iload_n 1, 1) := by decide +kernel
theorem dX3_sayFirst_52 : decode cX3_sayFirst 52 = .ok (.ior, 1) := by decide +kernel
theorem dX3_sayFirst_53 : decode cX3_sayFirst 53 = .ok (.putfield 64, 3) := by decide +kernel
theorem dX3_sayFirst_56 : decode cX3_sayFirst 56 = .ok (.return_, 1) := by decide +kernel
theorem dX3_weigh_0 : decode cX3_weigh 0 = .ok (.iconst 0, 1) := by decide +kernel
theorem dX3_weigh_1 : decode cX3_weigh 1 = .ok (.istore_n 2, 1) := by decide +kernel
theorem dX3_weigh_2 : decode cX3_weigh 2 = .ok (.iload_n 2, 1) := by decide +kernel
theorem dX3_weigh_3 : decode cX3_weigh 3 = .ok (.aload_n 0, 1) := by decide +kernel
theorem dX3_weigh_4 : decode cX3_weigh 4 = .ok (.getfield 47, 3) := by decide +kernel
theorem dX3_weigh_7 : decode cX3_weigh 7 = .ok (.getfield 108, 3) := by decide +kernel
theorem dX3_weigh_10 : decode cX3_weigh 10 = .ok (.if_icmp .ge 43, 3) := by decide +kernel
theorem dX3_weigh_13 : decode cX3_weigh 13 = .ok (.aload_n 0, 1) := by decide +kernel
theorem dX3_weigh_14 : decode cX3_weigh 14 = .ok (.getfield 38, 3) := by decide +kernel
theorem dX3_weigh_17 : decode cX3_weigh 17 = .ok (.iload_n 2, 1) := by decide +kernel
theorem dX3_weigh_18 : decode cX3_weigh 18 = .ok (.aload_n 0, 1) := by decide +kernel
theorem dX3_weigh_19 : decode cX3_weigh 19 = .ok (.iload_n 2, 1) := by decide +kernel
theorem dX3_weigh_20 : decode cX3_weigh 20 = .ok (.invokevirtual 111, 3) := by decide +kernel
theorem dX3_weigh_23 : decode cX3_weigh 23 = .ok (.ifCond .eq 22, 3) := by decide +kernel
theorem dX3_weigh_26 : decode cX3_weigh 26 = .ok (.aload_n 0, 1) := by decide +kernel
theorem dX3_weigh_27 : decode cX3_weigh 27 = .ok (.getfield 47, 3) := by decide +kernel
theorem dX3_weigh_30 : decode cX3_weigh 30 = .ok (.getfield 131, 3) := by decide +kernel
theorem dX3_weigh_33 : decode cX3_weigh 33 = .ok (.aload_n 0, 1) := by decide +kernel
theorem dX3_weigh_34 : decode cX3_weigh 34 = .ok (.iload_n 2, 1) := by decide +kernel
theorem dX3_weigh_35 : decode cX3_weigh 35 = .ok (.iload_n 1, 1) := by decide +kernel
theorem dX3_weigh_36 : decode cX3_weigh 36 = .ok (.invokevirtual 135, 3) := by decide +kernel
theorem dX3_weigh_39 : decode cX3_weigh 39 = .ok (.invokevirtual 139, 3) := by decide +kernel
theorem dX3_weigh_42 : decode cX3_weigh 42 = .ok (.goto 4, 3) := by decide +kernel
theorem dX3_weigh_45 : decode cX3_weigh 45 = .ok (.iconst 0, 1) := by decide +kernel
theorem dX3_weigh_46 : decode cX3_weigh 46 = .ok (.iastore, 1) := by decide +kernel
theorem dX3_weigh_47 : decode cX3_weigh 47 = .ok (.iinc 2 1, 3) := by decide +kernel
theorem dX3_weigh_50 : decode cX3_weigh 50 = .ok (.goto (-48), 3) := by decide +kernel
theorem dX3_weigh_53 : decode cX3_weigh 53 = .ok (.return_, 1) := by decide +kernel
theorem dX3_namesOf_0 : decode cX3_namesOf 0 = .ok (.aload_n 0, 1) := by decide +kernel
theorem dX3_namesOf_1 : decode cX3_namesOf 1 = .ok (.getfield 35, 3) := by decide +kernel
theorem dX3_namesOf_4 : decode cX3_namesOf 4 = .ok (.iconst 0, 1) := by decide +kernel
theorem dX3_namesOf_5 : decode cX3_namesOf 5 = .ok (.aload_n 0, 1) := by decide +kernel
theorem dX3_namesOf_6 : decode cX3_namesOf 6 = .ok (.getfield 47, 3) := by decide +kernel
theorem dX3_namesOf_9 : decode cX3_namesOf 9 = .ok (.getfield 143, 3) := by decide +kernel
theorem dX3_namesOf_12 : decode cX3_namesOf 12 = .ok (.iload_n 1, 1) := by decide +kernel
theorem dX3_namesOf_13 : decode cX3_namesOf 13 = .ok (.iaload, 1) := by decide +kernel
theorem dX3_namesOf_14 : decode cX3_namesOf 14 = .ok (.iastore, 1) := by decide +kernel
theorem dX3_namesOf_15 : decode cX3_namesOf 15 = .ok (.aload_n 0, 1) := by decide +kernel
theorem dX3_namesOf_16 : decode cX3_namesOf 16 = .ok (.getfield 35, 3) := by decide +kernel
theorem dX3_namesOf_19 : decode cX3_namesOf 19 = .ok (.iconst 1, 1) := by decide +kernel
theorem dX3_namesOf_20 : decode cX3_namesOf 20 = .ok (.aload_n 0, 1) := by decide +kernel
theorem dX3_namesOf_21 : decode cX3_namesOf 21 = .ok (.getfield 47, 3) := by decide +kernel
theorem dX3_namesOf_24 : decode cX3_namesOf 24 = .ok (.getfield 146, 3) := by decide +kernel
theorem dX3_namesOf_27 : decode cX3_namesOf 27 = .ok (.iload_n 1, 1) := by decide +kernel
theorem dX3_namesOf_28 : decode cX3_namesOf 28 = .ok (.iaload, 1) := by decide +kernel
theorem dX3_namesOf_29 : decode cX3_namesOf 29 = .ok (.iastore, 1) := by decide +kernel
theorem dX3_namesOf_30 : decode cX3_namesOf 30 = .ok (.aload_n 0, 1) := by decide +kernel
theorem dX3_namesOf_31 : decode cX3_namesOf 31 = .ok (.getfield 35, 3) := by decide +kernel
theorem dX3_namesOf_34 : decode cX3_namesOf 34 = .ok (.iconst 2, 1) := by decide +kernel
theorem dX3_namesOf_35 : decode cX3_namesOf 35 = .ok (.aload_n 0, 1) := by decide +kernel
theorem dX3_namesOf_36 : decode cX3_namesOf 36 = .ok (.getfield 47, 3) := by decide +kernel
theorem dX3_namesOf_39 : decode cX3_namesOf 39 = .ok (.getfield 149, 3) := by decide +kernel
theorem dX3_namesOf_42 : decode cX3_namesOf 42 = .ok (.iload_n 2, 1) := by decide +kernel
theorem dX3_namesOf_43 : decode cX3_namesOf 43 = .ok (.iaload, 1) := by decide +kernel
theorem dX3_namesOf_44 : decode cX3_namesOf 44 = .ok (.iastore, 1) := by decide +kernel
theorem dX3_namesOf_45 : decode cX3_namesOf 45 = .ok (.aload_n 0, 1) := by decide +kernel
theorem dX3_namesOf_46 : decode cX3_namesOf 46 = .ok (.getfield 35, 3) := by decide +kernel
theorem dX3_namesOf_49 : decode cX3_namesOf 49 = .ok (.iconst 3, 1) := by decide +kernel
theorem dX3_namesOf_50 : decode cX3_namesOf 50 = .ok (.aload_n 0, 1) := by decide +kernel
theorem dX3_namesOf_51 : decode cX3_namesOf 51 = .ok (.getfield 47, 3) := by decide +kernel
theorem dX3_namesOf_54 : decode cX3_namesOf 54 = .ok (.getfield 115, 3) := by decide +kernel
theorem dX3_namesOf_57 : decode cX3_namesOf 57 = .ok (.iload_n 1, 1) := by decide +kernel
theorem dX3_namesOf_58 : decode cX3_namesOf 58 = .ok (.iaload, 1) := by decide +kernel
theorem dX3_namesOf_59 : decode cX3_namesOf 59 = .ok (.aload_n 0, 1) := by decide +kernel
theorem dX3_namesOf_60 : decode cX3_namesOf 60 = .ok (.getfield 47, 3) := by decide +kernel
theorem dX3_namesOf_63 : decode cX3_namesOf 63 = .ok (.getfield 121, 3) := by decide +kernel
theorem dX3_namesOf_66 : decode cX3_namesOf 66 = .ok (.iload_n 2, 1) := by decide +kernel
theorem dX3_namesOf_67 : decode cX3_namesOf 67 = .ok (.iaload, 1) := by decide +kernel
theorem dX3_namesOf_68 : decode cX3_namesOf 68 = .ok (.iand, 1) := by decide +kernel
theorem dX3_namesOf_69 : decode cX3_namesOf 69 = .ok (.aload_n 0, 1) := by decide +kernel
theorem dX3_namesOf_70 : decode cX3_namesOf 70 = .ok (.getfield 64, 3) := by decide +kernel
theorem dX3_namesOf_73 : decode cX3_namesOf 73 = .ok (.iconst (-1), 1) := by decide +kernel
theorem dX3_namesOf_74 : decode cX3_namesOf 74 = .ok (.ixor, 1) := by decide +kernel
theorem dX3_namesOf_75 : decode cX3_namesOf 75 = .ok (.iand, 1) := by decide +kernel
theorem dX3_namesOf_76 : decode cX3_namesOf 76 = .ok (.invokestatic 152, 3) := by decide +kernel
theorem dX3_namesOf_79 : decode cX3_namesOf 79 = .ok (.iastore, 1) := by decide +kernel
theorem dX3_namesOf_80 : decode cX3_namesOf 80 = .ok (.aload_n 0, 1) := by decide +kernel
theorem dX3_namesOf_81 : decode cX3_namesOf 81 = .ok (.getfield 35, 3) := by decide +kernel
theorem dX3_namesOf_84 : decode cX3_namesOf 84 = .ok (.iconst 4, 1) := by decide +kernel
theorem dX3_namesOf_85 : decode cX3_namesOf 85 = .ok (.aload_n 0, 1) := by decide +kernel
theorem dX3_namesOf_86 : decode cX3_namesOf 86 = .ok (.getfield 41, 3) := by decide +kernel
theorem dX3_namesOf_89 : decode cX3_namesOf 89 = .ok (.iload_n 1, 1) := by decide +kernel
theorem dX3_namesOf_90 : decode cX3_namesOf 90 = .ok (.iaload, 1) := by decide +kernel
theorem dX3_namesOf_91 : decode cX3_namesOf 91 = .ok (.iastore, 1) := by decide +kernel
theorem dX3_namesOf_92 : decode cX3_namesOf 92 = .ok (.aload_n 0, 1) := by decide +kernel
theorem dX3_namesOf_93 : decode cX3_namesOf 93 = .ok (.getfield 35, 3) := by decide +kernel
theorem dX3_namesOf_96 : decode cX3_namesOf 96 = .ok (.iconst 5, 1) := by decide +kernel
theorem dX3_namesOf_97 : decode cX3_namesOf 97 = .ok (.aload_n 0, 1) := by decide +kernel
theorem dX3_namesOf_98 : decode cX3_namesOf 98 = .ok (.getfield 15, 3) := by decide +kernel
theorem dX3_namesOf_101 : decode cX3_namesOf 101 = .ok (.iload_n 2, 1) := by decide +kernel
theorem dX3_namesOf_102 : decode cX3_namesOf 102 = .ok (.iaload, 1) := by decide +kernel
theorem dX3_namesOf_103 : decode cX3_namesOf 103 = .ok (.iastore, 1) := by decide +kernel
theorem dX3_namesOf_104 : decode cX3_namesOf 104 = .ok (.aload_n 0, 1) := by decide +kernel
theorem dX3_namesOf_105 : decode cX3_namesOf 105 = .ok (.getfield 35, 3) := by decide +kernel
theorem dX3_namesOf_108 : decode cX3_namesOf 108 = .ok (.bipush 6, 2) := by decide +kernel
theorem dX3_namesOf_110 : decode cX3_namesOf 110 = .ok (.iload_n 1, 1) := by decide +kernel
theorem dX3_namesOf_111 : decode cX3_namesOf 111 = .ok (.iastore, 1) := by decide +kernel
theorem dX3_namesOf_112 : decode cX3_namesOf 112 = .ok (.aload_n 0, 1) := by decide +kernel
theorem dX3_namesOf_113 : decode cX3_namesOf 113 = .ok (.getfield 35, 3) := by decide +kernel
theorem dX3_namesOf_116 : decode cX3_namesOf 116 = .ok (.bipush 7, 2) := by decide +kernel
theorem dX3_namesOf_118 : decode cX3_namesOf 118 = .ok (.iload_n 1, 1) := by decide +kernel
theorem dX3_namesOf_119 : decode cX3_namesOf 119 = .ok (.aload_n 0, 1) := by decide +kernel
theorem dX3_namesOf_120 : decode cX3_namesOf 120 = .ok (.getfield 67, 3) := by decide +kernel
theorem dX3_namesOf_123 : decode cX3_namesOf 123 = .ok (.if_icmp .ne 7, 3) := by decide +kernel
theorem dX3_namesOf_126 : decode cX3_namesOf 126 = .ok (.iconst 1, 1) := by decide +kernel
theorem dX3_namesOf_127 : decode cX3_namesOf 127 = .ok (.goto 4, 3) := by decide +kernel
theorem dX3_namesOf_130 : decode cX3_namesOf 130 = .ok (.iconst 0, 1) := by decide +kernel
theorem dX3_namesOf_131 : decode cX3_namesOf 131 = .ok (.iastore, 1) := by decide +kernel
theorem dX3_namesOf_132 : decode cX3_namesOf 132 = .ok (.aload_n 0, 1) := by decide +kernel
theorem dX3_namesOf_133 : decode cX3_namesOf 133 = .ok (.getfield 35, 3) := by decide +kernel
theorem dX3_namesOf_136 : decode cX3_namesOf 136 = .ok (.areturn, 1) := by decide +kernel
theorem dX3_nextSpeaker_0 : decode cX3_nextSpeaker 0 = .ok (.aload_n 0, 1) := by decide +kernel
theorem dX3_nextSpeaker_1 : decode cX3_nextSpeaker 1 = .ok (.getfield 73, 3) := by decide +kernel
theorem dX3_nextSpeaker_4 : decode cX3_nextSpeaker 4 = .ok (.tableswitch 78 1 4 #[32, 37, 42, 73], 32) := by decide +kernel
theorem dX3_nextSpeaker_36 : decode cX3_nextSpeaker 36 = .ok (.aload_n 0, 1) := by decide +kernel
theorem dX3_nextSpeaker_37 : decode cX3_nextSpeaker 37 = .ok (.invokevirtual 158, 3) := by decide +kernel
theorem dX3_nextSpeaker_40 : decode cX3_nextSpeaker 40 = .ok (.ireturn, 1) := by decide +kernel
theorem dX3_nextSpeaker_41 : decode cX3_nextSpeaker 41 = .ok (.aload_n 0, 1) := by decide +kernel
theorem dX3_nextSpeaker_42 : decode cX3_nextSpeaker 42 = .ok (.invokevirtual 161, 3) := by decide +kernel
theorem dX3_nextSpeaker_45 : decode cX3_nextSpeaker 45 = .ok (.ireturn, 1) := by decide +kernel
theorem dX3_nextSpeaker_46 : decode cX3_nextSpeaker 46 = .ok (.aload_n 0, 1) := by decide +kernel
theorem dX3_nextSpeaker_47 : decode cX3_nextSpeaker 47 = .ok (.getfield 67, 3) := by decide +kernel
theorem dX3_nextSpeaker_50 : decode cX3_nextSpeaker 50 = .ok (.ifCond .lt 22, 3) := by decide +kernel
theorem dX3_nextSpeaker_53 : decode cX3_nextSpeaker 53 = .ok (.aload_n 0, 1) := by decide +kernel
theorem dX3_nextSpeaker_54 : decode cX3_nextSpeaker 54 = .ok (.getfield 38, 3) := by decide +kernel
theorem dX3_nextSpeaker_57 : decode cX3_nextSpeaker 57 = .ok (.aload_n 0, 1) := by decide +kernel
theorem dX3_nextSpeaker_58 : decode cX3_nextSpeaker 58 = .ok (.getfield 67, 3) := by decide +kernel
theorem dX3_nextSpeaker_61 : decode cX3_nextSpeaker 61 = .ok (.iaload, 1) := by decide +kernel
theorem dX3_nextSpeaker_62 : decode cX3_nextSpeaker 62 = .ok (.ifCond .le 10, 3) := by decide +kernel
theorem dX3_nextSpeaker_65 : decode cX3_nextSpeaker 65 = .ok (.aload_n 0, 1) := by decide +kernel
theorem dX3_nextSpeaker_66 : decode cX3_nextSpeaker 66 = .ok (.getfield 67, 3) := by decide +kernel
theorem dX3_nextSpeaker_69 : decode cX3_nextSpeaker 69 = .ok (.goto 7, 3) := by decide +kernel
theorem dX3_nextSpeaker_72 : decode cX3_nextSpeaker 72 = .ok (.aload_n 0, 1) := by decide +kernel
theorem dX3_nextSpeaker_73 : decode cX3_nextSpeaker 73 = .ok (.invokevirtual 158, 3) := by decide +kernel
theorem dX3_nextSpeaker_76 : decode cX3_nextSpeaker 76 = .ok (.ireturn, 1) := by decide +kernel
theorem dX3_nextSpeaker_77 : decode cX3_nextSpeaker 77 = .ok (.aload_n 0, 1) := by decide +kernel
theorem dX3_nextSpeaker_78 : decode cX3_nextSpeaker 78 = .ok (.invokevirtual 164, 3) := by decide +kernel
theorem dX3_nextSpeaker_81 : decode cX3_nextSpeaker 81 = .ok (.ireturn, 1) := by decide +kernel
theorem dX3_nextSpeaker_82 : decode cX3_nextSpeaker 82 = .ok (.aload_n 0, 1) := by decide +kernel
theorem dX3_nextSpeaker_83 : decode cX3_nextSpeaker 83 = .ok (.bipush 10, 2) := by decide +kernel
theorem dX3_nextSpeaker_85 : decode cX3_nextSpeaker 85 = .ok (.invokevirtual 167, 3) := by decide +kernel
theorem dX3_nextSpeaker_88 : decode cX3_nextSpeaker 88 = .ok (.ireturn, 1) := by decide +kernel
theorem dX3_byTurns_0 : decode cX3_byTurns 0 = .ok (.iconst 0, 1) := by decide +kernel
theorem dX3_byTurns_1 : decode cX3_byTurns 1 = .ok (.istore_n 1, 1) := by decide +kernel
theorem dX3_byTurns_2 : decode cX3_byTurns 2 = .ok (.iload_n 1, 1) := by decide +kernel
theorem dX3_byTurns_3 : decode cX3_byTurns 3 = .ok (.aload_n 0, 1) := by decide +kernel
theorem dX3_byTurns_4 : decode cX3_byTurns 4 = .ok (.getfield 47, 3) := by decide +kernel
theorem dX3_byTurns_7 : decode cX3_byTurns 7 = .ok (.getfield 108, 3) := by decide +kernel
theorem dX3_byTurns_10 : decode cX3_byTurns 10 = .ok (.if_icmp .ge 37, 3) := by decide +kernel
theorem dX3_byTurns_13 : decode cX3_byTurns 13 = .ok (.aload_n 0, 1) := by decide +kernel
theorem dX3_byTurns_14 : decode cX3_byTurns 14 = .ok (.getfield 67, 3) := by decide +kernel
theorem dX3_byTurns_17 : decode cX3_byTurns 17 = .ok (.iconst 1, 1) := by decide +kernel
theorem dX3_byTurns_18 : decode cX3_byTurns 18 = .ok (.iadd, 1) := by decide +kernel
theorem dX3_byTurns_19 : decode cX3_byTurns 19 = .ok (.iload_n 1, 1) := by decide +kernel
theorem dX3_byTurns_20 : decode cX3_byTurns 20 = .ok (.iadd, 1) := by decide +kernel
theorem dX3_byTurns_21 : decode cX3_byTurns 21 = .ok (.aload_n 0, 1) := by decide +kernel
theorem dX3_byTurns_22 : decode cX3_byTurns 22 = .ok (.getfield 47, 3) := by decide +kernel
theorem dX3_byTurns_25 : decode cX3_byTurns 25 = .ok (.getfield 108, 3) := by decide +kernel
theorem dX3_byTurns_28 : decode cX3_byTurns 28 = .ok (.irem, 1) := by decide +kernel
theorem dX3_byTurns_29 : decode cX3_byTurns 29 = .ok (.istore_n 2, 1) := by decide +kernel
theorem dX3_byTurns_30 : decode cX3_byTurns 30 = .ok (.aload_n 0, 1) := by decide +kernel
theorem dX3_byTurns_31 : decode cX3_byTurns 31 = .ok (.getfield 38, 3) := by decide +kernel
theorem dX3_byTurns_34 : decode cX3_byTurns 34 = .ok (.iload_n 2, 1) := by decide +kernel
theorem dX3_byTurns_35 : decode cX3_byTurns 35 = .ok (.iaload, 1) := by decide +kernel
theorem dX3_byTurns_36 : decode cX3_byTurns 36 = .ok (.ifCond .le 5, 3) := by decide +kernel
theorem dX3_byTurns_39 : decode cX3_byTurns 39 = .ok (.iload_n 2, 1) := by decide +kernel
theorem dX3_byTurns_40 : decode cX3_byTurns 40 = .ok (.ireturn, 1) := by decide +kernel
theorem dX3_byTurns_41 : decode cX3_byTurns 41 = .ok (.iinc 1 1, 3) := by decide +kernel
theorem dX3_byTurns_44 : decode cX3_byTurns 44 = .ok (.goto (-42), 3) := by decide +kernel
theorem dX3_byTurns_47 : decode cX3_byTurns 47 = .ok (.iconst (-1), 1) := by decide +kernel
theorem dX3_byTurns_48 : decode cX3_byTurns 48 = .ok (.ireturn, 1) := by decide +kernel
theorem dX3_whoSpokeLeast_0 : decode cX3_whoSpokeLeast 0 = .ok (.iconst (-1), 1) := by decide +kernel
theorem dX3_whoSpokeLeast_1 : decode cX3_whoSpokeLeast 1 = .ok (.istore_n 1, 1) := by decide +kernel
theorem dX3_whoSpokeLeast_2 : decode cX3_whoSpokeLeast 2 = .ok (.iconst 0, 1) := by decide +kernel
theorem dX3_whoSpokeLeast_3 : decode cX3_whoSpokeLeast 3 = .ok (.istore_n 2, 1) := by decide +kernel
theorem dX3_whoSpokeLeast_4 : decode cX3_whoSpokeLeast 4 = .ok (.iload_n 2, 1) := by decide +kernel
theorem dX3_whoSpokeLeast_5 : decode cX3_whoSpokeLeast 5 = .ok (.aload_n 0, 1) := by decide +kernel
theorem dX3_whoSpokeLeast_6 : decode cX3_whoSpokeLeast 6 = .ok (.getfield 47, 3) := by decide +kernel
theorem dX3_whoSpokeLeast_9 : decode cX3_whoSpokeLeast 9 = .ok (.getfield 108, 3) := by decide +kernel
theorem dX3_whoSpokeLeast_12 : decode cX3_whoSpokeLeast 12 = .ok (.if_icmp .ge 69, 3) := by decide +kernel
theorem dX3_whoSpokeLeast_15 : decode cX3_whoSpokeLeast 15 = .ok (.aload_n 0, 1) := by decide +kernel
theorem dX3_whoSpokeLeast_16 : decode cX3_whoSpokeLeast 16 = .ok (.getfield 38, 3) := by decide +kernel
theorem dX3_whoSpokeLeast_19 : decode cX3_whoSpokeLeast 19 = .ok (.iload_n 2, 1) := by decide +kernel
theorem dX3_whoSpokeLeast_20 : decode cX3_whoSpokeLeast 20 = .ok (.iaload, 1) := by decide +kernel
theorem dX3_whoSpokeLeast_21 : decode cX3_whoSpokeLeast 21 = .ok (.ifCond .le 54, 3) := by decide +kernel
theorem dX3_whoSpokeLeast_24 : decode cX3_whoSpokeLeast 24 = .ok (.iload_n 1, 1) := by decide +kernel
theorem dX3_whoSpokeLeast_25 : decode cX3_whoSpokeLeast 25 = .ok (.ifCond .lt 48, 3) := by decide +kernel
theorem dX3_whoSpokeLeast_28 : decode cX3_whoSpokeLeast 28 = .ok (.aload_n 0, 1) := by decide +kernel
theorem dX3_whoSpokeLeast_29 : decode cX3_whoSpokeLeast 29 = .ok (.getfield 41, 3) := by decide +kernel
theorem dX3_whoSpokeLeast_32 : decode cX3_whoSpokeLeast 32 = .ok (.iload_n 2, 1) := by decide +kernel
theorem dX3_whoSpokeLeast_33 : decode cX3_whoSpokeLeast 33 = .ok (.iaload, 1) := by decide +kernel
theorem dX3_whoSpokeLeast_34 : decode cX3_whoSpokeLeast 34 = .ok (.aload_n 0, 1) := by decide +kernel
theorem dX3_whoSpokeLeast_35 : decode cX3_whoSpokeLeast 35 = .ok (.getfield 41, 3) := by decide +kernel
theorem dX3_whoSpokeLeast_38 : decode cX3_whoSpokeLeast 38 = .ok (.iload_n 1, 1) := by decide +kernel
theorem dX3_whoSpokeLeast_39 : decode cX3_whoSpokeLeast 39 = .ok (.iaload, 1) := by decide +kernel
theorem dX3_whoSpokeLeast_40 : decode cX3_whoSpokeLeast 40 = .ok (.if_icmp .lt 33, 3) := by decide +kernel
theorem dX3_whoSpokeLeast_43 : decode cX3_whoSpokeLeast 43 = .ok (.aload_n 0, 1) := by decide +kernel
theorem dX3_whoSpokeLeast_44 : decode cX3_whoSpokeLeast 44 = .ok (.getfield 41, 3) := by decide +kernel
theorem dX3_whoSpokeLeast_47 : decode cX3_whoSpokeLeast 47 = .ok (.iload_n 2, 1) := by decide +kernel
theorem dX3_whoSpokeLeast_48 : decode cX3_whoSpokeLeast 48 = .ok (.iaload, 1) := by decide +kernel
theorem dX3_whoSpokeLeast_49 : decode cX3_whoSpokeLeast 49 = .ok (.aload_n 0, 1) := by decide +kernel
theorem dX3_whoSpokeLeast_50 : decode cX3_whoSpokeLeast 50 = .ok (.getfield 41, 3) := by decide +kernel
theorem dX3_whoSpokeLeast_53 : decode cX3_whoSpokeLeast 53 = .ok (.iload_n 1, 1) := by decide +kernel
theorem dX3_whoSpokeLeast_54 : decode cX3_whoSpokeLeast 54 = .ok (.iaload, 1) := by decide +kernel
theorem dX3_whoSpokeLeast_55 : decode cX3_whoSpokeLeast 55 = .ok (.if_icmp .ne 20, 3) := by decide +kernel
theorem dX3_whoSpokeLeast_58 : decode cX3_whoSpokeLeast 58 = .ok (.aload_n 0, 1) := by decide +kernel
theorem dX3_whoSpokeLeast_59 : decode cX3_whoSpokeLeast 59 = .ok (.getfield 38, 3) := by decide +kernel
theorem dX3_whoSpokeLeast_62 : decode cX3_whoSpokeLeast 62 = .ok (.iload_n 2, 1) := by decide +kernel
theorem dX3_whoSpokeLeast_63 : decode cX3_whoSpokeLeast 63 = .ok (.iaload, 1) := by decide +kernel
theorem dX3_whoSpokeLeast_64 : decode cX3_whoSpokeLeast 64 = .ok (.aload_n 0, 1) := by decide +kernel
theorem dX3_whoSpokeLeast_65 : decode cX3_whoSpokeLeast 65 = .ok (.getfield 38, 3) := by decide +kernel
theorem dX3_whoSpokeLeast_68 : decode cX3_whoSpokeLeast 68 = .ok (.iload_n 1, 1) := by decide +kernel
theorem dX3_whoSpokeLeast_69 : decode cX3_whoSpokeLeast 69 = .ok (.iaload, 1) := by decide +kernel
theorem dX3_whoSpokeLeast_70 : decode cX3_whoSpokeLeast 70 = .ok (.if_icmp .le 5, 3) := by decide +kernel
theorem dX3_whoSpokeLeast_73 : decode cX3_whoSpokeLeast 73 = .ok (.iload_n 2, 1) := by decide +kernel
theorem dX3_whoSpokeLeast_74 : decode cX3_whoSpokeLeast 74 = .ok (.istore_n 1, 1) := by decide +kernel
theorem dX3_whoSpokeLeast_75 : decode cX3_whoSpokeLeast 75 = .ok (.iinc 2 1, 3) := by decide +kernel
theorem dX3_whoSpokeLeast_78 : decode cX3_whoSpokeLeast 78 = .ok (.goto (-74), 3) := by decide +kernel
theorem dX3_whoSpokeLeast_81 : decode cX3_whoSpokeLeast 81 = .ok (.iload_n 1, 1) := by decide +kernel
theorem dX3_whoSpokeLeast_82 : decode cX3_whoSpokeLeast 82 = .ok (.ireturn, 1) := by decide +kernel
theorem dX3_chiefLast_0 : decode cX3_chiefLast 0 = .ok (.iconst 0, 1) := by decide +kernel
theorem dX3_chiefLast_1 : decode cX3_chiefLast 1 = .ok (.istore_n 1, 1) := by decide +kernel
theorem dX3_chiefLast_2 : decode cX3_chiefLast 2 = .ok (.iconst 0, 1) := by decide +kernel
theorem dX3_chiefLast_3 : decode cX3_chiefLast 3 = .ok (.istore_n 2, 1) := by decide +kernel
theorem dX3_chiefLast_4 : decode cX3_chiefLast 4 = .ok (.iload_n 2, 1) := by decide +kernel
theorem dX3_chiefLast_5 : decode cX3_chiefLast 5 = .ok (.aload_n 0, 1) := by decide +kernel
theorem dX3_chiefLast_6 : decode cX3_chiefLast 6 = .ok (.getfield 47, 3) := by decide +kernel
theorem dX3_chiefLast_9 : decode cX3_chiefLast 9 = .ok (.getfield 108, 3) := by decide +kernel
theorem dX3_chiefLast_12 : decode cX3_chiefLast 12 = .ok (.if_icmp .ge 35, 3) := by decide +kernel
theorem dX3_chiefLast_15 : decode cX3_chiefLast 15 = .ok (.aload_n 0, 1) := by decide +kernel
theorem dX3_chiefLast_16 : decode cX3_chiefLast 16 = .ok (.iload_n 2, 1) := by decide +kernel
theorem dX3_chiefLast_17 : decode cX3_chiefLast 17 = .ok (.invokevirtual 111, 3) := by decide +kernel
theorem dX3_chiefLast_20 : decode cX3_chiefLast 20 = .ok (.ifCond .eq 19, 3) := by decide +kernel
theorem dX3_chiefLast_23 : decode cX3_chiefLast 23 = .ok (.iload_n 1, 1) := by decide +kernel
theorem dX3_chiefLast_24 : decode cX3_chiefLast 24 = .ok (.aload_n 0, 1) := by decide +kernel
theorem dX3_chiefLast_25 : decode cX3_chiefLast 25 = .ok (.getfield 47, 3) := by decide +kernel
theorem dX3_chiefLast_28 : decode cX3_chiefLast 28 = .ok (.getfield 143, 3) := by decide +kernel
theorem dX3_chiefLast_31 : decode cX3_chiefLast 31 = .ok (.iload_n 2, 1) := by decide +kernel
theorem dX3_chiefLast_32 : decode cX3_chiefLast 32 = .ok (.iaload, 1) := by decide +kernel
theorem dX3_chiefLast_33 : decode cX3_chiefLast 33 = .ok (.invokestatic 170, 3) := by decide +kernel
theorem dX3_chiefLast_36 : decode cX3_chiefLast 36 = .ok (.goto 4, 3) := by decide +kernel
theorem dX3_chiefLast_39 : decode cX3_chiefLast 39 = .ok (.iload_n 1, 1) := by decide +kernel
theorem dX3_chiefLast_40 : decode cX3_chiefLast 40 = .ok (.istore_n 1, 1) := by decide +kernel
theorem dX3_chiefLast_41 : decode cX3_chiefLast 41 = .ok (.iinc 2 1, 3) := by decide +kernel
theorem dX3_chiefLast_44 : decode cX3_chiefLast 44 = .ok (.goto (-40), 3) := by decide +kernel
theorem dX3_chiefLast_47 : decode cX3_chiefLast 47 = .ok (.aload_n 0, 1) := by decide +kernel
theorem dX3_chiefLast_48 : decode cX3_chiefLast 48 = .ok (.iload_n 1, 1) := by decide +kernel
theorem dX3_chiefLast_49 : decode cX3_chiefLast 49 = .ok (.invokevirtual 167, 3) := by decide +kernel
theorem dX3_chiefLast_52 : decode cX3_chiefLast 52 = .ok (.istore_n 2, 1) := by decide +kernel
theorem dX3_chiefLast_53 : decode cX3_chiefLast 53 = .ok (.iload_n 2, 1) := by decide +kernel
theorem dX3_chiefLast_54 : decode cX3_chiefLast 54 = .ok (.ifCond .lt 7, 3) := by decide +kernel
theorem dX3_chiefLast_57 : decode cX3_chiefLast 57 = .ok (.iload_n 2, 1) := by decide +kernel
theorem dX3_chiefLast_58 : decode cX3_chiefLast 58 = .ok (.goto 9, 3) := by decide +kernel
theorem dX3_chiefLast_61 : decode cX3_chiefLast 61 = .ok (.aload_n 0, 1) := by decide +kernel
theorem dX3_chiefLast_62 : decode cX3_chiefLast 62 = .ok (.bipush 10, 2) := by decide +kernel
theorem dX3_chiefLast_64 : decode cX3_chiefLast 64 = .ok (.invokevirtual 167, 3) := by decide +kernel
theorem dX3_chiefLast_67 : decode cX3_chiefLast 67 = .ok (.ireturn, 1) := by decide +kernel
theorem dX3_whoWishesMost_0 : decode cX3_whoWishesMost 0 = .ok (.iconst (-1), 1) := by decide +kernel
theorem dX3_whoWishesMost_1 : decode cX3_whoWishesMost 1 = .ok (.istore_n 2, 1) := by decide +kernel
theorem dX3_whoWishesMost_2 : decode cX3_whoWishesMost 2 = .ok (.iconst 0, 1) := by decide +kernel
theorem dX3_whoWishesMost_3 : decode cX3_whoWishesMost 3 = .ok (.istore_n 3, 1) := by decide +kernel
theorem dX3_whoWishesMost_4 : decode cX3_whoWishesMost 4 = .ok (.iload_n 3, 1) := by decide +kernel
theorem dX3_whoWishesMost_5 : decode cX3_whoWishesMost 5 = .ok (.aload_n 0, 1) := by decide +kernel
theorem dX3_whoWishesMost_6 : decode cX3_whoWishesMost 6 = .ok (.getfield 47, 3) := by decide +kernel
theorem dX3_whoWishesMost_9 : decode cX3_whoWishesMost 9 = .ok (.getfield 108, 3) := by decide +kernel
theorem dX3_whoWishesMost_12 : decode cX3_whoWishesMost 12 = .ok (.if_icmp .ge 52, 3) := by decide +kernel
theorem dX3_whoWishesMost_15 : decode cX3_whoWishesMost 15 = .ok (.aload_n 0, 1) := by decide +kernel
theorem dX3_whoWishesMost_16 : decode cX3_whoWishesMost 16 = .ok (.getfield 38, 3) := by decide +kernel
theorem dX3_whoWishesMost_19 : decode cX3_whoWishesMost 19 = .ok (.iload_n 3, 1) := by decide +kernel
theorem dX3_whoWishesMost_20 : decode cX3_whoWishesMost 20 = .ok (.iaload, 1) := by decide +kernel
theorem dX3_whoWishesMost_21 : decode cX3_whoWishesMost 21 = .ok (.ifCond .le 37, 3) := by decide +kernel
theorem dX3_whoWishesMost_24 : decode cX3_whoWishesMost 24 = .ok (.aload_n 0, 1) := by decide +kernel
theorem dX3_whoWishesMost_25 : decode cX3_whoWishesMost 25 = .ok (.getfield 47, 3) := by decide +kernel
theorem dX3_whoWishesMost_28 : decode cX3_whoWishesMost 28 = .ok (.getfield 143, 3) := by decide +kernel
theorem dX3_whoWishesMost_31 : decode cX3_whoWishesMost 31 = .ok (.iload_n 3, 1) := by decide +kernel
theorem dX3_whoWishesMost_32 : decode cX3_whoWishesMost 32 = .ok (.iaload, 1) := by decide +kernel
theorem dX3_whoWishesMost_33 : decode cX3_whoWishesMost 33 = .ok (.iload_n 1, 1) := by decide +kernel
theorem dX3_whoWishesMost_34 : decode cX3_whoWishesMost 34 = .ok (.if_icmp .ge 24, 3) := by decide +kernel
theorem dX3_whoWishesMost_37 : decode cX3_whoWishesMost 37 = .ok (.iload_n 2, 1) := by decide +kernel
theorem dX3_whoWishesMost_38 : decode cX3_whoWishesMost 38 = .ok (.ifCond .lt 18, 3) := by decide +kernel
theorem dX3_whoWishesMost_41 : decode cX3_whoWishesMost 41 = .ok (.aload_n 0, 1) := by decide +kernel
theorem dX3_whoWishesMost_42 : decode cX3_whoWishesMost 42 = .ok (.getfield 38, 3) := by decide +kernel
theorem dX3_whoWishesMost_45 : decode cX3_whoWishesMost 45 = .ok (.iload_n 3, 1) := by decide +kernel
theorem dX3_whoWishesMost_46 : decode cX3_whoWishesMost 46 = .ok (.iaload, 1) := by decide +kernel
theorem dX3_whoWishesMost_47 : decode cX3_whoWishesMost 47 = .ok (.aload_n 0, 1) := by decide +kernel
theorem dX3_whoWishesMost_48 : decode cX3_whoWishesMost 48 = .ok (.getfield 38, 3) := by decide +kernel
theorem dX3_whoWishesMost_51 : decode cX3_whoWishesMost 51 = .ok (.iload_n 2, 1) := by decide +kernel
theorem dX3_whoWishesMost_52 : decode cX3_whoWishesMost 52 = .ok (.iaload, 1) := by decide +kernel
theorem dX3_whoWishesMost_53 : decode cX3_whoWishesMost 53 = .ok (.if_icmp .le 5, 3) := by decide +kernel
theorem dX3_whoWishesMost_56 : decode cX3_whoWishesMost 56 = .ok (.iload_n 3, 1) := by decide +kernel
theorem dX3_whoWishesMost_57 : decode cX3_whoWishesMost 57 = .ok (.istore_n 2, 1) := by decide +kernel
theorem dX3_whoWishesMost_58 : decode cX3_whoWishesMost 58 = .ok (.iinc 3 1, 3) := by decide +kernel
theorem dX3_whoWishesMost_61 : decode cX3_whoWishesMost 61 = .ok (.goto (-57), 3) := by decide +kernel
theorem dX3_whoWishesMost_64 : decode cX3_whoWishesMost 64 = .ok (.iload_n 2, 1) := by decide +kernel
theorem dX3_whoWishesMost_65 : decode cX3_whoWishesMost 65 = .ok (.ireturn, 1) := by decide +kernel
theorem dX3_speak_0 : decode cX3_speak 0 = .ok (.aload_n 0, 1) := by decide +kernel
theorem dX3_speak_1 : decode cX3_speak 1 = .ok (.getfield 47, 3) := by decide +kernel
theorem dX3_speak_4 : decode cX3_speak 4 = .ok (.getfield 115, 3) := by decide +kernel
theorem dX3_speak_7 : decode cX3_speak 7 = .ok (.iload_n 1, 1) := by decide +kernel
theorem dX3_speak_8 : decode cX3_speak 8 = .ok (.iaload, 1) := by decide +kernel
theorem dX3_speak_9 : decode cX3_speak 9 = .ok (.aload_n 0, 1) := by decide +kernel
theorem dX3_speak_10 : decode cX3_speak 10 = .ok (.getfield 47, 3) := by decide +kernel
theorem dX3_speak_13 : decode cX3_speak 13 = .ok (.getfield 121, 3) := by decide +kernel
theorem dX3_speak_16 : decode cX3_speak 16 = .ok (.iload_n 2, 1) := by decide +kernel
theorem dX3_speak_17 : decode cX3_speak 17 = .ok (.iaload, 1) := by decide +kernel
theorem dX3_speak_18 : decode cX3_speak 18 = .ok (.iand, 1) := by decide +kernel
theorem dX3_speak_19 : decode cX3_speak 19 = .ok (.istore_n 3, 1) := by decide +kernel
theorem dX3_speak_20 : decode cX3_speak 20 = .ok (.iload_n 3, 1) := by decide +kernel
theorem dX3_speak_21 : decode cX3_speak 21 = .ok (.aload_n 0, 1) := by decide +kernel
theorem dX3_speak_22 : decode cX3_speak 22 = .ok (.getfield 64, 3) := by decide +kernel
theorem dX3_speak_25 : decode cX3_speak 25 = .ok (.iconst (-1), 1) := by decide +kernel
theorem dX3_speak_26 : decode cX3_speak 26 = .ok (.ixor, 1) := by decide +kernel
theorem dX3_speak_27 : decode cX3_speak 27 = .ok (.iand, 1) := by decide +kernel
theorem dX3_speak_28 : decode cX3_speak 28 = .ok (.istore 4, 2) := by decide +kernel
theorem dX3_speak_30 : decode cX3_speak 30 = .ok (.aload_n 0, 1) := by decide +kernel
theorem dX3_speak_31 : decode cX3_speak 31 = .ok (.iload_n 1, 1) := by decide +kernel
theorem dX3_speak_32 : decode cX3_speak 32 = .ok (.invokevirtual 176, 3) := by decide +kernel
theorem dX3_speak_35 : decode cX3_speak 35 = .ok (.istore 5, 2) := by decide +kernel
theorem dX3_speak_37 : decode cX3_speak 37 = .ok (.iload 5, 2) := by decide +kernel
theorem dX3_speak_39 : decode cX3_speak 39 = .ok (.bipush (-2), 2) := by decide +kernel
theorem dX3_speak_41 : decode cX3_speak 41 = .ok (.if_icmp .eq 7, 3) := by decide +kernel
theorem dX3_speak_44 : decode cX3_speak 44 = .ok (.iconst 1, 1) := by decide +kernel
theorem dX3_speak_45 : decode cX3_speak 45 = .ok (.goto 4, 3) := by decide +kernel
theorem dX3_speak_48 : decode cX3_speak 48 = .ok (.iconst 0, 1) := by decide +kernel
theorem dX3_speak_49 : decode cX3_speak 49 = .ok (.istore 6, 2) := by decide +kernel
theorem dX3_speak_51 : decode cX3_speak 51 = .ok (.iload 6, 2) := by decide +kernel
theorem dX3_speak_53 : decode cX3_speak 53 = .ok (.ifCond .eq 16, 3) := by decide +kernel
theorem dX3_speak_56 : decode cX3_speak 56 = .ok (.iconst 1, 1) := by decide +kernel
theorem dX3_speak_57 : decode cX3_speak 57 = .ok (.aload_n 0, 1) := by decide +kernel
theorem dX3_speak_58 : decode cX3_speak 58 = .ok (.getfield 76, 3) := by decide +kernel
theorem dX3_speak_61 : decode cX3_speak 61 = .ok (.iconst 1, 1) := by decide +kernel
theorem dX3_speak_62 : decode cX3_speak 62 = .ok (.isub, 1) := by decide +kernel
theorem dX3_speak_63 : decode cX3_speak 63 = .ok (.invokestatic 179, 3) := by decide +kernel
theorem dX3_speak_66 : decode cX3_speak 66 = .ok (.goto 9, 3) := by decide +kernel
theorem dX3_speak_69 : decode cX3_speak 69 = .ok (.aload_n 0, 1) := by decide +kernel
theorem dX3_speak_70 : decode cX3_speak 70 = .ok (.getfield 76, 3) := by decide +kernel
theorem dX3_speak_73 : decode cX3_speak 73 = .ok (.iconst 1, 1) := by decide +kernel
theorem dX3_speak_74 : decode cX3_speak 74 = .ok (.isub, 1) := by decide +kernel
theorem dX3_speak_75 : decode cX3_speak 75 = .ok (.istore 7, 2) := by decide +kernel
theorem dX3_speak_77 : decode cX3_speak 77 = .ok (.iload 4, 2) := by decide +kernel
theorem dX3_speak_79 : decode cX3_speak 79 = .ok (.iload 7, 2) := by decide +kernel
theorem dX3_speak_81 : decode cX3_speak 81 = .ok (.invokestatic 182, 3) := by decide +kernel
theorem dX3_speak_84 : decode cX3_speak 84 = .ok (.istore 8, 2) := by decide +kernel
theorem dX3_speak_86 : decode cX3_speak 86 = .ok (.iload 8, 2) := by decide +kernel
theorem dX3_speak_88 : decode cX3_speak 88 = .ok (.ifCond .ne 15, 3) := by decide +kernel
theorem dX3_speak_91 : decode cX3_speak 91 = .ok (.iload_n 3, 1) := by decide +kernel
theorem dX3_speak_92 : decode cX3_speak 92 = .ok (.aload_n 0, 1) := by decide +kernel
theorem dX3_speak_93 : decode cX3_speak 93 = .ok (.getfield 64, 3) := by decide +kernel
theorem dX3_speak_96 : decode cX3_speak 96 = .ok (.iand, 1) := by decide +kernel
theorem dX3_speak_97 : decode cX3_speak 97 = .ok (.invokestatic 185, 3) := by decide +kernel
theorem dX3_speak_100 : decode cX3_speak 100 = .ok (.goto 5, 3) := by decide +kernel
theorem dX3_speak_103 : decode cX3_speak 103 = .ok (.bipush (-2), 2) := by decide +kernel
theorem dX3_speak_105 : decode cX3_speak 105 = .ok (.istore 9, 2) := by decide +kernel
theorem dX3_speak_107 : decode cX3_speak 107 = .ok (.iload 6, 2) := by decide +kernel
theorem dX3_speak_109 : decode cX3_speak 109 = .ok (.ifCond .eq 7, 3) := by decide +kernel
theorem dX3_speak_112 : decode cX3_speak 112 = .ok (.iconst 1, 1) := by decide +kernel
theorem dX3_speak_113 : decode cX3_speak 113 = .ok (.goto 12, 3) := by decide +kernel
theorem dX3_speak_116 : decode cX3_speak 116 = .ok (.aload_n 0, 1) := by decide +kernel
theorem dX3_speak_117 : decode cX3_speak 117 = .ok (.iload 4, 2) := by decide +kernel
theorem dX3_speak_119 : decode cX3_speak 119 = .ok (.invokestatic 152, 3) := by decide +kernel
theorem dX3_speak_122 : decode cX3_speak 122 = .ok (.invokevirtual 188, 3) := by decide +kernel
theorem dX3_speak_125 : decode cX3_speak 125 = .ok (.istore 10, 2) := by decide +kernel
theorem dX3_speak_127 : decode cX3_speak 127 = .ok (.iload 6, 2) := by decide +kernel
theorem dX3_speak_129 : decode cX3_speak 129 = .ok (.ifCond .eq 14, 3) := by decide +kernel
theorem dX3_speak_132 : decode cX3_speak 132 = .ok (.aload_n 0, 1) := by decide +kernel
theorem dX3_speak_133 : decode cX3_speak 133 = .ok (.getfield 24, 3) := by decide +kernel
theorem dX3_speak_136 : decode cX3_speak 136 = .ok (.iload 5, 2) := by decide +kernel
theorem dX3_speak_138 : decode cX3_speak 138 = .ok (.dup2, 1) := by decide +kernel
theorem dX3_speak_139 : decode cX3_speak 139 = .ok (.iaload, 1) := by decide +kernel
theorem dX3_speak_140 : decode cX3_speak 140 = .ok (.iconst 1, 1) := by decide +kernel
theorem dX3_speak_141 : decode cX3_speak 141 = .ok (.iadd, 1) := by decide +kernel
theorem dX3_speak_142 : decode cX3_speak 142 = .ok (.iastore, 1) := by decide +kernel
theorem dX3_speak_143 : decode cX3_speak 143 = .ok (.iload 9, 2) := by decide +kernel
theorem dX3_speak_145 : decode cX3_speak 145 = .ok (.ifCond .lt 34, 3) := by decide +kernel
theorem dX3_speak_148 : decode cX3_speak 148 = .ok (.aload_n 0, 1) := by decide +kernel
theorem dX3_speak_149 : decode cX3_speak 149 = .ok (.getfield 18, 3) := by decide +kernel
theorem dX3_speak_152 : decode cX3_speak 152 = .ok (.iload 9, 2) := by decide +kernel
theorem dX3_speak_154 : decode cX3_speak 154 = .ok (.iaload, 1) := by decide +kernel
theorem dX3_speak_155 : decode cX3_speak 155 = .ok (.ifCond .lt 24, 3) := by decide +kernel
theorem dX3_speak_158 : decode cX3_speak 158 = .ok (.aload_n 0, 1) := by decide +kernel
theorem dX3_speak_159 : decode cX3_speak 159 = .ok (.getfield 18, 3) := by decide +kernel
theorem dX3_speak_162 : decode cX3_speak 162 = .ok (.iload 9, 2) := by decide +kernel
theorem dX3_speak_164 : decode cX3_speak 164 = .ok (.iaload, 1) := by decide +kernel
theorem dX3_speak_165 : decode cX3_speak 165 = .ok (.iload_n 1, 1) := by decide +kernel
theorem dX3_speak_166 : decode cX3_speak 166 = .ok (.if_icmp .eq 13, 3) := by decide +kernel
theorem dX3_speak_169 : decode cX3_speak 169 = .ok (.aload_n 0, 1) := by decide +kernel
theorem dX3_speak_170 : decode cX3_speak 170 = .ok (.getfield 27, 3) := by decide +kernel
theorem dX3_speak_173 : decode cX3_speak 173 = .ok (.iload_n 1, 1) := by decide +kernel
theorem dX3_speak_174 : decode cX3_speak 174 = .ok (.dup2, 1) := by decide +kernel
theorem dX3_speak_175 : decode cX3_speak 175 = .ok (.iaload, 1) := by decide +kernel
theorem dX3_speak_176 : decode cX3_speak 176 = .ok (.iconst 1, 1) := by decide +kernel
theorem dX3_speak_177 : decode cX3_speak 177 = .ok (.iadd, 1) := by decide +kernel
theorem dX3_speak_178 : decode cX3_speak 178 = .ok (.iastore, 1) := by decide +kernel
theorem dX3_speak_179 : decode cX3_speak 179 = .ok (.aload_n 0, 1) := by decide +kernel
theorem dX3_speak_180 : decode cX3_speak 180 = .ok (.iload 8, 2) := by decide +kernel
theorem dX3_speak_182 : decode cX3_speak 182 = .ok (.iload_n 1, 1) := by decide +kernel
theorem dX3_speak_183 : decode cX3_speak 183 = .ok (.aload_n 0, 1) := by decide +kernel
theorem dX3_speak_184 : decode cX3_speak 184 = .ok (.getfield 57, 3) := by decide +kernel
theorem dX3_speak_187 : decode cX3_speak 187 = .ok (.invokevirtual 124, 3) := by decide +kernel
theorem dX3_speak_190 : decode cX3_speak 190 = .ok (.aload_n 0, 1) := by decide +kernel
theorem dX3_speak_191 : decode cX3_speak 191 = .ok (.iload_n 1, 1) := by decide +kernel
theorem dX3_speak_192 : decode cX3_speak 192 = .ok (.iload_n 2, 1) := by decide +kernel
theorem dX3_speak_193 : decode cX3_speak 193 = .ok (.iload 10, 2) := by decide +kernel
theorem dX3_speak_195 : decode cX3_speak 195 = .ok (.iload 8, 2) := by decide +kernel
theorem dX3_speak_197 : decode cX3_speak 197 = .ok (.iload 9, 2) := by decide +kernel
theorem dX3_speak_199 : decode cX3_speak 199 = .ok (.iload 5, 2) := by decide +kernel
theorem dX3_speak_201 : decode cX3_speak 201 = .ok (.invokevirtual 191, 3) := by decide +kernel
theorem dX3_speak_204 : decode cX3_speak 204 = .ok (.aload_n 0, 1) := by decide +kernel
theorem dX3_speak_205 : decode cX3_speak 205 = .ok (.getfield 44, 3) := by decide +kernel
theorem dX3_speak_208 : decode cX3_speak 208 = .ok (.iload_n 1, 1) := by decide +kernel
theorem dX3_speak_209 : decode cX3_speak 209 = .ok (.iload 5, 2) := by decide +kernel
theorem dX3_speak_211 : decode cX3_speak 211 = .ok (.iastore, 1) := by decide +kernel
theorem dX3_speak_212 : decode cX3_speak 212 = .ok (.aload_n 0, 1) := by decide +kernel
theorem dX3_speak_213 : decode cX3_speak 213 = .ok (.getfield 41, 3) := by decide +kernel
theorem dX3_speak_216 : decode cX3_speak 216 = .ok (.iload_n 1, 1) := by decide +kernel
theorem dX3_speak_217 : decode cX3_speak 217 = .ok (.dup2, 1) := by decide +kernel
theorem dX3_speak_218 : decode cX3_speak 218 = .ok (.iaload, 1) := by decide +kernel
theorem dX3_speak_219 : decode cX3_speak 219 = .ok (.iconst 1, 1) := by decide +kernel
theorem dX3_speak_220 : decode cX3_speak 220 = .ok (.iadd, 1) := by decide +kernel
theorem dX3_speak_221 : decode cX3_speak 221 = .ok (.iastore, 1) := by decide +kernel
theorem dX3_speak_222 : decode cX3_speak 222 = .ok (.aload_n 0, 1) := by decide +kernel
theorem dX3_speak_223 : decode cX3_speak 223 = .ok (.getfield 30, 3) := by decide +kernel
theorem dX3_speak_226 : decode cX3_speak 226 = .ok (.iload_n 1, 1) := by decide +kernel
theorem dX3_speak_227 : decode cX3_speak 227 = .ok (.dup2, 1) := by decide +kernel
theorem dX3_speak_228 : decode cX3_speak 228 = .ok (.iaload, 1) := by decide +kernel
theorem dX3_speak_229 : decode cX3_speak 229 = .ok (.iload 10, 2) := by decide +kernel
theorem dX3_speak_231 : decode cX3_speak 231 = .ok (.iadd, 1) := by decide +kernel
theorem dX3_speak_232 : decode cX3_speak 232 = .ok (.iastore, 1) := by decide +kernel
theorem dX3_speak_233 : decode cX3_speak 233 = .ok (.aload_n 0, 1) := by decide +kernel
theorem dX3_speak_234 : decode cX3_speak 234 = .ok (.getfield 15, 3) := by decide +kernel
theorem dX3_speak_237 : decode cX3_speak 237 = .ok (.iload_n 2, 1) := by decide +kernel
theorem dX3_speak_238 : decode cX3_speak 238 = .ok (.dup2, 1) := by decide +kernel
theorem dX3_speak_239 : decode cX3_speak 239 = .ok (.iaload, 1) := by decide +kernel
theorem dX3_speak_240 : decode cX3_speak 240 = .ok (.iload 10, 2) := by decide +kernel
theorem dX3_speak_242 : decode cX3_speak 242 = .ok (.iadd, 1) := by decide +kernel
theorem dX3_speak_243 : decode cX3_speak 243 = .ok (.iastore, 1) := by decide +kernel
theorem dX3_speak_244 : decode cX3_speak 244 = .ok (.aload_n 0, 1) := by decide +kernel
theorem dX3_speak_245 : decode cX3_speak 245 = .ok (.dup, 1) := by decide +kernel
theorem dX3_speak_246 : decode cX3_speak 246 = .ok (.getfield 61, 3) := by decide +kernel
theorem dX3_speak_249 : decode cX3_speak 249 = .ok (.iload 10, 2) := by decide +kernel
theorem dX3_speak_251 : decode cX3_speak 251 = .ok (.iadd, 1) := by decide +kernel
theorem dX3_speak_252 : decode cX3_speak 252 = .ok (.putfield 61, 3) := by decide +kernel
theorem dX3_speak_255 : decode cX3_speak 255 = .ok (.aload_n 0, 1) := by decide +kernel
theorem dX3_speak_256 : decode cX3_speak 256 = .ok (.iload_n 1, 1) := by decide +kernel
theorem dX3_speak_257 : decode cX3_speak 257 = .ok (.putfield 67, 3) := by decide +kernel
theorem dX3_speak_260 : decode cX3_speak 260 = .ok (.return_, 1) := by decide +kernel
theorem dX3_whoStops_0 : decode cX3_whoStops 0 = .ok (.iconst 0, 1) := by decide +kernel
theorem dX3_whoStops_1 : decode cX3_whoStops 1 = .ok (.istore_n 2, 1) := by decide +kernel
theorem dX3_whoStops_2 : decode cX3_whoStops 2 = .ok (.iload_n 2, 1) := by decide +kernel
theorem dX3_whoStops_3 : decode cX3_whoStops 3 = .ok (.aload_n 0, 1) := by decide +kernel
theorem dX3_whoStops_4 : decode cX3_whoStops 4 = .ok (.getfield 47, 3) := by decide +kernel
theorem dX3_whoStops_7 : decode cX3_whoStops 7 = .ok (.getfield 108, 3) := by decide +kernel
theorem dX3_whoStops_10 : decode cX3_whoStops 10 = .ok (.if_icmp .ge 64, 3) := by decide +kernel
theorem dX3_whoStops_13 : decode cX3_whoStops 13 = .ok (.iload_n 2, 1) := by decide +kernel
theorem dX3_whoStops_14 : decode cX3_whoStops 14 = .ok (.iload_n 1, 1) := by decide +kernel
theorem dX3_whoStops_15 : decode cX3_whoStops 15 = .ok (.if_icmp .eq 53, 3) := by decide +kernel
theorem dX3_whoStops_18 : decode cX3_whoStops 18 = .ok (.iload_n 2, 1) := by decide +kernel
theorem dX3_whoStops_19 : decode cX3_whoStops 19 = .ok (.aload_n 0, 1) := by decide +kernel
theorem dX3_whoStops_20 : decode cX3_whoStops 20 = .ok (.getfield 44, 3) := by decide +kernel
theorem dX3_whoStops_23 : decode cX3_whoStops 23 = .ok (.iload_n 1, 1) := by decide +kernel
theorem dX3_whoStops_24 : decode cX3_whoStops 24 = .ok (.iaload, 1) := by decide +kernel
theorem dX3_whoStops_25 : decode cX3_whoStops 25 = .ok (.if_icmp .eq 43, 3) := by decide +kernel
theorem dX3_whoStops_28 : decode cX3_whoStops 28 = .ok (.aload_n 0, 1) := by decide +kernel
theorem dX3_whoStops_29 : decode cX3_whoStops 29 = .ok (.getfield 47, 3) := by decide +kernel
theorem dX3_whoStops_32 : decode cX3_whoStops 32 = .ok (.getfield 146, 3) := by decide +kernel
theorem dX3_whoStops_35 : decode cX3_whoStops 35 = .ok (.iload_n 2, 1) := by decide +kernel
theorem dX3_whoStops_36 : decode cX3_whoStops 36 = .ok (.iaload, 1) := by decide +kernel
theorem dX3_whoStops_37 : decode cX3_whoStops 37 = .ok (.aload_n 0, 1) := by decide +kernel
theorem dX3_whoStops_38 : decode cX3_whoStops 38 = .ok (.getfield 47, 3) := by decide +kernel
theorem dX3_whoStops_41 : decode cX3_whoStops 41 = .ok (.getfield 146, 3) := by decide +kernel
theorem dX3_whoStops_44 : decode cX3_whoStops 44 = .ok (.iload_n 1, 1) := by decide +kernel
theorem dX3_whoStops_45 : decode cX3_whoStops 45 = .ok (.iaload, 1) := by decide +kernel
theorem dX3_whoStops_46 : decode cX3_whoStops 46 = .ok (.iconst 3, 1) := by decide +kernel
theorem dX3_whoStops_47 : decode cX3_whoStops 47 = .ok (.iadd, 1) := by decide +kernel
theorem dX3_whoStops_48 : decode cX3_whoStops 48 = .ok (.if_icmp .lt 20, 3) := by decide +kernel
theorem dX3_whoStops_51 : decode cX3_whoStops 51 = .ok (.aload_n 0, 1) := by decide +kernel
theorem dX3_whoStops_52 : decode cX3_whoStops 52 = .ok (.getfield 38, 3) := by decide +kernel
theorem dX3_whoStops_55 : decode cX3_whoStops 55 = .ok (.iload_n 2, 1) := by decide +kernel
theorem dX3_whoStops_56 : decode cX3_whoStops 56 = .ok (.iaload, 1) := by decide +kernel
theorem dX3_whoStops_57 : decode cX3_whoStops 57 = .ok (.aload_n 0, 1) := by decide +kernel
theorem dX3_whoStops_58 : decode cX3_whoStops 58 = .ok (.getfield 38, 3) := by decide +kernel
theorem dX3_whoStops_61 : decode cX3_whoStops 61 = .ok (.iload_n 1, 1) := by decide +kernel
theorem dX3_whoStops_62 : decode cX3_whoStops 62 = .ok (.iaload, 1) := by decide +kernel
theorem dX3_whoStops_63 : decode cX3_whoStops 63 = .ok (.if_icmp .le 5, 3) := by decide +kernel
theorem dX3_whoStops_66 : decode cX3_whoStops 66 = .ok (.iload_n 2, 1) := by decide +kernel
theorem dX3_whoStops_67 : decode cX3_whoStops 67 = .ok (.ireturn, 1) := by decide +kernel
theorem dX3_whoStops_68 : decode cX3_whoStops 68 = .ok (.iinc 2 1, 3) := by decide +kernel
theorem dX3_whoStops_71 : decode cX3_whoStops 71 = .ok (.goto (-69), 3) := by decide +kernel
theorem dX3_whoStops_74 : decode cX3_whoStops 74 = .ok (.bipush (-2), 2) := by decide +kernel
theorem dX3_whoStops_76 : decode cX3_whoStops 76 = .ok (.ireturn, 1) := by decide +kernel
theorem dX3_lengthOf_0 : decode cX3_lengthOf 0 = .ok (.aload_n 0, 1) := by decide +kernel
theorem dX3_lengthOf_1 : decode cX3_lengthOf 1 = .ok (.getfield 76, 3) := by decide +kernel
theorem dX3_lengthOf_4 : decode cX3_lengthOf 4 = .ok (.iconst 1, 1) := by decide +kernel
theorem dX3_lengthOf_5 : decode cX3_lengthOf 5 = .ok (.iload_n 1, 1) := by decide +kernel
theorem dX3_lengthOf_6 : decode cX3_lengthOf 6 = .ok (.iadd, 1) := by decide +kernel
theorem dX3_lengthOf_7 : decode cX3_lengthOf 7 = .ok (.invokestatic 179, 3) := by decide +kernel
theorem dX3_lengthOf_10 : decode cX3_lengthOf 10 = .ok (.istore_n 2, 1) := by decide +kernel
theorem dX3_lengthOf_11 : decode cX3_lengthOf 11 = .ok (.aload_n 0, 1) := by decide +kernel
theorem dX3_lengthOf_12 : decode cX3_lengthOf 12 = .ok (.getfield 47, 3) := by decide +kernel
theorem dX3_lengthOf_15 : decode cX3_lengthOf 15 = .ok (.getfield 195, 3) := by decide +kernel
theorem dX3_lengthOf_18 : decode cX3_lengthOf 18 = .ok (.iconst 1, 1) := by decide +kernel
theorem dX3_lengthOf_19 : decode cX3_lengthOf 19 = .ok (.iaload, 1) := by decide +kernel
theorem dX3_lengthOf_20 : decode cX3_lengthOf 20 = .ok (.iconst 1, 1) := by decide +kernel
theorem dX3_lengthOf_21 : decode cX3_lengthOf 21 = .ok (.if_icmp .ne 13, 3) := by decide +kernel
theorem dX3_lengthOf_24 : decode cX3_lengthOf 24 = .ok (.iconst 2, 1) := by decide +kernel
theorem dX3_lengthOf_25 : decode cX3_lengthOf 25 = .ok (.iload_n 2, 1) := by decide +kernel
theorem dX3_lengthOf_26 : decode cX3_lengthOf 26 = .ok (.imul, 1) := by decide +kernel
theorem dX3_lengthOf_27 : decode cX3_lengthOf 27 = .ok (.iconst 2, 1) := by decide +kernel
theorem dX3_lengthOf_28 : decode cX3_lengthOf 28 = .ok (.iadd, 1) := by decide +kernel
theorem dX3_lengthOf_29 : decode cX3_lengthOf 29 = .ok (.iconst 3, 1) := by decide +kernel
theorem dX3_lengthOf_30 : decode cX3_lengthOf 30 = .ok (.idiv, 1) := by decide +kernel
theorem dX3_lengthOf_31 : decode cX3_lengthOf 31 = .ok (.goto 4, 3) := by decide +kernel
theorem dX3_lengthOf_34 : decode cX3_lengthOf 34 = .ok (.iload_n 2, 1) := by decide +kernel
theorem dX3_lengthOf_35 : decode cX3_lengthOf 35 = .ok (.ireturn, 1) := by decide +kernel
theorem dX3_writeLog_0 : decode cX3_writeLog 0 = .ok (.aload_n 0, 1) := by decide +kernel
theorem dX3_writeLog_1 : decode cX3_writeLog 1 = .ok (.getfield 57, 3) := by decide +kernel
theorem dX3_writeLog_4 : decode cX3_writeLog 4 = .ok (.sipush 200, 3) := by decide +kernel
theorem dX3_writeLog_7 : decode cX3_writeLog 7 = .ok (.if_icmp .lt 4, 3) := by decide +kernel
theorem dX3_writeLog_10 : decode cX3_writeLog 10 = .ok (.return_, 1) := by decide +kernel
theorem dX3_writeLog_11 : decode cX3_writeLog 11 = .ok (.aload_n 0, 1) := by decide +kernel
theorem dX3_writeLog_12 : decode cX3_writeLog 12 = .ok (.getfield 57, 3) := by decide +kernel
theorem dX3_writeLog_15 : decode cX3_writeLog 15 = .ok (.bipush 7, 2) := by decide +kernel
theorem dX3_writeLog_17 : decode cX3_writeLog 17 = .ok (.imul, 1) := by decide +kernel
theorem dX3_writeLog_18 : decode cX3_writeLog 18 = .ok (.istore 7, 2) := by decide +kernel
theorem dX3_writeLog_20 : decode cX3_writeLog 20 = .ok (.aload_n 0, 1) := by decide +kernel
theorem dX3_writeLog_21 : decode cX3_writeLog 21 = .ok (.getfield 9, 3) := by decide +kernel
theorem dX3_writeLog_24 : decode cX3_writeLog 24 = .ok (.iload 7, 2) := by decide +kernel
theorem dX3_writeLog_26 : decode cX3_writeLog 26 = .ok (.iconst 0, 1) := by decide +kernel
theorem dX3_writeLog_27 : decode cX3_writeLog 27 = .ok (.iadd, 1) := by decide +kernel
theorem dX3_writeLog_28 : decode cX3_writeLog 28 = .ok (.iload_n 1, 1) := by decide +kernel
theorem dX3_writeLog_29 : decode cX3_writeLog 29 = .ok (.iastore, 1) := by decide +kernel
theorem dX3_writeLog_30 : decode cX3_writeLog 30 = .ok (.aload_n 0, 1) := by decide +kernel
theorem dX3_writeLog_31 : decode cX3_writeLog 31 = .ok (.getfield 9, 3) := by decide +kernel
theorem dX3_writeLog_34 : decode cX3_writeLog 34 = .ok (.iload 7, 2) := by decide +kernel
theorem dX3_writeLog_36 : decode cX3_writeLog 36 = .ok (.iconst 1, 1) := by decide +kernel
theorem dX3_writeLog_37 : decode cX3_writeLog 37 = .ok (.iadd, 1) := by decide +kernel
theorem dX3_writeLog_38 : decode cX3_writeLog 38 = .ok (.iload_n 2, 1) := by decide +kernel
theorem dX3_writeLog_39 : decode cX3_writeLog 39 = .ok (.iastore, 1) := by decide +kernel
theorem dX3_writeLog_40 : decode cX3_writeLog 40 = .ok (.aload_n 0, 1) := by decide +kernel
theorem dX3_writeLog_41 : decode cX3_writeLog 41 = .ok (.getfield 9, 3) := by decide +kernel
theorem dX3_writeLog_44 : decode cX3_writeLog 44 = .ok (.iload 7, 2) := by decide +kernel
theorem dX3_writeLog_46 : decode cX3_writeLog 46 = .ok (.iconst 2, 1) := by decide +kernel
theorem dX3_writeLog_47 : decode cX3_writeLog 47 = .ok (.iadd, 1) := by decide +kernel
theorem dX3_writeLog_48 : decode cX3_writeLog 48 = .ok (.aload_n 0, 1) := by decide +kernel
theorem dX3_writeLog_49 : decode cX3_writeLog 49 = .ok (.getfield 61, 3) := by decide +kernel
theorem dX3_writeLog_52 : decode cX3_writeLog 52 = .ok (.iastore, 1) := by decide +kernel
theorem dX3_writeLog_53 : decode cX3_writeLog 53 = .ok (.aload_n 0, 1) := by decide +kernel
theorem dX3_writeLog_54 : decode cX3_writeLog 54 = .ok (.getfield 9, 3) := by decide +kernel
theorem dX3_writeLog_57 : decode cX3_writeLog 57 = .ok (.iload 7, 2) := by decide +kernel
theorem dX3_writeLog_59 : decode cX3_writeLog 59 = .ok (.iconst 3, 1) := by decide +kernel
theorem dX3_writeLog_60 : decode cX3_writeLog 60 = .ok (.iadd, 1) := by decide +kernel
theorem dX3_writeLog_61 : decode cX3_writeLog 61 = .ok (.iload_n 3, 1) := by decide +kernel
theorem dX3_writeLog_62 : decode cX3_writeLog 62 = .ok (.iastore, 1) := by decide +kernel
theorem dX3_writeLog_63 : decode cX3_writeLog 63 = .ok (.aload_n 0, 1) := by decide +kernel
theorem dX3_writeLog_64 : decode cX3_writeLog 64 = .ok (.getfield 9, 3) := by decide +kernel
theorem dX3_writeLog_67 : decode cX3_writeLog 67 = .ok (.iload 7, 2) := by decide +kernel
theorem dX3_writeLog_69 : decode cX3_writeLog 69 = .ok (.iconst 4, 1) := by decide +kernel
theorem dX3_writeLog_70 : decode cX3_writeLog 70 = .ok (.iadd, 1) := by decide +kernel
theorem dX3_writeLog_71 : decode cX3_writeLog 71 = .ok (.iload 4, 2) := by decide +kernel
theorem dX3_writeLog_73 : decode cX3_writeLog 73 = .ok (.iastore, 1) := by decide +kernel
theorem dX3_writeLog_74 : decode cX3_writeLog 74 = .ok (.aload_n 0, 1) := by decide +kernel
theorem dX3_writeLog_75 : decode cX3_writeLog 75 = .ok (.getfield 9, 3) := by decide +kernel
theorem dX3_writeLog_78 : decode cX3_writeLog 78 = .ok (.iload 7, 2) := by decide +kernel
theorem dX3_writeLog_80 : decode cX3_writeLog 80 = .ok (.iconst 5, 1) := by decide +kernel
theorem dX3_writeLog_81 : decode cX3_writeLog 81 = .ok (.iadd, 1) := by decide +kernel
theorem dX3_writeLog_82 : decode cX3_writeLog 82 = .ok (.iload 5, 2) := by decide +kernel
theorem dX3_writeLog_84 : decode cX3_writeLog 84 = .ok (.iastore, 1) := by decide +kernel
theorem dX3_writeLog_85 : decode cX3_writeLog 85 = .ok (.aload_n 0, 1) := by decide +kernel
theorem dX3_writeLog_86 : decode cX3_writeLog 86 = .ok (.getfield 9, 3) := by decide +kernel
theorem dX3_writeLog_89 : decode cX3_writeLog 89 = .ok (.iload 7, 2) := by decide +kernel
theorem dX3_writeLog_91 : decode cX3_writeLog 91 = .ok (.bipush 6, 2) := by decide +kernel
theorem dX3_writeLog_93 : decode cX3_writeLog 93 = .ok (.iadd, 1) := by decide +kernel
theorem dX3_writeLog_94 : decode cX3_writeLog 94 = .ok (.iload 6, 2) := by decide +kernel
theorem dX3_writeLog_96 : decode cX3_writeLog 96 = .ok (.iastore, 1) := by decide +kernel
theorem dX3_writeLog_97 : decode cX3_writeLog 97 = .ok (.aload_n 0, 1) := by decide +kernel
theorem dX3_writeLog_98 : decode cX3_writeLog 98 = .ok (.dup, 1) := by decide +kernel
theorem dX3_writeLog_99 : decode cX3_writeLog 99 = .ok (.getfield 57, 3) := by decide +kernel
theorem dX3_writeLog_102 : decode cX3_writeLog 102 = .ok (.iconst 1, 1) := by decide +kernel
theorem dX3_writeLog_103 : decode cX3_writeLog 103 = .ok (.iadd, 1) := by decide +kernel
theorem dX3_writeLog_104 : decode cX3_writeLog 104 = .ok (.putfield 57, 3) := by decide +kernel
theorem dX3_writeLog_107 : decode cX3_writeLog 107 = .ok (.return_, 1) := by decide +kernel
theorem dX3_lowestBits_0 : decode cX3_lowestBits 0 = .ok (.iload_n 0, 1) := by decide +kernel
theorem dX3_lowestBits_1 : decode cX3_lowestBits 1 = .ok (.istore_n 2, 1) := by decide +kernel
theorem dX3_lowestBits_2 : decode cX3_lowestBits 2 = .ok (.iconst 0, 1) := by decide +kernel
theorem dX3_lowestBits_3 : decode cX3_lowestBits 3 = .ok (.istore_n 3, 1) := by decide +kernel
theorem dX3_lowestBits_4 : decode cX3_lowestBits 4 = .ok (.iload_n 3, 1) := by decide +kernel
theorem dX3_lowestBits_5 : decode cX3_lowestBits 5 = .ok (.iload_n 1, 1) := by decide +kernel
theorem dX3_lowestBits_6 : decode cX3_lowestBits 6 = .ok (.if_icmp .ge 15, 3) := by decide +kernel
theorem dX3_lowestBits_9 : decode cX3_lowestBits 9 = .ok (.iload_n 2, 1) := by decide +kernel
theorem dX3_lowestBits_10 : decode cX3_lowestBits 10 = .ok (.iload_n 2, 1) := by decide +kernel
theorem dX3_lowestBits_11 : decode cX3_lowestBits 11 = .ok (.iconst 1, 1) := by decide +kernel
theorem dX3_lowestBits_12 : decode cX3_lowestBits 12 = .ok (.isub, 1) := by decide +kernel
theorem dX3_lowestBits_13 : decode cX3_lowestBits 13 = .ok (.iand, 1) := by decide +kernel
theorem dX3_lowestBits_14 : decode cX3_lowestBits 14 = .ok (.istore_n 2, 1) := by decide +kernel
theorem dX3_lowestBits_15 : decode cX3_lowestBits 15 = .ok (.iinc 3 1, 3) := by decide +kernel
theorem dX3_lowestBits_18 : decode cX3_lowestBits 18 = .ok (.goto (-14), 3) := by decide +kernel
theorem dX3_lowestBits_21 : decode cX3_lowestBits 21 = .ok (.iload_n 0, 1) := by decide +kernel
theorem dX3_lowestBits_22 : decode cX3_lowestBits 22 = .ok (.iload_n 2, 1) := by decide +kernel
theorem dX3_lowestBits_23 : decode cX3_lowestBits 23 = .ok (.iconst (-1), 1) := by decide +kernel
theorem dX3_lowestBits_24 : decode cX3_lowestBits 24 = .ok (.ixor, 1) := by decide +kernel
theorem dX3_lowestBits_25 : decode cX3_lowestBits 25 = .ok (.iand, 1) := by decide +kernel
theorem dX3_lowestBits_26 : decode cX3_lowestBits 26 = .ok (.ireturn, 1) := by decide +kernel
theorem dX3_lowestPlace_0 : decode cX3_lowestPlace 0 = .ok (.iload_n 0, 1) := by decide +kernel
theorem dX3_lowestPlace_1 : decode cX3_lowestPlace 1 = .ok (.ifCond .ne 8, 3) := by decide +kernel
theorem dX3_lowestPlace_4 : decode cX3_lowestPlace 4 = .ok (.bipush (-2), 2) := by decide +kernel
theorem dX3_lowestPlace_6 : decode cX3_lowestPlace 6 = .ok (.goto 12, 3) := by decide +kernel
theorem dX3_lowestPlace_9 : decode cX3_lowestPlace 9 = .ok (.iload_n 0, 1) := by decide +kernel
theorem dX3_lowestPlace_10 : decode cX3_lowestPlace 10 = .ok (.iload_n 0, 1) := by decide +kernel
theorem dX3_lowestPlace_11 : decode cX3_lowestPlace 11 = .ok (.ineg, 1) := by decide +kernel
theorem dX3_lowestPlace_12 : decode cX3_lowestPlace 12 = .ok (.iand, 1) := by decide +kernel
theorem dX3_lowestPlace_13 : decode cX3_lowestPlace 13 = .ok (.iconst 1, 1) := by decide +kernel
theorem dX3_lowestPlace_14 : decode cX3_lowestPlace 14 = .ok (.isub, 1) := by decide +kernel
theorem dX3_lowestPlace_15 : decode cX3_lowestPlace 15 = .ok (.invokestatic 152, 3) := by decide +kernel
theorem dX3_lowestPlace_18 : decode cX3_lowestPlace 18 = .ok (.ireturn, 1) := by decide +kernel
theorem dX3_decided_0 : decode cX3_decided 0 = .ok (.aload_n 0, 1) := by decide +kernel
theorem dX3_decided_1 : decode cX3_decided 1 = .ok (.getfield 47, 3) := by decide +kernel
theorem dX3_decided_4 : decode cX3_decided 4 = .ok (.aload_n 0, 1) := by decide +kernel
theorem dX3_decided_5 : decode cX3_decided 5 = .ok (.getfield 64, 3) := by decide +kernel
theorem dX3_decided_8 : decode cX3_decided 8 = .ok (.invokevirtual 198, 3) := by decide +kernel
theorem dX3_decided_11 : decode cX3_decided 11 = .ok (.ireturn, 1) := by decide +kernel
theorem dX3_wrong_0 : decode cX3_wrong 0 = .ok (.aload_n 0, 1) := by decide +kernel
theorem dX3_wrong_1 : decode cX3_wrong 1 = .ok (.invokevirtual 201, 3) := by decide +kernel
theorem dX3_wrong_4 : decode cX3_wrong 4 = .ok (.aload_n 0, 1) := by decide +kernel
theorem dX3_wrong_5 : decode cX3_wrong 5 = .ok (.getfield 47, 3) := by decide +kernel
theorem dX3_wrong_8 : decode cX3_wrong 8 = .ok (.aload_n 0, 1) := by decide +kernel
theorem dX3_wrong_9 : decode cX3_wrong 9 = .ok (.getfield 47, 3) := by decide +kernel
theorem dX3_wrong_12 : decode cX3_wrong 12 = .ok (.invokevirtual 203, 3) := by decide +kernel
theorem dX3_wrong_15 : decode cX3_wrong 15 = .ok (.invokevirtual 198, 3) := by decide +kernel
theorem dX3_wrong_18 : decode cX3_wrong 18 = .ok (.ixor, 1) := by decide +kernel
theorem dX3_wrong_19 : decode cX3_wrong 19 = .ok (.ireturn, 1) := by decide +kernel
theorem dX3_minutesThere_0 : decode cX3_minutesThere 0 = .ok (.iload_n 1, 1) := by decide +kernel
theorem dX3_minutesThere_1 : decode cX3_minutesThere 1 = .ok (.aload_n 0, 1) := by decide +kernel
theorem dX3_minutesThere_2 : decode cX3_minutesThere 2 = .ok (.getfield 79, 3) := by decide +kernel
theorem dX3_minutesThere_5 : decode cX3_minutesThere 5 = .ok (.if_icmp .ne 7, 3) := by decide +kernel
theorem dX3_minutesThere_8 : decode cX3_minutesThere 8 = .ok (.iconst 0, 1) := by decide +kernel
theorem dX3_minutesThere_9 : decode cX3_minutesThere 9 = .ok (.goto 21, 3) := by decide +kernel
theorem dX3_minutesThere_12 : decode cX3_minutesThere 12 = .ok (.iconst 0, 1) := by decide +kernel
theorem dX3_minutesThere_13 : decode cX3_minutesThere 13 = .ok (.aload_n 0, 1) := by decide +kernel
theorem dX3_minutesThere_14 : decode cX3_minutesThere 14 = .ok (.getfield 61, 3) := by decide +kernel
theorem dX3_minutesThere_17 : decode cX3_minutesThere 17 = .ok (.aload_n 0, 1) := by decide +kernel
theorem dX3_minutesThere_18 : decode cX3_minutesThere 18 = .ok (.getfield 47, 3) := by decide +kernel
theorem dX3_minutesThere_21 : decode cX3_minutesThere 21 = .ok (.getfield 105, 3) := by decide +kernel
theorem dX3_minutesThere_24 : decode cX3_minutesThere 24 = .ok (.iload_n 1, 1) := by decide +kernel
theorem dX3_minutesThere_25 : decode cX3_minutesThere 25 = .ok (.iaload, 1) := by decide +kernel
theorem dX3_minutesThere_26 : decode cX3_minutesThere 26 = .ok (.isub, 1) := by decide +kernel
theorem dX3_minutesThere_27 : decode cX3_minutesThere 27 = .ok (.invokestatic 170, 3) := by decide +kernel
theorem dX3_minutesThere_30 : decode cX3_minutesThere 30 = .ok (.ireturn, 1) := by decide +kernel
theorem dX3_cost_0 : decode cX3_cost 0 = .ok (.iconst 0, 1) := by decide +kernel
theorem dX3_cost_1 : decode cX3_cost 1 = .ok (.istore_n 1, 1) := by decide +kernel
theorem dX3_cost_2 : decode cX3_cost 2 = .ok (.iconst 0, 1) := by decide +kernel
theorem dX3_cost_3 : decode cX3_cost 3 = .ok (.istore_n 2, 1) := by decide +kernel
theorem dX3_cost_4 : decode cX3_cost 4 = .ok (.iload_n 2, 1) := by decide +kernel
theorem dX3_cost_5 : decode cX3_cost 5 = .ok (.aload_n 0, 1) := by decide +kernel
theorem dX3_cost_6 : decode cX3_cost 6 = .ok (.getfield 47, 3) := by decide +kernel
theorem dX3_cost_9 : decode cX3_cost 9 = .ok (.getfield 108, 3) := by decide +kernel
theorem dX3_cost_12 : decode cX3_cost 12 = .ok (.if_icmp .ge 27, 3) := by decide +kernel
theorem dX3_cost_15 : decode cX3_cost 15 = .ok (.iload_n 1, 1) := by decide +kernel
theorem dX3_cost_16 : decode cX3_cost 16 = .ok (.aload_n 0, 1) := by decide +kernel
theorem dX3_cost_17 : decode cX3_cost 17 = .ok (.getfield 47, 3) := by decide +kernel
theorem dX3_cost_20 : decode cX3_cost 20 = .ok (.getfield 206, 3) := by decide +kernel
theorem dX3_cost_23 : decode cX3_cost 23 = .ok (.iload_n 2, 1) := by decide +kernel
theorem dX3_cost_24 : decode cX3_cost 24 = .ok (.iaload, 1) := by decide +kernel
theorem dX3_cost_25 : decode cX3_cost 25 = .ok (.aload_n 0, 1) := by decide +kernel
theorem dX3_cost_26 : decode cX3_cost 26 = .ok (.iload_n 2, 1) := by decide +kernel
theorem dX3_cost_27 : decode cX3_cost 27 = .ok (.invokevirtual 209, 3) := by decide +kernel
theorem dX3_cost_30 : decode cX3_cost 30 = .ok (.imul, 1) := by decide +kernel
theorem dX3_cost_31 : decode cX3_cost 31 = .ok (.iadd, 1) := by decide +kernel
theorem dX3_cost_32 : decode cX3_cost 32 = .ok (.istore_n 1, 1) := by decide +kernel
theorem dX3_cost_33 : decode cX3_cost 33 = .ok (.iinc 2 1, 3) := by decide +kernel
theorem dX3_cost_36 : decode cX3_cost 36 = .ok (.goto (-32), 3) := by decide +kernel
theorem dX3_cost_39 : decode cX3_cost 39 = .ok (.iload_n 1, 1) := by decide +kernel
theorem dX3_cost_40 : decode cX3_cost 40 = .ok (.ireturn, 1) := by decide +kernel
theorem dX4_init_0 : decode cX4_init 0 = .ok (.aload_n 0, 1) := by decide +kernel
theorem dX4_init_1 : decode cX4_init 1 = .ok (.invokespecial 3, 3) := by decide +kernel
theorem dX4_init_4 : decode cX4_init 4 = .ok (.aload_n 0, 1) := by decide +kernel
theorem dX4_init_5 : decode cX4_init 5 = .ok (.bipush 10, 2) := by decide +kernel
theorem dX4_init_7 : decode cX4_init 7 = .ok (.newarray .int, 2) := by decide +kernel
theorem dX4_init_9 : decode cX4_init 9 = .ok (.putfield 9, 3) := by decide +kernel
theorem dX4_init_12 : decode cX4_init 12 = .ok (.aload_n 0, 1) := by decide +kernel
theorem dX4_init_13 : decode cX4_init 13 = .ok (.bipush 6, 2) := by decide +kernel
theorem dX4_init_15 : decode cX4_init 15 = .ok (.newarray .int, 2) := by decide +kernel
theorem dX4_init_17 : decode cX4_init 17 = .ok (.putfield 15, 3) := by decide +kernel
theorem dX4_init_20 : decode cX4_init 20 = .ok (.aload_n 0, 1) := by decide +kernel
theorem dX4_init_21 : decode cX4_init 21 = .ok (.bipush 6, 2) := by decide +kernel
theorem dX4_init_23 : decode cX4_init 23 = .ok (.newarray .int, 2) := by decide +kernel
theorem dX4_init_25 : decode cX4_init 25 = .ok (.putfield 18, 3) := by decide +kernel
theorem dX4_init_28 : decode cX4_init 28 = .ok (.aload_n 0, 1) := by decide +kernel
theorem dX4_init_29 : decode cX4_init 29 = .ok (.bipush 10, 2) := by decide +kernel
theorem dX4_init_31 : decode cX4_init 31 = .ok (.newarray .int, 2) := by decide +kernel
theorem dX4_init_33 : decode cX4_init 33 = .ok (.putfield 21, 3) := by decide +kernel
theorem dX4_init_36 : decode cX4_init 36 = .ok (.aload_n 0, 1) := by decide +kernel
theorem dX4_init_37 : decode cX4_init 37 = .ok (.aload_n 1, 1) := by decide +kernel
theorem dX4_init_38 : decode cX4_init 38 = .ok (.putfield 24, 3) := by decide +kernel
theorem dX4_init_41 : decode cX4_init 41 = .ok (.aload_n 0, 1) := by decide +kernel
theorem dX4_init_42 : decode cX4_init 42 = .ok (.new 28, 3) := by decide +kernel
theorem dX4_init_45 : decode cX4_init 45 = .ok (.dup, 1) := by decide +kernel
theorem dX4_init_46 : decode cX4_init 46 = .ok (.aload_n 1, 1) := by decide +kernel
theorem dX4_init_47 : decode cX4_init 47 = .ok (.invokespecial 30, 3) := by decide +kernel
theorem dX4_init_50 : decode cX4_init 50 = .ok (.putfield 33, 3) := by decide +kernel
theorem dX4_init_53 : decode cX4_init 53 = .ok (.aload_n 0, 1) := by decide +kernel
theorem dX4_init_54 : decode cX4_init 54 = .ok (.new 28, 3) := by decide +kernel
theorem dX4_init_57 : decode cX4_init 57 = .ok (.dup, 1) := by decide +kernel
theorem dX4_init_58 : decode cX4_init 58 = .ok (.aload_n 1, 1) := by decide +kernel
theorem dX4_init_59 : decode cX4_init 59 = .ok (.invokespecial 30, 3) := by decide +kernel
theorem dX4_init_62 : decode cX4_init 62 = .ok (.putfield 37, 3) := by decide +kernel
theorem dX4_init_65 : decode cX4_init 65 = .ok (.return_, 1) := by decide +kernel
theorem dX4_takesOrder_0 : decode cX4_takesOrder 0 = .ok (.iload_n 1, 1) := by decide +kernel
theorem dX4_takesOrder_1 : decode cX4_takesOrder 1 = .ok (.ifCond .ne 12, 3) := by decide +kernel
theorem dX4_takesOrder_4 : decode cX4_takesOrder 4 = .ok (.aload_n 0, 1) := by decide +kernel
theorem dX4_takesOrder_5 : decode cX4_takesOrder 5 = .ok (.getfield 18, 3) := by decide +kernel
theorem dX4_takesOrder_8 : decode cX4_takesOrder 8 = .ok (.invokestatic 40, 3) := by decide +kernel
theorem dX4_takesOrder_11 : decode cX4_takesOrder 11 = .ok (.iconst 1, 1) := by decide +kernel
theorem dX4_takesOrder_12 : decode cX4_takesOrder 12 = .ok (.ireturn, 1) := by decide +kernel
theorem dX4_takesOrder_13 : decode cX4_takesOrder 13 = .ok (.iload_n 1, 1) := by decide +kernel
theorem dX4_takesOrder_14 : decode cX4_takesOrder 14 = .ok (.istore_n 2, 1) := by decide +kernel
theorem dX4_takesOrder_15 : decode cX4_takesOrder 15 = .ok (.iconst 0, 1) := by decide +kernel
theorem dX4_takesOrder_16 : decode cX4_takesOrder 16 = .ok (.istore_n 3, 1) := by decide +kernel
theorem dX4_takesOrder_17 : decode cX4_takesOrder 17 = .ok (.aload_n 0, 1) := by decide +kernel
theorem dX4_takesOrder_18 : decode cX4_takesOrder 18 = .ok (.getfield 24, 3) := by decide +kernel
theorem dX4_takesOrder_21 : decode cX4_takesOrder 21 = .ok (.getfield 44, 3) := by decide +kernel
theorem dX4_takesOrder_24 : decode cX4_takesOrder 24 = .ok (.iconst 1, 1) := by decide +kernel
theorem dX4_takesOrder_25 : decode cX4_takesOrder 25 = .ok (.isub, 1) := by decide +kernel
theorem dX4_takesOrder_26 : decode cX4_takesOrder 26 = .ok (.istore 4, 2) := by decide +kernel
theorem dX4_takesOrder_28 : decode cX4_takesOrder 28 = .ok (.iload 4, 2) := by decide +kernel
theorem dX4_takesOrder_30 : decode cX4_takesOrder 30 = .ok (.ifCond .lt 66, 3) := by decide +kernel
theorem dX4_takesOrder_33 : decode cX4_takesOrder 33 = .ok (.iload_n 2, 1) := by decide +kernel
theorem dX4_takesOrder_34 : decode cX4_takesOrder 34 = .ok (.bipush 10, 2) := by decide +kernel
theorem dX4_takesOrder_36 : decode cX4_takesOrder 36 = .ok (.irem, 1) := by decide +kernel
theorem dX4_takesOrder_37 : decode cX4_takesOrder 37 = .ok (.iconst 1, 1) := by decide +kernel
theorem dX4_takesOrder_38 : decode cX4_takesOrder 38 = .ok (.isub, 1) := by decide +kernel
theorem dX4_takesOrder_39 : decode cX4_takesOrder 39 = .ok (.istore 5, 2) := by decide +kernel
theorem dX4_takesOrder_41 : decode cX4_takesOrder 41 = .ok (.iload 5, 2) := by decide +kernel
theorem dX4_takesOrder_43 : decode cX4_takesOrder 43 = .ok (.ifCond .lt 24, 3) := by decide +kernel
theorem dX4_takesOrder_46 : decode cX4_takesOrder 46 = .ok (.iload 5, 2) := by decide +kernel
theorem dX4_takesOrder_48 : decode cX4_takesOrder 48 = .ok (.aload_n 0, 1) := by decide +kernel
theorem dX4_takesOrder_49 : decode cX4_takesOrder 49 = .ok (.getfield 24, 3) := by decide +kernel
theorem dX4_takesOrder_52 : decode cX4_takesOrder 52 = .ok (.getfield 44, 3) := by decide +kernel
theorem dX4_takesOrder_55 : decode cX4_takesOrder 55 = .ok (.if_icmp .ge 12, 3) := by decide +kernel
theorem dX4_takesOrder_58 : decode cX4_takesOrder 58 = .ok (.iload_n 3, 1) := by decide +kernel
theorem dX4_takesOrder_59 : decode cX4_takesOrder 59 = .ok (.iconst 1, 1) := by decide +kernel
theorem dX4_takesOrder_60 : decode cX4_takesOrder 60 = .ok (.iload 5, 2) := by decide +kernel
theorem dX4_takesOrder_62 : decode cX4_takesOrder 62 = .ok (.ishl, 1) := by decide +kernel
theorem dX4_takesOrder_63 : decode cX4_takesOrder 63 = .ok (.iand, 1) := by decide +kernel
theorem dX4_takesOrder_64 : decode cX4_takesOrder 64 = .ok (.ifCond .eq 5, 3) := by decide +kernel
theorem dX4_takesOrder_67 : decode cX4_takesOrder 67 = .ok (.iconst 0, 1) := by decide +kernel
theorem dX4_takesOrder_68 : decode cX4_takesOrder 68 = .ok (.ireturn, 1) := by decide +kernel
theorem dX4_takesOrder_69 : decode cX4_takesOrder 69 = .ok (.iload_n 3, 1) := by decide +kernel
theorem dX4_takesOrder_70 : decode cX4_takesOrder 70 = .ok (.iconst 1, 1) := by decide +kernel
theorem dX4_takesOrder_71 : decode cX4_takesOrder 71 = .ok (.iload 5, 2) := by decide +kernel
theorem dX4_takesOrder_73 : decode cX4_takesOrder 73 = .ok (.ishl, 1) := by decide +kernel
theorem dX4_takesOrder_74 : decode cX4_takesOrder 74 = .ok (.ior, 1) := by decide +kernel
theorem dX4_takesOrder_75 : decode cX4_takesOrder 75 = .ok (.istore_n 3, 1) := by decide +kernel
theorem dX4_takesOrder_76 : decode cX4_takesOrder 76 = .ok (.aload_n 0, 1) := by decide +kernel
theorem dX4_takesOrder_77 : decode cX4_takesOrder 77 = .ok (.getfield 18, 3) := by decide +kernel
theorem dX4_takesOrder_80 : decode cX4_takesOrder 80 = .ok (.iload 4, 2) := by decide +kernel
theorem dX4_takesOrder_82 : decode cX4_takesOrder 82 = .ok (.iload 5, 2) := by decide +kernel
theorem dX4_takesOrder_84 : decode cX4_takesOrder 84 = .ok (.iastore, 1) := by decide +kernel
theorem dX4_takesOrder_85 : decode cX4_takesOrder 85 = .ok (.iload_n 2, 1) := by decide +kernel
theorem dX4_takesOrder_86 : decode cX4_takesOrder 86 = .ok (.bipush 10, 2) := by decide +kernel
theorem dX4_takesOrder_88 : decode cX4_takesOrder 88 = .ok (.idiv, 1) := by decide +kernel
theorem dX4_takesOrder_89 : decode cX4_takesOrder 89 = .ok (.istore_n 2, 1) := by decide +kernel
theorem dX4_takesOrder_90 : decode cX4_takesOrder 90 = .ok (.iinc 4 (-1), 3) := by decide +kernel
theorem dX4_takesOrder_93 : decode cX4_takesOrder 93 = .ok (.goto (-65), 3) := by decide +kernel
theorem dX4_takesOrder_96 : decode cX4_takesOrder 96 = .ok (.iload_n 2, 1) := by decide +kernel
theorem dX4_takesOrder_97 : decode cX4_takesOrder 97 = .ok (.ifCond .ne 7, 3) := by decide +kernel
theorem dX4_takesOrder_100 : decode cX4_takesOrder 100 = .ok (.iconst 1, 1) := by decide +kernel
theorem dX4_takesOrder_101 : decode cX4_takesOrder 101 = .ok (.goto 4, 3) := by decide +kernel
theorem dX4_takesOrder_104 : decode cX4_takesOrder 104 = .ok (.iconst 0, 1) := by decide +kernel
theorem dX4_takesOrder_105 : decode cX4_takesOrder 105 = .ok (.ireturn, 1) := by decide +kernel
theorem dX4_hold_0 : decode cX4_hold 0 = .ok (.aload_n 0, 1) := by decide +kernel
theorem dX4_hold_1 : decode cX4_hold 1 = .ok (.getfield 33, 3) := by decide +kernel
theorem dX4_hold_4 : decode cX4_hold 4 = .ok (.aload_n 0, 1) := by decide +kernel
theorem dX4_hold_5 : decode cX4_hold 5 = .ok (.getfield 18, 3) := by decide +kernel
theorem dX4_hold_8 : decode cX4_hold 8 = .ok (.aload_n 0, 1) := by decide +kernel
theorem dX4_hold_9 : decode cX4_hold 9 = .ok (.getfield 24, 3) := by decide +kernel
theorem dX4_hold_12 : decode cX4_hold 12 = .ok (.getfield 50, 3) := by decide +kernel
theorem dX4_hold_15 : decode cX4_hold 15 = .ok (.iconst 0, 1) := by decide +kernel
theorem dX4_hold_16 : decode cX4_hold 16 = .ok (.iaload, 1) := by decide +kernel
theorem dX4_hold_17 : decode cX4_hold 17 = .ok (.aload_n 0, 1) := by decide +kernel
theorem dX4_hold_18 : decode cX4_hold 18 = .ok (.getfield 24, 3) := by decide +kernel
theorem dX4_hold_21 : decode cX4_hold 21 = .ok (.getfield 50, 3) := by decide +kernel
theorem dX4_hold_24 : decode cX4_hold 24 = .ok (.iconst 2, 1) := by decide +kernel
theorem dX4_hold_25 : decode cX4_hold 25 = .ok (.iaload, 1) := by decide +kernel
theorem dX4_hold_26 : decode cX4_hold 26 = .ok (.iconst (-1), 1) := by decide +kernel
theorem dX4_hold_27 : decode cX4_hold 27 = .ok (.invokevirtual 53, 3) := by decide +kernel
theorem dX4_hold_30 : decode cX4_hold 30 = .ok (.aload_n 0, 1) := by decide +kernel
theorem dX4_hold_31 : decode cX4_hold 31 = .ok (.iconst 1, 1) := by decide +kernel
theorem dX4_hold_32 : decode cX4_hold 32 = .ok (.putfield 57, 3) := by decide +kernel
theorem dX4_hold_35 : decode cX4_hold 35 = .ok (.aload_n 0, 1) := by decide +kernel
theorem dX4_hold_36 : decode cX4_hold 36 = .ok (.aload_n 0, 1) := by decide +kernel
theorem dX4_hold_37 : decode cX4_hold 37 = .ok (.getfield 24, 3) := by decide +kernel
theorem dX4_hold_40 : decode cX4_hold 40 = .ok (.getfield 61, 3) := by decide +kernel
theorem dX4_hold_43 : decode cX4_hold 43 = .ok (.putfield 64, 3) := by decide +kernel
theorem dX4_hold_46 : decode cX4_hold 46 = .ok (.aload_n 0, 1) := by decide +kernel
theorem dX4_hold_47 : decode cX4_hold 47 = .ok (.aload_n 0, 1) := by decide +kernel
theorem dX4_hold_48 : decode cX4_hold 48 = .ok (.getfield 24, 3) := by decide +kernel
theorem dX4_hold_51 : decode cX4_hold 51 = .ok (.getfield 44, 3) := by decide +kernel
theorem dX4_hold_54 : decode cX4_hold 54 = .ok (.putfield 65, 3) := by decide +kernel
theorem dX4_hold_57 : decode cX4_hold 57 = .ok (.aload_n 0, 1) := by decide +kernel
theorem dX4_hold_58 : decode cX4_hold 58 = .ok (.aload_n 0, 1) := by decide +kernel
theorem dX4_hold_59 : decode cX4_hold 59 = .ok (.getfield 24, 3) := by decide +kernel
theorem dX4_hold_62 : decode cX4_hold 62 = .ok (.getfield 66, 3) := by decide +kernel
theorem dX4_hold_65 : decode cX4_hold 65 = .ok (.putfield 69, 3) := by decide +kernel
theorem dX4_hold_68 : decode cX4_hold 68 = .ok (.iconst 0, 1) := by decide +kernel
theorem dX4_hold_69 : decode cX4_hold 69 = .ok (.istore_n 1, 1) := by decide +kernel
theorem dX4_hold_70 : decode cX4_hold 70 = .ok (.iload_n 1, 1) := by decide +kernel
theorem dX4_hold_71 : decode cX4_hold 71 = .ok (.aload_n 0, 1) := by decide +kernel
theorem dX4_hold_72 : decode cX4_hold 72 = .ok (.getfield 65, 3) := by decide +kernel
theorem dX4_hold_75 : decode cX4_hold 75 = .ok (.if_icmp .ge 30, 3) := by decide +kernel
theorem dX4_hold_78 : decode cX4_hold 78 = .ok (.aload_n 0, 1) := by decide +kernel
theorem dX4_hold_79 : decode cX4_hold 79 = .ok (.getfield 15, 3) := by decide +kernel
theorem dX4_hold_82 : decode cX4_hold 82 = .ok (.iload_n 1, 1) := by decide +kernel
theorem dX4_hold_83 : decode cX4_hold 83 = .ok (.aload_n 0, 1) := by decide +kernel
theorem dX4_hold_84 : decode cX4_hold 84 = .ok (.getfield 24, 3) := by decide +kernel
theorem dX4_hold_87 : decode cX4_hold 87 = .ok (.iload_n 1, 1) := by decide +kernel
theorem dX4_hold_88 : decode cX4_hold 88 = .ok (.aload_n 0, 1) := by decide +kernel
theorem dX4_hold_89 : decode cX4_hold 89 = .ok (.getfield 33, 3) := by decide +kernel
theorem dX4_hold_92 : decode cX4_hold 92 = .ok (.getfield 70, 3) := by decide +kernel
theorem dX4_hold_95 : decode cX4_hold 95 = .ok (.invokevirtual 73, 3) := by decide +kernel
theorem dX4_hold_98 : decode cX4_hold 98 = .ok (.iastore, 1) := by decide +kernel
theorem dX4_hold_99 : decode cX4_hold 99 = .ok (.iinc 1 1, 3) := by decide +kernel
theorem dX4_hold_102 : decode cX4_hold 102 = .ok (.goto (-32), 3) := by decide +kernel
theorem dX4_hold_105 : decode cX4_hold 105 = .ok (.iconst 0, 1) := by decide +kernel
theorem dX4_hold_106 : decode cX4_hold 106 = .ok (.istore_n 1, 1) := by decide +kernel
theorem dX4_hold_107 : decode cX4_hold 107 = .ok (.iload_n 1, 1) := by decide +kernel
theorem dX4_hold_108 : decode cX4_hold 108 = .ok (.aload_n 0, 1) := by decide +kernel
theorem dX4_hold_109 : decode cX4_hold 109 = .ok (.getfield 64, 3) := by decide +kernel
theorem dX4_hold_112 : decode cX4_hold 112 = .ok (.if_icmp .ge 23, 3) := by decide +kernel
theorem dX4_hold_115 : decode cX4_hold 115 = .ok (.aload_n 0, 1) := by decide +kernel
theorem dX4_hold_116 : decode cX4_hold 116 = .ok (.getfield 21, 3) := by decide +kernel
theorem dX4_hold_119 : decode cX4_hold 119 = .ok (.iload_n 1, 1) := by decide +kernel
theorem dX4_hold_120 : decode cX4_hold 120 = .ok (.aload_n 0, 1) := by decide +kernel
theorem dX4_hold_121 : decode cX4_hold 121 = .ok (.getfield 33, 3) := by decide +kernel
theorem dX4_hold_124 : decode cX4_hold 124 = .ok (.iload_n 1, 1) := by decide +kernel
theorem dX4_hold_125 : decode cX4_hold 125 = .ok (.invokevirtual 77, 3) := by decide +kernel
theorem dX4_hold_128 : decode cX4_hold 128 = .ok (.iastore, 1) := by decide +kernel
theorem dX4_hold_129 : decode cX4_hold 129 = .ok (.iinc 1 1, 3) := by decide +kernel
theorem dX4_hold_132 : decode cX4_hold 132 = .ok (.goto (-25), 3) := by decide +kernel
theorem dX4_hold_135 : decode cX4_hold 135 = .ok (.aload_n 0, 1) := by decide +kernel
theorem dX4_hold_136 : decode cX4_hold 136 = .ok (.invokevirtual 81, 3) := by decide +kernel
theorem dX4_hold_139 : decode cX4_hold 139 = .ok (.aload_n 0, 1) := by decide +kernel
theorem dX4_hold_140 : decode cX4_hold 140 = .ok (.getfield 9, 3) := by decide +kernel
theorem dX4_hold_143 : decode cX4_hold 143 = .ok (.bipush 9, 2) := by decide +kernel
theorem dX4_hold_145 : decode cX4_hold 145 = .ok (.aload_n 0, 1) := by decide +kernel
theorem dX4_hold_146 : decode cX4_hold 146 = .ok (.invokevirtual 84, 3) := by decide +kernel
theorem dX4_hold_149 : decode cX4_hold 149 = .ok (.iastore, 1) := by decide +kernel
theorem dX4_hold_150 : decode cX4_hold 150 = .ok (.aload_n 0, 1) := by decide +kernel
theorem dX4_hold_151 : decode cX4_hold 151 = .ok (.getfield 33, 3) := by decide +kernel
theorem dX4_hold_154 : decode cX4_hold 154 = .ok (.getfield 88, 3) := by decide +kernel
theorem dX4_hold_157 : decode cX4_hold 157 = .ok (.ireturn, 1) := by decide +kernel
theorem dX4_summarize_0 : decode cX4_summarize 0 = .ok (.aload_n 0, 1) := by decide +kernel
theorem dX4_summarize_1 : decode cX4_summarize 1 = .ok (.getfield 24, 3) := by decide +kernel
theorem dX4_summarize_4 : decode cX4_summarize 4 = .ok (.invokevirtual 91, 3) := by decide +kernel
theorem dX4_summarize_7 : decode cX4_summarize 7 = .ok (.istore_n 1, 1) := by decide +kernel
theorem dX4_summarize_8 : decode cX4_summarize 8 = .ok (.aload_n 0, 1) := by decide +kernel
theorem dX4_summarize_9 : decode cX4_summarize 9 = .ok (.getfield 9, 3) := by decide +kernel
theorem dX4_summarize_12 : decode cX4_summarize 12 = .ok (.iconst 0, 1) := by decide +kernel
theorem dX4_summarize_13 : decode cX4_summarize 13 = .ok (.aload_n 0, 1) := by decide +kernel
theorem dX4_summarize_14 : decode cX4_summarize 14 = .ok (.getfield 33, 3) := by decide +kernel
theorem dX4_summarize_17 : decode cX4_summarize 17 = .ok (.getfield 88, 3) := by decide +kernel
theorem dX4_summarize_20 : decode cX4_summarize 20 = .ok (.iastore, 1) := by decide +kernel
theorem dX4_summarize_21 : decode cX4_summarize 21 = .ok (.aload_n 0, 1) := by decide +kernel
theorem dX4_summarize_22 : decode cX4_summarize 22 = .ok (.getfield 9, 3) := by decide +kernel
theorem dX4_summarize_25 : decode cX4_summarize 25 = .ok (.iconst 1, 1) := by decide +kernel
theorem dX4_summarize_26 : decode cX4_summarize 26 = .ok (.aload_n 0, 1) := by decide +kernel
theorem dX4_summarize_27 : decode cX4_summarize 27 = .ok (.getfield 33, 3) := by decide +kernel
theorem dX4_summarize_30 : decode cX4_summarize 30 = .ok (.getfield 94, 3) := by decide +kernel
theorem dX4_summarize_33 : decode cX4_summarize 33 = .ok (.iastore, 1) := by decide +kernel
theorem dX4_summarize_34 : decode cX4_summarize 34 = .ok (.aload_n 0, 1) := by decide +kernel
theorem dX4_summarize_35 : decode cX4_summarize 35 = .ok (.getfield 9, 3) := by decide +kernel
theorem dX4_summarize_38 : decode cX4_summarize 38 = .ok (.iconst 2, 1) := by decide +kernel
theorem dX4_summarize_39 : decode cX4_summarize 39 = .ok (.aload_n 0, 1) := by decide +kernel
theorem dX4_summarize_40 : decode cX4_summarize 40 = .ok (.getfield 33, 3) := by decide +kernel
theorem dX4_summarize_43 : decode cX4_summarize 43 = .ok (.invokevirtual 97, 3) := by decide +kernel
theorem dX4_summarize_46 : decode cX4_summarize 46 = .ok (.iastore, 1) := by decide +kernel
theorem dX4_summarize_47 : decode cX4_summarize 47 = .ok (.aload_n 0, 1) := by decide +kernel
theorem dX4_summarize_48 : decode cX4_summarize 48 = .ok (.getfield 9, 3) := by decide +kernel
theorem dX4_summarize_51 : decode cX4_summarize 51 = .ok (.iconst 3, 1) := by decide +kernel
theorem dX4_summarize_52 : decode cX4_summarize 52 = .ok (.aload_n 0, 1) := by decide +kernel
theorem dX4_summarize_53 : decode cX4_summarize 53 = .ok (.getfield 33, 3) := by decide +kernel
theorem dX4_summarize_56 : decode cX4_summarize 56 = .ok (.invokevirtual 100, 3) := by decide +kernel
theorem dX4_summarize_59 : decode cX4_summarize 59 = .ok (.aload_n 0, 1) := by decide +kernel
theorem dX4_summarize_60 : decode cX4_summarize 60 = .ok (.getfield 33, 3) := by decide +kernel
theorem dX4_summarize_63 : decode cX4_summarize 63 = .ok (.getfield 70, 3) := by decide +kernel
theorem dX4_summarize_66 : decode cX4_summarize 66 = .ok (.iconst (-1), 1) := by decide +kernel
theorem dX4_summarize_67 : decode cX4_summarize 67 = .ok (.ixor, 1) := by decide +kernel
theorem dX4_summarize_68 : decode cX4_summarize 68 = .ok (.iand, 1) := by decide +kernel
theorem dX4_summarize_69 : decode cX4_summarize 69 = .ok (.iastore, 1) := by decide +kernel
theorem dX4_summarize_70 : decode cX4_summarize 70 = .ok (.aload_n 0, 1) := by decide +kernel
theorem dX4_summarize_71 : decode cX4_summarize 71 = .ok (.getfield 9, 3) := by decide +kernel
theorem dX4_summarize_74 : decode cX4_summarize 74 = .ok (.iconst 4, 1) := by decide +kernel
theorem dX4_summarize_75 : decode cX4_summarize 75 = .ok (.aload_n 0, 1) := by decide +kernel
theorem dX4_summarize_76 : decode cX4_summarize 76 = .ok (.getfield 33, 3) := by decide +kernel
theorem dX4_summarize_79 : decode cX4_summarize 79 = .ok (.invokevirtual 103, 3) := by decide +kernel
theorem dX4_summarize_82 : decode cX4_summarize 82 = .ok (.iastore, 1) := by decide +kernel
theorem dX4_summarize_83 : decode cX4_summarize 83 = .ok (.aload_n 0, 1) := by decide +kernel
theorem dX4_summarize_84 : decode cX4_summarize 84 = .ok (.getfield 9, 3) := by decide +kernel
theorem dX4_summarize_87 : decode cX4_summarize 87 = .ok (.iconst 5, 1) := by decide +kernel
theorem dX4_summarize_88 : decode cX4_summarize 88 = .ok (.iload_n 1, 1) := by decide +kernel
theorem dX4_summarize_89 : decode cX4_summarize 89 = .ok (.aload_n 0, 1) := by decide +kernel
theorem dX4_summarize_90 : decode cX4_summarize 90 = .ok (.getfield 33, 3) := by decide +kernel
theorem dX4_summarize_93 : decode cX4_summarize 93 = .ok (.getfield 70, 3) := by decide +kernel
theorem dX4_summarize_96 : decode cX4_summarize 96 = .ok (.iand, 1) := by decide +kernel
theorem dX4_summarize_97 : decode cX4_summarize 97 = .ok (.invokestatic 106, 3) := by decide +kernel
theorem dX4_summarize_100 : decode cX4_summarize 100 = .ok (.iastore, 1) := by decide +kernel
theorem dX4_summarize_101 : decode cX4_summarize 101 = .ok (.aload_n 0, 1) := by decide +kernel
theorem dX4_summarize_102 : decode cX4_summarize 102 = .ok (.getfield 9, 3) := by decide +kernel
theorem dX4_summarize_105 : decode cX4_summarize 105 = .ok (.bipush 6, 2) := by decide +kernel
theorem dX4_summarize_107 : decode cX4_summarize 107 = .ok (.iload_n 1, 1) := by decide +kernel
theorem dX4_summarize_108 : decode cX4_summarize 108 = .ok (.invokestatic 106, 3) := by decide +kernel
theorem dX4_summarize_111 : decode cX4_summarize 111 = .ok (.iastore, 1) := by decide +kernel
theorem dX4_summarize_112 : decode cX4_summarize 112 = .ok (.aload_n 0, 1) := by decide +kernel
theorem dX4_summarize_113 : decode cX4_summarize 113 = .ok (.getfield 9, 3) := by decide +kernel
theorem dX4_summarize_116 : decode cX4_summarize 116 = .ok (.bipush 7, 2) := by decide +kernel
theorem dX4_summarize_118 : decode cX4_summarize 118 = .ok (.aload_n 0, 1) := by decide +kernel
theorem dX4_summarize_119 : decode cX4_summarize 119 = .ok (.getfield 33, 3) := by decide +kernel
theorem dX4_summarize_122 : decode cX4_summarize 122 = .ok (.invokevirtual 111, 3) := by decide +kernel
theorem dX4_summarize_125 : decode cX4_summarize 125 = .ok (.iastore, 1) := by decide +kernel
theorem dX4_summarize_126 : decode cX4_summarize 126 = .ok (.aload_n 0, 1) := by decide +kernel
theorem dX4_summarize_127 : decode cX4_summarize 127 = .ok (.getfield 9, 3) := by decide +kernel
theorem dX4_summarize_130 : decode cX4_summarize 130 = .ok (.bipush 8, 2) := by decide +kernel
theorem dX4_summarize_132 : decode cX4_summarize 132 = .ok (.aload_n 0, 1) := by decide +kernel
theorem dX4_summarize_133 : decode cX4_summarize 133 = .ok (.invokevirtual 114, 3) := by decide +kernel
theorem dX4_summarize_136 : decode cX4_summarize 136 = .ok (.iastore, 1) := by decide +kernel
theorem dX4_summarize_137 : decode cX4_summarize 137 = .ok (.return_, 1) := by decide +kernel
theorem dX4_shed_0 : decode cX4_shed 0 = .ok (.iconst 0, 1) := by decide +kernel
theorem dX4_shed_1 : decode cX4_shed 1 = .ok (.istore_n 1, 1) := by decide +kernel
theorem dX4_shed_2 : decode cX4_shed 2 = .ok (.iconst 1, 1) := by decide +kernel
theorem dX4_shed_3 : decode cX4_shed 3 = .ok (.istore_n 2, 1) := by decide +kernel
theorem dX4_shed_4 : decode cX4_shed 4 = .ok (.iload_n 2, 1) := by decide +kernel
theorem dX4_shed_5 : decode cX4_shed 5 = .ok (.aload_n 0, 1) := by decide +kernel
theorem dX4_shed_6 : decode cX4_shed 6 = .ok (.getfield 65, 3) := by decide +kernel
theorem dX4_shed_9 : decode cX4_shed 9 = .ok (.if_icmp .ge 24, 3) := by decide +kernel
theorem dX4_shed_12 : decode cX4_shed 12 = .ok (.aload_n 0, 1) := by decide +kernel
theorem dX4_shed_13 : decode cX4_shed 13 = .ok (.iload_n 2, 1) := by decide +kernel
theorem dX4_shed_14 : decode cX4_shed 14 = .ok (.invokevirtual 117, 3) := by decide +kernel
theorem dX4_shed_17 : decode cX4_shed 17 = .ok (.aload_n 0, 1) := by decide +kernel
theorem dX4_shed_18 : decode cX4_shed 18 = .ok (.iload_n 1, 1) := by decide +kernel
theorem dX4_shed_19 : decode cX4_shed 19 = .ok (.invokevirtual 117, 3) := by decide +kernel
theorem dX4_shed_22 : decode cX4_shed 22 = .ok (.if_icmp .le 5, 3) := by decide +kernel
theorem dX4_shed_25 : decode cX4_shed 25 = .ok (.iload_n 2, 1) := by decide +kernel
theorem dX4_shed_26 : decode cX4_shed 26 = .ok (.istore_n 1, 1) := by decide +kernel
theorem dX4_shed_27 : decode cX4_shed 27 = .ok (.iinc 2 1, 3) := by decide +kernel
theorem dX4_shed_30 : decode cX4_shed 30 = .ok (.goto (-26), 3) := by decide +kernel
theorem dX4_shed_33 : decode cX4_shed 33 = .ok (.iload_n 1, 1) := by decide +kernel
theorem dX4_shed_34 : decode cX4_shed 34 = .ok (.ireturn, 1) := by decide +kernel
theorem dX4_minutesByWorth_0 : decode cX4_minutesByWorth 0 = .ok (.sipush 1000, 3) := by decide +kernel
theorem dX4_minutesByWorth_3 : decode cX4_minutesByWorth 3 = .ok (.aload_n 0, 1) := by decide +kernel
theorem dX4_minutesByWorth_4 : decode cX4_minutesByWorth 4 = .ok (.getfield 33, 3) := by decide +kernel
theorem dX4_minutesByWorth_7 : decode cX4_minutesByWorth 7 = .ok (.getfield 120, 3) := by decide +kernel
theorem dX4_minutesByWorth_10 : decode cX4_minutesByWorth 10 = .ok (.iload_n 1, 1) := by decide +kernel
theorem dX4_minutesByWorth_11 : decode cX4_minutesByWorth 11 = .ok (.iaload, 1) := by decide +kernel
theorem dX4_minutesByWorth_12 : decode cX4_minutesByWorth 12 = .ok (.imul, 1) := by decide +kernel
theorem dX4_minutesByWorth_13 : decode cX4_minutesByWorth 13 = .ok (.aload_n 0, 1) := by decide +kernel
theorem dX4_minutesByWorth_14 : decode cX4_minutesByWorth 14 = .ok (.getfield 24, 3) := by decide +kernel
theorem dX4_minutesByWorth_17 : decode cX4_minutesByWorth 17 = .ok (.getfield 123, 3) := by decide +kernel
theorem dX4_minutesByWorth_20 : decode cX4_minutesByWorth 20 = .ok (.iload_n 1, 1) := by decide +kernel
theorem dX4_minutesByWorth_21 : decode cX4_minutesByWorth 21 = .ok (.iaload, 1) := by decide +kernel
theorem dX4_minutesByWorth_22 : decode cX4_minutesByWorth 22 = .ok (.invokestatic 126, 3) := by decide +kernel
theorem dX4_minutesByWorth_25 : decode cX4_minutesByWorth 25 = .ok (.iconst 1, 1) := by decide +kernel
theorem dX4_minutesByWorth_26 : decode cX4_minutesByWorth 26 = .ok (.iadd, 1) := by decide +kernel
theorem dX4_minutesByWorth_27 : decode cX4_minutesByWorth 27 = .ok (.idiv, 1) := by decide +kernel
theorem dX4_minutesByWorth_28 : decode cX4_minutesByWorth 28 = .ok (.ireturn, 1) := by decide +kernel
theorem dX4_needed_0 : decode cX4_needed 0 = .ok (.iconst 0, 1) := by decide +kernel
theorem dX4_needed_1 : decode cX4_needed 1 = .ok (.istore_n 1, 1) := by decide +kernel
theorem dX4_needed_2 : decode cX4_needed 2 = .ok (.iconst 0, 1) := by decide +kernel
theorem dX4_needed_3 : decode cX4_needed 3 = .ok (.istore_n 2, 1) := by decide +kernel
theorem dX4_needed_4 : decode cX4_needed 4 = .ok (.iload_n 2, 1) := by decide +kernel
theorem dX4_needed_5 : decode cX4_needed 5 = .ok (.aload_n 0, 1) := by decide +kernel
theorem dX4_needed_6 : decode cX4_needed 6 = .ok (.getfield 64, 3) := by decide +kernel
theorem dX4_needed_9 : decode cX4_needed 9 = .ok (.if_icmp .ge 66, 3) := by decide +kernel
theorem dX4_needed_12 : decode cX4_needed 12 = .ok (.aload_n 0, 1) := by decide +kernel
theorem dX4_needed_13 : decode cX4_needed 13 = .ok (.getfield 37, 3) := by decide +kernel
theorem dX4_needed_16 : decode cX4_needed 16 = .ok (.aload_n 0, 1) := by decide +kernel
theorem dX4_needed_17 : decode cX4_needed 17 = .ok (.getfield 18, 3) := by decide +kernel
theorem dX4_needed_20 : decode cX4_needed 20 = .ok (.aload_n 0, 1) := by decide +kernel
theorem dX4_needed_21 : decode cX4_needed 21 = .ok (.getfield 24, 3) := by decide +kernel
theorem dX4_needed_24 : decode cX4_needed 24 = .ok (.getfield 50, 3) := by decide +kernel
theorem dX4_needed_27 : decode cX4_needed 27 = .ok (.iconst 0, 1) := by decide +kernel
theorem dX4_needed_28 : decode cX4_needed 28 = .ok (.iaload, 1) := by decide +kernel
theorem dX4_needed_29 : decode cX4_needed 29 = .ok (.aload_n 0, 1) := by decide +kernel
theorem dX4_needed_30 : decode cX4_needed 30 = .ok (.getfield 24, 3) := by decide +kernel
theorem dX4_needed_33 : decode cX4_needed 33 = .ok (.getfield 50, 3) := by decide +kernel
theorem dX4_needed_36 : decode cX4_needed 36 = .ok (.iconst 2, 1) := by decide +kernel
theorem dX4_needed_37 : decode cX4_needed 37 = .ok (.iaload, 1) := by decide +kernel
theorem dX4_needed_38 : decode cX4_needed 38 = .ok (.iload_n 2, 1) := by decide +kernel
theorem dX4_needed_39 : decode cX4_needed 39 = .ok (.invokevirtual 53, 3) := by decide +kernel
theorem dX4_needed_42 : decode cX4_needed 42 = .ok (.iload_n 1, 1) := by decide +kernel
theorem dX4_needed_43 : decode cX4_needed 43 = .ok (.aload_n 0, 1) := by decide +kernel
theorem dX4_needed_44 : decode cX4_needed 44 = .ok (.getfield 37, 3) := by decide +kernel
theorem dX4_needed_47 : decode cX4_needed 47 = .ok (.invokevirtual 97, 3) := by decide +kernel
theorem dX4_needed_50 : decode cX4_needed 50 = .ok (.aload_n 0, 1) := by decide +kernel
theorem dX4_needed_51 : decode cX4_needed 51 = .ok (.getfield 33, 3) := by decide +kernel
theorem dX4_needed_54 : decode cX4_needed 54 = .ok (.invokevirtual 97, 3) := by decide +kernel
theorem dX4_needed_57 : decode cX4_needed 57 = .ok (.if_icmp .eq 9, 3) := by decide +kernel
theorem dX4_needed_60 : decode cX4_needed 60 = .ok (.iconst 1, 1) := by decide +kernel
theorem dX4_needed_61 : decode cX4_needed 61 = .ok (.iload_n 2, 1) := by decide +kernel
theorem dX4_needed_62 : decode cX4_needed 62 = .ok (.ishl, 1) := by decide +kernel
theorem dX4_needed_63 : decode cX4_needed 63 = .ok (.goto 4, 3) := by decide +kernel
theorem dX4_needed_66 : decode cX4_needed 66 = .ok (.iconst 0, 1) := by decide +kernel
theorem dX4_needed_67 : decode cX4_needed 67 = .ok (.ior, 1) := by decide +kernel
theorem dX4_needed_68 : decode cX4_needed 68 = .ok (.istore_n 1, 1) := by decide +kernel
theorem dX4_needed_69 : decode cX4_needed 69 = .ok (.iinc 2 1, 3) := by decide +kernel
theorem dX4_needed_72 : decode cX4_needed 72 = .ok (.goto (-68), 3) := by decide +kernel
theorem dX4_needed_75 : decode cX4_needed 75 = .ok (.iload_n 1, 1) := by decide +kernel
theorem dX4_needed_76 : decode cX4_needed 76 = .ok (.ireturn, 1) := by decide +kernel
theorem dX4_hadPerson_0 : decode cX4_hadPerson 0 = .ok (.aload_n 0, 1) := by decide +kernel
theorem dX4_hadPerson_1 : decode cX4_hadPerson 1 = .ok (.getfield 57, 3) := by decide +kernel
theorem dX4_hadPerson_4 : decode cX4_hadPerson 4 = .ok (.ifCond .eq 19, 3) := by decide +kernel
theorem dX4_hadPerson_7 : decode cX4_hadPerson 7 = .ok (.iload_n 1, 1) := by decide +kernel
theorem dX4_hadPerson_8 : decode cX4_hadPerson 8 = .ok (.ifCond .lt 15, 3) := by decide +kernel
theorem dX4_hadPerson_11 : decode cX4_hadPerson 11 = .ok (.iload_n 1, 1) := by decide +kernel
theorem dX4_hadPerson_12 : decode cX4_hadPerson 12 = .ok (.aload_n 0, 1) := by decide +kernel
theorem dX4_hadPerson_13 : decode cX4_hadPerson 13 = .ok (.getfield 64, 3) := by decide +kernel
theorem dX4_hadPerson_16 : decode cX4_hadPerson 16 = .ok (.if_icmp .ge 7, 3) := by decide +kernel
theorem dX4_hadPerson_19 : decode cX4_hadPerson 19 = .ok (.iconst 1, 1) := by decide +kernel
theorem dX4_hadPerson_20 : decode cX4_hadPerson 20 = .ok (.goto 4, 3) := by decide +kernel
theorem dX4_hadPerson_23 : decode cX4_hadPerson 23 = .ok (.iconst 0, 1) := by decide +kernel
theorem dX4_hadPerson_24 : decode cX4_hadPerson 24 = .ok (.ireturn, 1) := by decide +kernel
theorem dX4_hadThing_0 : decode cX4_hadThing 0 = .ok (.aload_n 0, 1) := by decide +kernel
theorem dX4_hadThing_1 : decode cX4_hadThing 1 = .ok (.getfield 57, 3) := by decide +kernel
theorem dX4_hadThing_4 : decode cX4_hadThing 4 = .ok (.ifCond .eq 19, 3) := by decide +kernel
theorem dX4_hadThing_7 : decode cX4_hadThing 7 = .ok (.iload_n 1, 1) := by decide +kernel
theorem dX4_hadThing_8 : decode cX4_hadThing 8 = .ok (.ifCond .lt 15, 3) := by decide +kernel
theorem dX4_hadThing_11 : decode cX4_hadThing 11 = .ok (.iload_n 1, 1) := by decide +kernel
theorem dX4_hadThing_12 : decode cX4_hadThing 12 = .ok (.aload_n 0, 1) := by decide +kernel
theorem dX4_hadThing_13 : decode cX4_hadThing 13 = .ok (.getfield 65, 3) := by decide +kernel
theorem dX4_hadThing_16 : decode cX4_hadThing 16 = .ok (.if_icmp .ge 7, 3) := by decide +kernel
theorem dX4_hadThing_19 : decode cX4_hadThing 19 = .ok (.iconst 1, 1) := by decide +kernel
theorem dX4_hadThing_20 : decode cX4_hadThing 20 = .ok (.goto 4, 3) := by decide +kernel
theorem dX4_hadThing_23 : decode cX4_hadThing 23 = .ok (.iconst 0, 1) := by decide +kernel
theorem dX4_hadThing_24 : decode cX4_hadThing 24 = .ok (.ireturn, 1) := by decide +kernel
theorem dX4_hadCard_0 : decode cX4_hadCard 0 = .ok (.aload_n 0, 1) := by decide +kernel
theorem dX4_hadCard_1 : decode cX4_hadCard 1 = .ok (.getfield 57, 3) := by decide +kernel
theorem dX4_hadCard_4 : decode cX4_hadCard 4 = .ok (.ifCond .eq 19, 3) := by decide +kernel
theorem dX4_hadCard_7 : decode cX4_hadCard 7 = .ok (.iload_n 1, 1) := by decide +kernel
theorem dX4_hadCard_8 : decode cX4_hadCard 8 = .ok (.ifCond .lt 15, 3) := by decide +kernel
theorem dX4_hadCard_11 : decode cX4_hadCard 11 = .ok (.iload_n 1, 1) := by decide +kernel
theorem dX4_hadCard_12 : decode cX4_hadCard 12 = .ok (.aload_n 0, 1) := by decide +kernel
theorem dX4_hadCard_13 : decode cX4_hadCard 13 = .ok (.getfield 69, 3) := by decide +kernel
theorem dX4_hadCard_16 : decode cX4_hadCard 16 = .ok (.if_icmp .ge 7, 3) := by decide +kernel
theorem dX4_hadCard_19 : decode cX4_hadCard 19 = .ok (.iconst 1, 1) := by decide +kernel
theorem dX4_hadCard_20 : decode cX4_hadCard 20 = .ok (.goto 4, 3) := by decide +kernel
theorem dX4_hadCard_23 : decode cX4_hadCard 23 = .ok (.iconst 0, 1) := by decide +kernel
theorem dX4_hadCard_24 : decode cX4_hadCard 24 = .ok (.ireturn, 1) := by decide +kernel
theorem dX4_ofPerson_0 : decode cX4_ofPerson 0 = .ok (.iload_n 2, 1) := by decide +kernel
theorem dX4_ofPerson_1 : decode cX4_ofPerson 1 = .ok (.tableswitch 83 0 2 #[27, 63, 73], 27) := by decide +kernel
theorem dX4_ofPerson_28 : decode cX4_ofPerson 28 = .ok (.aload_n 0, 1) := by decide +kernel
theorem dX4_ofPerson_29 : decode cX4_ofPerson 29 = .ok (.getfield 33, 3) := by decide +kernel
theorem dX4_ofPerson_32 : decode cX4_ofPerson 32 = .ok (.getfield 88, 3) := by decide +kernel
theorem dX4_ofPerson_35 : decode cX4_ofPerson 35 = .ok (.ifCond .ne 7, 3) := by decide +kernel
theorem dX4_ofPerson_38 : decode cX4_ofPerson 38 = .ok (.iconst 0, 1) := by decide +kernel
theorem dX4_ofPerson_39 : decode cX4_ofPerson 39 = .ok (.goto 24, 3) := by decide +kernel
theorem dX4_ofPerson_42 : decode cX4_ofPerson 42 = .ok (.sipush 1000, 3) := by decide +kernel
theorem dX4_ofPerson_45 : decode cX4_ofPerson 45 = .ok (.aload_n 0, 1) := by decide +kernel
theorem dX4_ofPerson_46 : decode cX4_ofPerson 46 = .ok (.getfield 33, 3) := by decide +kernel
theorem dX4_ofPerson_49 : decode cX4_ofPerson 49 = .ok (.getfield 131, 3) := by decide +kernel
theorem dX4_ofPerson_52 : decode cX4_ofPerson 52 = .ok (.iload_n 1, 1) := by decide +kernel
theorem dX4_ofPerson_53 : decode cX4_ofPerson 53 = .ok (.iaload, 1) := by decide +kernel
theorem dX4_ofPerson_54 : decode cX4_ofPerson 54 = .ok (.imul, 1) := by decide +kernel
theorem dX4_ofPerson_55 : decode cX4_ofPerson 55 = .ok (.aload_n 0, 1) := by decide +kernel
theorem dX4_ofPerson_56 : decode cX4_ofPerson 56 = .ok (.getfield 33, 3) := by decide +kernel
theorem dX4_ofPerson_59 : decode cX4_ofPerson 59 = .ok (.getfield 88, 3) := by decide +kernel
theorem dX4_ofPerson_62 : decode cX4_ofPerson 62 = .ok (.idiv, 1) := by decide +kernel
theorem dX4_ofPerson_63 : decode cX4_ofPerson 63 = .ok (.ireturn, 1) := by decide +kernel
theorem dX4_ofPerson_64 : decode cX4_ofPerson 64 = .ok (.aload_n 0, 1) := by decide +kernel
theorem dX4_ofPerson_65 : decode cX4_ofPerson 65 = .ok (.getfield 33, 3) := by decide +kernel
theorem dX4_ofPerson_68 : decode cX4_ofPerson 68 = .ok (.getfield 134, 3) := by decide +kernel
theorem dX4_ofPerson_71 : decode cX4_ofPerson 71 = .ok (.iload_n 1, 1) := by decide +kernel
theorem dX4_ofPerson_72 : decode cX4_ofPerson 72 = .ok (.iaload, 1) := by decide +kernel
theorem dX4_ofPerson_73 : decode cX4_ofPerson 73 = .ok (.ireturn, 1) := by decide +kernel
theorem dX4_ofPerson_74 : decode cX4_ofPerson 74 = .ok (.aload_n 0, 1) := by decide +kernel
theorem dX4_ofPerson_75 : decode cX4_ofPerson 75 = .ok (.getfield 33, 3) := by decide +kernel
theorem dX4_ofPerson_78 : decode cX4_ofPerson 78 = .ok (.getfield 137, 3) := by decide +kernel
theorem dX4_ofPerson_81 : decode cX4_ofPerson 81 = .ok (.iload_n 1, 1) := by decide +kernel
theorem dX4_ofPerson_82 : decode cX4_ofPerson 82 = .ok (.iaload, 1) := by decide +kernel
theorem dX4_ofPerson_83 : decode cX4_ofPerson 83 = .ok (.ireturn, 1) := by decide +kernel
theorem dX4_ofPerson_84 : decode cX4_ofPerson 84 = .ok (.aload_n 0, 1) := by decide +kernel
theorem dX4_ofPerson_85 : decode cX4_ofPerson 85 = .ok (.getfield 21, 3) := by decide +kernel
theorem dX4_ofPerson_88 : decode cX4_ofPerson 88 = .ok (.iload_n 1, 1) := by decide +kernel
theorem dX4_ofPerson_89 : decode cX4_ofPerson 89 = .ok (.iaload, 1) := by decide +kernel
theorem dX4_ofPerson_90 : decode cX4_ofPerson 90 = .ok (.ireturn, 1) := by decide +kernel
theorem dX5_init_0 : decode cX5_init 0 = .ok (.aload_n 0, 1) := by decide +kernel
theorem dX5_init_1 : decode cX5_init 1 = .ok (.invokespecial 3, 3) := by decide +kernel
theorem dX5_init_4 : decode cX5_init 4 = .ok (.aload_n 0, 1) := by decide +kernel
theorem dX5_init_5 : decode cX5_init 5 = .ok (.bipush (-2), 2) := by decide +kernel
theorem dX5_init_7 : decode cX5_init 7 = .ok (.putfield 9, 3) := by decide +kernel
theorem dX5_init_10 : decode cX5_init 10 = .ok (.aload_n 0, 1) := by decide +kernel
theorem dX5_init_11 : decode cX5_init 11 = .ok (.iconst (-1), 1) := by decide +kernel
theorem dX5_init_12 : decode cX5_init 12 = .ok (.putfield 15, 3) := by decide +kernel
theorem dX5_init_15 : decode cX5_init 15 = .ok (.aload_n 0, 1) := by decide +kernel
theorem dX5_init_16 : decode cX5_init 16 = .ok (.bipush 60, 2) := by decide +kernel
theorem dX5_init_18 : decode cX5_init 18 = .ok (.newarray .long, 2) := by decide +kernel
theorem dX5_init_20 : decode cX5_init 20 = .ok (.putfield 18, 3) := by decide +kernel
theorem dX5_init_23 : decode cX5_init 23 = .ok (.return_, 1) := by decide +kernel
theorem dX5_holdBody_0 : decode cX5_holdBody 0 = .ok (.aload_n 0, 1) := by decide +kernel
theorem dX5_holdBody_1 : decode cX5_holdBody 1 = .ok (.iload_n 1, 1) := by decide +kernel
theorem dX5_holdBody_2 : decode cX5_holdBody 2 = .ok (.ifCond .ge 8, 3) := by decide +kernel
theorem dX5_holdBody_5 : decode cX5_holdBody 5 = .ok (.bipush (-2), 2) := by decide +kernel
theorem dX5_holdBody_7 : decode cX5_holdBody 7 = .ok (.goto 4, 3) := by decide +kernel
theorem dX5_holdBody_10 : decode cX5_holdBody 10 = .ok (.iconst (-1), 1) := by decide +kernel
theorem dX5_holdBody_11 : decode cX5_holdBody 11 = .ok (.putfield 9, 3) := by decide +kernel
theorem dX5_holdBody_14 : decode cX5_holdBody 14 = .ok (.aload_n 0, 1) := by decide +kernel
theorem dX5_holdBody_15 : decode cX5_holdBody 15 = .ok (.iload_n 1, 1) := by decide +kernel
theorem dX5_holdBody_16 : decode cX5_holdBody 16 = .ok (.putfield 15, 3) := by decide +kernel
theorem dX5_holdBody_19 : decode cX5_holdBody 19 = .ok (.aload_n 0, 1) := by decide +kernel
theorem dX5_holdBody_20 : decode cX5_holdBody 20 = .ok (.iconst 0, 1) := by decide +kernel
theorem dX5_holdBody_21 : decode cX5_holdBody 21 = .ok (.putfield 22, 3) := by decide +kernel
theorem dX5_holdBody_24 : decode cX5_holdBody 24 = .ok (.return_, 1) := by decide +kernel
theorem dX5_holdRow_0 : decode cX5_holdRow 0 = .ok (.aload_n 0, 1) := by decide +kernel
theorem dX5_holdRow_1 : decode cX5_holdRow 1 = .ok (.iload_n 1, 1) := by decide +kernel
theorem dX5_holdRow_2 : decode cX5_holdRow 2 = .ok (.putfield 9, 3) := by decide +kernel
theorem dX5_holdRow_5 : decode cX5_holdRow 5 = .ok (.aload_n 0, 1) := by decide +kernel
theorem dX5_holdRow_6 : decode cX5_holdRow 6 = .ok (.iconst (-1), 1) := by decide +kernel
theorem dX5_holdRow_7 : decode cX5_holdRow 7 = .ok (.putfield 15, 3) := by decide +kernel
theorem dX5_holdRow_10 : decode cX5_holdRow 10 = .ok (.aload_n 0, 1) := by decide +kernel
theorem dX5_holdRow_11 : decode cX5_holdRow 11 = .ok (.iload_n 2, 1) := by decide +kernel
theorem dX5_holdRow_12 : decode cX5_holdRow 12 = .ok (.putfield 22, 3) := by decide +kernel
theorem dX5_holdRow_15 : decode cX5_holdRow 15 = .ok (.aload_n 0, 1) := by decide +kernel
theorem dX5_holdRow_16 : decode cX5_holdRow 16 = .ok (.getfield 18, 3) := by decide +kernel
theorem dX5_holdRow_19 : decode cX5_holdRow 19 = .ok (.lconst 0, 1) := by decide +kernel
theorem dX5_holdRow_20 : decode cX5_holdRow 20 = .ok (.invokestatic 25, 3) := by decide +kernel
theorem dX5_holdRow_23 : decode cX5_holdRow 23 = .ok (.return_, 1) := by decide +kernel
theorem dX5_refusalAt_0 : decode cX5_refusalAt 0 = .ok (.aload_n 0, 1) := by decide +kernel
theorem dX5_refusalAt_1 : decode cX5_refusalAt 1 = .ok (.getfield 9, 3) := by decide +kernel
theorem dX5_refusalAt_4 : decode cX5_refusalAt 4 = .ok (.bipush (-2), 2) := by decide +kernel
theorem dX5_refusalAt_6 : decode cX5_refusalAt 6 = .ok (.if_icmp .ne 6, 3) := by decide +kernel
theorem dX5_refusalAt_9 : decode cX5_refusalAt 9 = .ok (.bipush (-11), 2) := by decide +kernel
theorem dX5_refusalAt_11 : decode cX5_refusalAt 11 = .ok (.ireturn, 1) := by decide +kernel
theorem dX5_refusalAt_12 : decode cX5_refusalAt 12 = .ok (.aload_n 0, 1) := by decide +kernel
theorem dX5_refusalAt_13 : decode cX5_refusalAt 13 = .ok (.getfield 9, 3) := by decide +kernel
theorem dX5_refusalAt_16 : decode cX5_refusalAt 16 = .ok (.iconst (-1), 1) := by decide +kernel
theorem dX5_refusalAt_17 : decode cX5_refusalAt 17 = .ok (.if_icmp .ne 6, 3) := by decide +kernel
theorem dX5_refusalAt_20 : decode cX5_refusalAt 20 = .ok (.bipush (-12), 2) := by decide +kernel
theorem dX5_refusalAt_22 : decode cX5_refusalAt 22 = .ok (.ireturn, 1) := by decide +kernel
theorem dX5_refusalAt_23 : decode cX5_refusalAt 23 = .ok (.iload_n 1, 1) := by decide +kernel
theorem dX5_refusalAt_24 : decode cX5_refusalAt 24 = .ok (.ifCond .lt 11, 3) := by decide +kernel
