theorem dX11_init_227 : decode cX11_init 227 = .ok (.newarray .boolean, 2) := by decide +kernel
theorem dX11_init_229 : decode cX11_init 229 = .ok (.putfield 80, 3) := by decide +kernel
theorem dX11_init_232 : decode cX11_init 232 = .ok (.aload_n 0, 1) := by decide +kernel
theorem dX11_init_233 : decode cX11_init 233 = .ok (.bipush 48, 2) := by decide +kernel
theorem dX11_init_235 : decode cX11_init 235 = .ok (.newarray .int, 2) := by decide +kernel
theorem dX11_init_237 : decode cX11_init 237 = .ok (.putfield 83, 3) := by decide +kernel
theorem dX11_init_240 : decode cX11_init 240 = .ok (.aload_n 0, 1) := by decide +kernel
theorem dX11_init_241 : decode cX11_init 241 = .ok (.bipush 24, 2) := by decide +kernel
theorem dX11_init_243 : decode cX11_init 243 = .ok (.newarray .int, 2) := by decide +kernel
theorem dX11_init_245 : decode cX11_init 245 = .ok (.putfield 86, 3) := by decide +kernel
theorem dX11_init_248 : decode cX11_init 248 = .ok (.aload_n 0, 1) := by decide +kernel
theorem dX11_init_249 : decode cX11_init 249 = .ok (.sipush 288, 3) := by decide +kernel
theorem dX11_init_252 : decode cX11_init 252 = .ok (.newarray .int, 2) := by decide +kernel
theorem dX11_init_254 : decode cX11_init 254 = .ok (.putfield 89, 3) := by decide +kernel
theorem dX11_init_257 : decode cX11_init 257 = .ok (.aload_n 0, 1) := by decide +kernel
theorem dX11_init_258 : decode cX11_init 258 = .ok (.sipush 288, 3) := by decide +kernel
theorem dX11_init_261 : decode cX11_init 261 = .ok (.newarray .int, 2) := by decide +kernel
theorem dX11_init_263 : decode cX11_init 263 = .ok (.putfield 92, 3) := by decide +kernel
theorem dX11_init_266 : decode cX11_init 266 = .ok (.aload_n 0, 1) := by decide +kernel
theorem dX11_init_267 : decode cX11_init 267 = .ok (.bipush 8, 2) := by decide +kernel
theorem dX11_init_269 : decode cX11_init 269 = .ok (.newarray .int, 2) := by decide +kernel
theorem dX11_init_271 : decode cX11_init 271 = .ok (.putfield 95, 3) := by decide +kernel
theorem dX11_init_274 : decode cX11_init 274 = .ok (.aload_n 0, 1) := by decide +kernel
theorem dX11_init_275 : decode cX11_init 275 = .ok (.bipush 8, 2) := by decide +kernel
theorem dX11_init_277 : decode cX11_init 277 = .ok (.newarray .int, 2) := by decide +kernel
theorem dX11_init_279 : decode cX11_init 279 = .ok (.dup, 1) := by decide +kernel
theorem dX11_init_280 : decode cX11_init 280 = .ok (.iconst 0, 1) := by decide +kernel
theorem dX11_init_281 : decode cX11_init 281 = .ok (.bipush 50, 2) := by decide +kernel
theorem dX11_init_283 : decode cX11_init 283 = .ok (.iastore, 1) := by decide +kernel
theorem dX11_init_284 : decode cX11_init 284 = .ok (.dup, 1) := by decide +kernel
theorem dX11_init_285 : decode cX11_init 285 = .ok (.iconst 1, 1) := by decide +kernel
theorem dX11_init_286 : decode cX11_init 286 = .ok (.bipush 50, 2) := by decide +kernel
theorem dX11_init_288 : decode cX11_init 288 = .ok (.iastore, 1) := by decide +kernel
theorem dX11_init_289 : decode cX11_init 289 = .ok (.dup, 1) := by decide +kernel
theorem dX11_init_290 : decode cX11_init 290 = .ok (.iconst 2, 1) := by decide +kernel
theorem dX11_init_291 : decode cX11_init 291 = .ok (.bipush 50, 2) := by decide +kernel
theorem dX11_init_293 : decode cX11_init 293 = .ok (.iastore, 1) := by decide +kernel
theorem dX11_init_294 : decode cX11_init 294 = .ok (.dup, 1) := by decide +kernel
theorem dX11_init_295 : decode cX11_init 295 = .ok (.iconst 3, 1) := by decide +kernel
theorem dX11_init_296 : decode cX11_init 296 = .ok (.bipush 50, 2) := by decide +kernel
theorem dX11_init_298 : decode cX11_init 298 = .ok (.iastore, 1) := by decide +kernel
theorem dX11_init_299 : decode cX11_init 299 = .ok (.dup, 1) := by decide +kernel
theorem dX11_init_300 : decode cX11_init 300 = .ok (.iconst 4, 1) := by decide +kernel
theorem dX11_init_301 : decode cX11_init 301 = .ok (.bipush 50, 2) := by decide +kernel
theorem dX11_init_303 : decode cX11_init 303 = .ok (.iastore, 1) := by decide +kernel
theorem dX11_init_304 : decode cX11_init 304 = .ok (.dup, 1) := by decide +kernel
theorem dX11_init_305 : decode cX11_init 305 = .ok (.iconst 5, 1) := by decide +kernel
theorem dX11_init_306 : decode cX11_init 306 = .ok (.bipush 50, 2) := by decide +kernel
theorem dX11_init_308 : decode cX11_init 308 = .ok (.iastore, 1) := by decide +kernel
theorem dX11_init_309 : decode cX11_init 309 = .ok (.dup, 1) := by decide +kernel
theorem dX11_init_310 : decode cX11_init 310 = .ok (.bipush 6, 2) := by decide +kernel
theorem dX11_init_312 : decode cX11_init 312 = .ok (.bipush 50, 2) := by decide +kernel
theorem dX11_init_314 : decode cX11_init 314 = .ok (.iastore, 1) := by decide +kernel
theorem dX11_init_315 : decode cX11_init 315 = .ok (.dup, 1) := by decide +kernel
theorem dX11_init_316 : decode cX11_init 316 = .ok (.bipush 7, 2) := by decide +kernel
theorem dX11_init_318 : decode cX11_init 318 = .ok (.bipush 50, 2) := by decide +kernel
theorem dX11_init_320 : decode cX11_init 320 = .ok (.iastore, 1) := by decide +kernel
theorem dX11_init_321 : decode cX11_init 321 = .ok (.putfield 98, 3) := by decide +kernel
theorem dX11_init_324 : decode cX11_init 324 = .ok (.aload_n 0, 1) := by decide +kernel
theorem dX11_init_325 : decode cX11_init 325 = .ok (.bipush 48, 2) := by decide +kernel
theorem dX11_init_327 : decode cX11_init 327 = .ok (.newarray .int, 2) := by decide +kernel
theorem dX11_init_329 : decode cX11_init 329 = .ok (.putfield 101, 3) := by decide +kernel
theorem dX11_init_332 : decode cX11_init 332 = .ok (.aload_n 0, 1) := by decide +kernel
theorem dX11_init_333 : decode cX11_init 333 = .ok (.sipush 10752, 3) := by decide +kernel
theorem dX11_init_336 : decode cX11_init 336 = .ok (.newarray .int, 2) := by decide +kernel
theorem dX11_init_338 : decode cX11_init 338 = .ok (.putfield 104, 3) := by decide +kernel
theorem dX11_init_341 : decode cX11_init 341 = .ok (.aload_n 0, 1) := by decide +kernel
theorem dX11_init_342 : decode cX11_init 342 = .ok (.bipush 8, 2) := by decide +kernel
theorem dX11_init_344 : decode cX11_init 344 = .ok (.newarray .int, 2) := by decide +kernel
theorem dX11_init_346 : decode cX11_init 346 = .ok (.putfield 107, 3) := by decide +kernel
theorem dX11_init_349 : decode cX11_init 349 = .ok (.aload_n 0, 1) := by decide +kernel
theorem dX11_init_350 : decode cX11_init 350 = .ok (.bipush 16, 2) := by decide +kernel
theorem dX11_init_352 : decode cX11_init 352 = .ok (.newarray .int, 2) := by decide +kernel
theorem dX11_init_354 : decode cX11_init 354 = .ok (.putfield 110, 3) := by decide +kernel
theorem dX11_init_357 : decode cX11_init 357 = .ok (.return_, 1) := by decide +kernel
theorem dX11_in_0 : decode cX11_in 0 = .ok (.lload_n 0, 1) := by decide +kernel
theorem dX11_in_1 : decode cX11_in 1 = .ok (.lload_n 2, 1) := by decide +kernel
theorem dX11_in_2 : decode cX11_in 2 = .ok (.lcmp, 1) := by decide +kernel
theorem dX11_in_3 : decode cX11_in 3 = .ok (.ifCond .lt 14, 3) := by decide +kernel
theorem dX11_in_6 : decode cX11_in 6 = .ok (.lload_n 0, 1) := by decide +kernel
theorem dX11_in_7 : decode cX11_in 7 = .ok (.lload 4, 2) := by decide +kernel
theorem dX11_in_9 : decode cX11_in 9 = .ok (.lcmp, 1) := by decide +kernel
theorem dX11_in_10 : decode cX11_in 10 = .ok (.ifCond .gt 7, 3) := by decide +kernel
theorem dX11_in_13 : decode cX11_in 13 = .ok (.iconst 1, 1) := by decide +kernel
theorem dX11_in_14 : decode cX11_in 14 = .ok (.goto 4, 3) := by decide +kernel
theorem dX11_in_17 : decode cX11_in 17 = .ok (.iconst 0, 1) := by decide +kernel
theorem dX11_in_18 : decode cX11_in 18 = .ok (.ireturn, 1) := by decide +kernel
theorem dX11_finding_0 : decode cX11_finding 0 = .ok (.aload_n 0, 1) := by decide +kernel
theorem dX11_finding_1 : decode cX11_finding 1 = .ok (.iload_n 1, 1) := by decide +kernel
theorem dX11_finding_2 : decode cX11_finding 2 = .ok (.putfield 117, 3) := by decide +kernel
theorem dX11_finding_5 : decode cX11_finding 5 = .ok (.ldc 120, 2) := by decide +kernel
theorem dX11_finding_7 : decode cX11_finding 7 = .ok (.iload_n 1, 1) := by decide +kernel
theorem dX11_finding_8 : decode cX11_finding 8 = .ok (.isub, 1) := by decide +kernel
theorem dX11_finding_9 : decode cX11_finding 9 = .ok (.ireturn, 1) := by decide +kernel
theorem dX11_isSheet_0 : decode cX11_isSheet 0 = .ok (.iload_n 0, 1) := by decide +kernel
theorem dX11_isSheet_1 : decode cX11_isSheet 1 = .ok (.i2l, 1) := by decide +kernel
theorem dX11_isSheet_2 : decode cX11_isSheet 2 = .ok (.lconst 0, 1) := by decide +kernel
theorem dX11_isSheet_3 : decode cX11_isSheet 3 = .ok (.ldc2_w 121, 3) := by decide +kernel
theorem dX11_isSheet_6 : decode cX11_isSheet 6 = .ok (.invokestatic 123, 3) := by decide +kernel
theorem dX11_isSheet_9 : decode cX11_isSheet 9 = .ok (.ireturn, 1) := by decide +kernel
theorem dX11_sheet_0 : decode cX11_sheet 0 = .ok (.aload_n 0, 1) := by decide +kernel
theorem dX11_sheet_1 : decode cX11_sheet 1 = .ok (.iconst 0, 1) := by decide +kernel
theorem dX11_sheet_2 : decode cX11_sheet 2 = .ok (.putfield 113, 3) := by decide +kernel
theorem dX11_sheet_5 : decode cX11_sheet 5 = .ok (.iload_n 1, 1) := by decide +kernel
theorem dX11_sheet_6 : decode cX11_sheet 6 = .ok (.invokestatic 127, 3) := by decide +kernel
theorem dX11_sheet_9 : decode cX11_sheet 9 = .ok (.ifCond .eq 21, 3) := by decide +kernel
theorem dX11_sheet_12 : decode cX11_sheet 12 = .ok (.iload_n 2, 1) := by decide +kernel
theorem dX11_sheet_13 : decode cX11_sheet 13 = .ok (.i2l, 1) := by decide +kernel
theorem dX11_sheet_14 : decode cX11_sheet 14 = .ok (.lconst 0, 1) := by decide +kernel
theorem dX11_sheet_15 : decode cX11_sheet 15 = .ok (.ldc2_w 131, 3) := by decide +kernel
theorem dX11_sheet_18 : decode cX11_sheet 18 = .ok (.invokestatic 123, 3) := by decide +kernel
theorem dX11_sheet_21 : decode cX11_sheet 21 = .ok (.ifCond .eq 9, 3) := by decide +kernel
theorem dX11_sheet_24 : decode cX11_sheet 24 = .ok (.iload_n 3, 1) := by decide +kernel
theorem dX11_sheet_25 : decode cX11_sheet 25 = .ok (.bipush 60, 2) := by decide +kernel
theorem dX11_sheet_27 : decode cX11_sheet 27 = .ok (.if_icmp .le 6, 3) := by decide +kernel
theorem dX11_sheet_30 : decode cX11_sheet 30 = .ok (.ldc 133, 2) := by decide +kernel
theorem dX11_sheet_32 : decode cX11_sheet 32 = .ok (.ireturn, 1) := by decide +kernel
theorem dX11_sheet_33 : decode cX11_sheet 33 = .ok (.aload_n 0, 1) := by decide +kernel
theorem dX11_sheet_34 : decode cX11_sheet 34 = .ok (.iconst 0, 1) := by decide +kernel
theorem dX11_sheet_35 : decode cX11_sheet 35 = .ok (.putfield 117, 3) := by decide +kernel
theorem dX11_sheet_38 : decode cX11_sheet 38 = .ok (.iload_n 3, 1) := by decide +kernel
theorem dX11_sheet_39 : decode cX11_sheet 39 = .ok (.ifCond .ge 9, 3) := by decide +kernel
theorem dX11_sheet_42 : decode cX11_sheet 42 = .ok (.aload_n 0, 1) := by decide +kernel
theorem dX11_sheet_43 : decode cX11_sheet 43 = .ok (.iconst 4, 1) := by decide +kernel
theorem dX11_sheet_44 : decode cX11_sheet 44 = .ok (.invokevirtual 134, 3) := by decide +kernel
theorem dX11_sheet_47 : decode cX11_sheet 47 = .ok (.ireturn, 1) := by decide +kernel
theorem dX11_sheet_48 : decode cX11_sheet 48 = .ok (.aload_n 0, 1) := by decide +kernel
theorem dX11_sheet_49 : decode cX11_sheet 49 = .ok (.getfield 7, 3) := by decide +kernel
theorem dX11_sheet_52 : decode cX11_sheet 52 = .ok (.iload_n 1, 1) := by decide +kernel
theorem dX11_sheet_53 : decode cX11_sheet 53 = .ok (.iload_n 2, 1) := by decide +kernel
theorem dX11_sheet_54 : decode cX11_sheet 54 = .ok (.iastore, 1) := by decide +kernel
theorem dX11_sheet_55 : decode cX11_sheet 55 = .ok (.aload_n 0, 1) := by decide +kernel
theorem dX11_sheet_56 : decode cX11_sheet 56 = .ok (.getfield 13, 3) := by decide +kernel
theorem dX11_sheet_59 : decode cX11_sheet 59 = .ok (.iload_n 1, 1) := by decide +kernel
theorem dX11_sheet_60 : decode cX11_sheet 60 = .ok (.iload_n 3, 1) := by decide +kernel
theorem dX11_sheet_61 : decode cX11_sheet 61 = .ok (.iastore, 1) := by decide +kernel
theorem dX11_sheet_62 : decode cX11_sheet 62 = .ok (.iconst 0, 1) := by decide +kernel
theorem dX11_sheet_63 : decode cX11_sheet 63 = .ok (.istore 4, 2) := by decide +kernel
theorem dX11_sheet_65 : decode cX11_sheet 65 = .ok (.iload 4, 2) := by decide +kernel
theorem dX11_sheet_67 : decode cX11_sheet 67 = .ok (.bipush 60, 2) := by decide +kernel
theorem dX11_sheet_69 : decode cX11_sheet 69 = .ok (.if_icmp .ge 22, 3) := by decide +kernel
theorem dX11_sheet_72 : decode cX11_sheet 72 = .ok (.aload_n 0, 1) := by decide +kernel
theorem dX11_sheet_73 : decode cX11_sheet 73 = .ok (.getfield 16, 3) := by decide +kernel
theorem dX11_sheet_76 : decode cX11_sheet 76 = .ok (.bipush 60, 2) := by decide +kernel
theorem dX11_sheet_78 : decode cX11_sheet 78 = .ok (.iload_n 1, 1) := by decide +kernel
theorem dX11_sheet_79 : decode cX11_sheet 79 = .ok (.imul, 1) := by decide +kernel
theorem dX11_sheet_80 : decode cX11_sheet 80 = .ok (.iload 4, 2) := by decide +kernel
theorem dX11_sheet_82 : decode cX11_sheet 82 = .ok (.iadd, 1) := by decide +kernel
theorem dX11_sheet_83 : decode cX11_sheet 83 = .ok (.iconst 0, 1) := by decide +kernel
theorem dX11_sheet_84 : decode cX11_sheet 84 = .ok (.iastore, 1) := by decide +kernel
theorem dX11_sheet_85 : decode cX11_sheet 85 = .ok (.iinc 4 1, 3) := by decide +kernel
theorem dX11_sheet_88 : decode cX11_sheet 88 = .ok (.goto (-23), 3) := by decide +kernel
theorem dX11_sheet_91 : decode cX11_sheet 91 = .ok (.iload_n 3, 1) := by decide +kernel
theorem dX11_sheet_92 : decode cX11_sheet 92 = .ok (.ireturn, 1) := by decide +kernel
theorem dX11_set_0 : decode cX11_set 0 = .ok (.aload_n 0, 1) := by decide +kernel
theorem dX11_set_1 : decode cX11_set 1 = .ok (.iconst 0, 1) := by decide +kernel
theorem dX11_set_2 : decode cX11_set 2 = .ok (.putfield 113, 3) := by decide +kernel
theorem dX11_set_5 : decode cX11_set 5 = .ok (.iload_n 1, 1) := by decide +kernel
theorem dX11_set_6 : decode cX11_set 6 = .ok (.invokestatic 127, 3) := by decide +kernel
theorem dX11_set_9 : decode cX11_set 9 = .ok (.ifCond .ne 6, 3) := by decide +kernel
theorem dX11_set_12 : decode cX11_set 12 = .ok (.ldc 133, 2) := by decide +kernel
theorem dX11_set_14 : decode cX11_set 14 = .ok (.ireturn, 1) := by decide +kernel
theorem dX11_set_15 : decode cX11_set 15 = .ok (.aload_n 0, 1) := by decide +kernel
theorem dX11_set_16 : decode cX11_set 16 = .ok (.iconst 0, 1) := by decide +kernel
theorem dX11_set_17 : decode cX11_set 17 = .ok (.putfield 117, 3) := by decide +kernel
theorem dX11_set_20 : decode cX11_set 20 = .ok (.aload_n 0, 1) := by decide +kernel
theorem dX11_set_21 : decode cX11_set 21 = .ok (.getfield 7, 3) := by decide +kernel
theorem dX11_set_24 : decode cX11_set 24 = .ok (.iload_n 1, 1) := by decide +kernel
theorem dX11_set_25 : decode cX11_set 25 = .ok (.iaload, 1) := by decide +kernel
theorem dX11_set_26 : decode cX11_set 26 = .ok (.ifCond .ge 9, 3) := by decide +kernel
theorem dX11_set_29 : decode cX11_set 29 = .ok (.aload_n 0, 1) := by decide +kernel
theorem dX11_set_30 : decode cX11_set 30 = .ok (.iconst 1, 1) := by decide +kernel
theorem dX11_set_31 : decode cX11_set 31 = .ok (.invokevirtual 134, 3) := by decide +kernel
theorem dX11_set_34 : decode cX11_set 34 = .ok (.ireturn, 1) := by decide +kernel
theorem dX11_set_35 : decode cX11_set 35 = .ok (.iload_n 2, 1) := by decide +kernel
theorem dX11_set_36 : decode cX11_set 36 = .ok (.i2l, 1) := by decide +kernel
theorem dX11_set_37 : decode cX11_set 37 = .ok (.lconst 0, 1) := by decide +kernel
theorem dX11_set_38 : decode cX11_set 38 = .ok (.aload_n 0, 1) := by decide +kernel
theorem dX11_set_39 : decode cX11_set 39 = .ok (.getfield 13, 3) := by decide +kernel
theorem dX11_set_42 : decode cX11_set 42 = .ok (.iload_n 1, 1) := by decide +kernel
theorem dX11_set_43 : decode cX11_set 43 = .ok (.iaload, 1) := by decide +kernel
theorem dX11_set_44 : decode cX11_set 44 = .ok (.iconst 1, 1) := by decide +kernel
theorem dX11_set_45 : decode cX11_set 45 = .ok (.isub, 1) := by decide +kernel
theorem dX11_set_46 : decode cX11_set 46 = .ok (.i2l, 1) := by decide +kernel
theorem dX11_set_47 : decode cX11_set 47 = .ok (.invokestatic 123, 3) := by decide +kernel
theorem dX11_set_50 : decode cX11_set 50 = .ok (.ifCond .ne 9, 3) := by decide +kernel
theorem dX11_set_53 : decode cX11_set 53 = .ok (.aload_n 0, 1) := by decide +kernel
theorem dX11_set_54 : decode cX11_set 54 = .ok (.iconst 2, 1) := by decide +kernel
theorem dX11_set_55 : decode cX11_set 55 = .ok (.invokevirtual 134, 3) := by decide +kernel
theorem dX11_set_58 : decode cX11_set 58 = .ok (.ireturn, 1) := by decide +kernel
theorem dX11_set_59 : decode cX11_set 59 = .ok (.aload_n 0, 1) := by decide +kernel
theorem dX11_set_60 : decode cX11_set 60 = .ok (.getfield 16, 3) := by decide +kernel
theorem dX11_set_63 : decode cX11_set 63 = .ok (.bipush 60, 2) := by decide +kernel
theorem dX11_set_65 : decode cX11_set 65 = .ok (.iload_n 1, 1) := by decide +kernel
theorem dX11_set_66 : decode cX11_set 66 = .ok (.imul, 1) := by decide +kernel
theorem dX11_set_67 : decode cX11_set 67 = .ok (.iload_n 2, 1) := by decide +kernel
theorem dX11_set_68 : decode cX11_set 68 = .ok (.iadd, 1) := by decide +kernel
theorem dX11_set_69 : decode cX11_set 69 = .ok (.aload_n 0, 1) := by decide +kernel
theorem dX11_set_70 : decode cX11_set 70 = .ok (.getfield 7, 3) := by decide +kernel
theorem dX11_set_73 : decode cX11_set 73 = .ok (.iload_n 1, 1) := by decide +kernel
theorem dX11_set_74 : decode cX11_set 74 = .ok (.iaload, 1) := by decide +kernel
theorem dX11_set_75 : decode cX11_set 75 = .ok (.ifCond .ne 8, 3) := by decide +kernel
theorem dX11_set_78 : decode cX11_set 78 = .ok (.iload_n 3, 1) := by decide +kernel
theorem dX11_set_79 : decode cX11_set 79 = .ok (.i2b, 1) := by decide +kernel
theorem dX11_set_80 : decode cX11_set 80 = .ok (.goto 19, 3) := by decide +kernel
theorem dX11_set_83 : decode cX11_set 83 = .ok (.aload_n 0, 1) := by decide +kernel
theorem dX11_set_84 : decode cX11_set 84 = .ok (.getfield 7, 3) := by decide +kernel
theorem dX11_set_87 : decode cX11_set 87 = .ok (.iload_n 1, 1) := by decide +kernel
theorem dX11_set_88 : decode cX11_set 88 = .ok (.iaload, 1) := by decide +kernel
theorem dX11_set_89 : decode cX11_set 89 = .ok (.iconst 1, 1) := by decide +kernel
theorem dX11_set_90 : decode cX11_set 90 = .ok (.if_icmp .ne 8, 3) := by decide +kernel
theorem dX11_set_93 : decode cX11_set 93 = .ok (.iload_n 3, 1) := by decide +kernel
theorem dX11_set_94 : decode cX11_set 94 = .ok (.i2s, 1) := by decide +kernel
theorem dX11_set_95 : decode cX11_set 95 = .ok (.goto 4, 3) := by decide +kernel
theorem dX11_set_98 : decode cX11_set 98 = .ok (.iload_n 3, 1) := by decide +kernel
theorem dX11_set_99 : decode cX11_set 99 = .ok (.iastore, 1) := by decide +kernel
theorem dX11_set_100 : decode cX11_set 100 = .ok (.aload_n 0, 1) := by decide +kernel
theorem dX11_set_101 : decode cX11_set 101 = .ok (.getfield 16, 3) := by decide +kernel
theorem dX11_set_104 : decode cX11_set 104 = .ok (.bipush 60, 2) := by decide +kernel
theorem dX11_set_106 : decode cX11_set 106 = .ok (.iload_n 1, 1) := by decide +kernel
theorem dX11_set_107 : decode cX11_set 107 = .ok (.imul, 1) := by decide +kernel
theorem dX11_set_108 : decode cX11_set 108 = .ok (.iload_n 2, 1) := by decide +kernel
theorem dX11_set_109 : decode cX11_set 109 = .ok (.iadd, 1) := by decide +kernel
theorem dX11_set_110 : decode cX11_set 110 = .ok (.iaload, 1) := by decide +kernel
theorem dX11_set_111 : decode cX11_set 111 = .ok (.ireturn, 1) := by decide +kernel
theorem dX11_copy_0 : decode cX11_copy 0 = .ok (.aload_n 0, 1) := by decide +kernel
theorem dX11_copy_1 : decode cX11_copy 1 = .ok (.iconst 0, 1) := by decide +kernel
theorem dX11_copy_2 : decode cX11_copy 2 = .ok (.putfield 113, 3) := by decide +kernel
theorem dX11_copy_5 : decode cX11_copy 5 = .ok (.iload_n 1, 1) := by decide +kernel
theorem dX11_copy_6 : decode cX11_copy 6 = .ok (.invokestatic 127, 3) := by decide +kernel
theorem dX11_copy_9 : decode cX11_copy 9 = .ok (.ifCond .eq 10, 3) := by decide +kernel
theorem dX11_copy_12 : decode cX11_copy 12 = .ok (.iload_n 3, 1) := by decide +kernel
theorem dX11_copy_13 : decode cX11_copy 13 = .ok (.invokestatic 127, 3) := by decide +kernel
theorem dX11_copy_16 : decode cX11_copy 16 = .ok (.ifCond .ne 6, 3) := by decide +kernel
theorem dX11_copy_19 : decode cX11_copy 19 = .ok (.ldc 133, 2) := by decide +kernel
theorem dX11_copy_21 : decode cX11_copy 21 = .ok (.ireturn, 1) := by decide +kernel
theorem dX11_copy_22 : decode cX11_copy 22 = .ok (.aload_n 0, 1) := by decide +kernel
theorem dX11_copy_23 : decode cX11_copy 23 = .ok (.iconst 0, 1) := by decide +kernel
theorem dX11_copy_24 : decode cX11_copy 24 = .ok (.putfield 117, 3) := by decide +kernel
theorem dX11_copy_27 : decode cX11_copy 27 = .ok (.aload_n 0, 1) := by decide +kernel
theorem dX11_copy_28 : decode cX11_copy 28 = .ok (.getfield 7, 3) := by decide +kernel
theorem dX11_copy_31 : decode cX11_copy 31 = .ok (.iload_n 1, 1) := by decide +kernel
theorem dX11_copy_32 : decode cX11_copy 32 = .ok (.iaload, 1) := by decide +kernel
theorem dX11_copy_33 : decode cX11_copy 33 = .ok (.ifCond .lt 12, 3) := by decide +kernel
theorem dX11_copy_36 : decode cX11_copy 36 = .ok (.aload_n 0, 1) := by decide +kernel
theorem dX11_copy_37 : decode cX11_copy 37 = .ok (.getfield 7, 3) := by decide +kernel
theorem dX11_copy_40 : decode cX11_copy 40 = .ok (.iload_n 3, 1) := by decide +kernel
theorem dX11_copy_41 : decode cX11_copy 41 = .ok (.iaload, 1) := by decide +kernel
theorem dX11_copy_42 : decode cX11_copy 42 = .ok (.ifCond .ge 9, 3) := by decide +kernel
theorem dX11_copy_45 : decode cX11_copy 45 = .ok (.aload_n 0, 1) := by decide +kernel
theorem dX11_copy_46 : decode cX11_copy 46 = .ok (.iconst 1, 1) := by decide +kernel
theorem dX11_copy_47 : decode cX11_copy 47 = .ok (.invokevirtual 134, 3) := by decide +kernel
theorem dX11_copy_50 : decode cX11_copy 50 = .ok (.ireturn, 1) := by decide +kernel
theorem dX11_copy_51 : decode cX11_copy 51 = .ok (.aload_n 0, 1) := by decide +kernel
theorem dX11_copy_52 : decode cX11_copy 52 = .ok (.getfield 7, 3) := by decide +kernel
theorem dX11_copy_55 : decode cX11_copy 55 = .ok (.iload_n 1, 1) := by decide +kernel
theorem dX11_copy_56 : decode cX11_copy 56 = .ok (.iaload, 1) := by decide +kernel
theorem dX11_copy_57 : decode cX11_copy 57 = .ok (.aload_n 0, 1) := by decide +kernel
theorem dX11_copy_58 : decode cX11_copy 58 = .ok (.getfield 7, 3) := by decide +kernel
theorem dX11_copy_61 : decode cX11_copy 61 = .ok (.iload_n 3, 1) := by decide +kernel
theorem dX11_copy_62 : decode cX11_copy 62 = .ok (.iaload, 1) := by decide +kernel
theorem dX11_copy_63 : decode cX11_copy 63 = .ok (.if_icmp .eq 9, 3) := by decide +kernel
theorem dX11_copy_66 : decode cX11_copy 66 = .ok (.aload_n 0, 1) := by decide +kernel
theorem dX11_copy_67 : decode cX11_copy 67 = .ok (.iconst 5, 1) := by decide +kernel
theorem dX11_copy_68 : decode cX11_copy 68 = .ok (.invokevirtual 134, 3) := by decide +kernel
theorem dX11_copy_71 : decode cX11_copy 71 = .ok (.ireturn, 1) := by decide +kernel
theorem dX11_copy_72 : decode cX11_copy 72 = .ok (.iload_n 2, 1) := by decide +kernel
theorem dX11_copy_73 : decode cX11_copy 73 = .ok (.ifCond .lt 48, 3) := by decide +kernel
theorem dX11_copy_76 : decode cX11_copy 76 = .ok (.iload 4, 2) := by decide +kernel
theorem dX11_copy_78 : decode cX11_copy 78 = .ok (.ifCond .lt 43, 3) := by decide +kernel
theorem dX11_copy_81 : decode cX11_copy 81 = .ok (.iload 5, 2) := by decide +kernel
theorem dX11_copy_83 : decode cX11_copy 83 = .ok (.ifCond .lt 38, 3) := by decide +kernel
theorem dX11_copy_86 : decode cX11_copy 86 = .ok (.iload_n 2, 1) := by decide +kernel
theorem dX11_copy_87 : decode cX11_copy 87 = .ok (.i2l, 1) := by decide +kernel
theorem dX11_copy_88 : decode cX11_copy 88 = .ok (.iload 5, 2) := by decide +kernel
theorem dX11_copy_90 : decode cX11_copy 90 = .ok (.i2l, 1) := by decide +kernel
theorem dX11_copy_91 : decode cX11_copy 91 = .ok (.ladd, 1) := by decide +kernel
theorem dX11_copy_92 : decode cX11_copy 92 = .ok (.aload_n 0, 1) := by decide +kernel
theorem dX11_copy_93 : decode cX11_copy 93 = .ok (.getfield 13, 3) := by decide +kernel
theorem dX11_copy_96 : decode cX11_copy 96 = .ok (.iload_n 1, 1) := by decide +kernel
theorem dX11_copy_97 : decode cX11_copy 97 = .ok (.iaload, 1) := by decide +kernel
theorem dX11_copy_98 : decode cX11_copy 98 = .ok (.i2l, 1) := by decide +kernel
theorem dX11_copy_99 : decode cX11_copy 99 = .ok (.lcmp, 1) := by decide +kernel
theorem dX11_copy_100 : decode cX11_copy 100 = .ok (.ifCond .gt 21, 3) := by decide +kernel
theorem dX11_copy_103 : decode cX11_copy 103 = .ok (.iload 4, 2) := by decide +kernel
theorem dX11_copy_105 : decode cX11_copy 105 = .ok (.i2l, 1) := by decide +kernel
theorem dX11_copy_106 : decode cX11_copy 106 = .ok (.iload 5, 2) := by decide +kernel
theorem dX11_copy_108 : decode cX11_copy 108 = .ok (.i2l, 1) := by decide +kernel
theorem dX11_copy_109 : decode cX11_copy 109 = .ok (.ladd, 1) := by decide +kernel
theorem dX11_copy_110 : decode cX11_copy 110 = .ok (.aload_n 0, 1) := by decide +kernel
theorem dX11_copy_111 : decode cX11_copy 111 = .ok (.getfield 13, 3) := by decide +kernel
theorem dX11_copy_114 : decode cX11_copy 114 = .ok (.iload_n 3, 1) := by decide +kernel
theorem dX11_copy_115 : decode cX11_copy 115 = .ok (.iaload, 1) := by decide +kernel
theorem dX11_copy_116 : decode cX11_copy 116 = .ok (.i2l, 1) := by decide +kernel
theorem dX11_copy_117 : decode cX11_copy 117 = .ok (.lcmp, 1) := by decide +kernel
theorem dX11_copy_118 : decode cX11_copy 118 = .ok (.ifCond .le 9, 3) := by decide +kernel
theorem dX11_copy_121 : decode cX11_copy 121 = .ok (.aload_n 0, 1) := by decide +kernel
theorem dX11_copy_122 : decode cX11_copy 122 = .ok (.iconst 2, 1) := by decide +kernel
theorem dX11_copy_123 : decode cX11_copy 123 = .ok (.invokevirtual 134, 3) := by decide +kernel
theorem dX11_copy_126 : decode cX11_copy 126 = .ok (.ireturn, 1) := by decide +kernel
theorem dX11_copy_127 : decode cX11_copy 127 = .ok (.iload_n 2, 1) := by decide +kernel
theorem dX11_copy_128 : decode cX11_copy 128 = .ok (.iload 4, 2) := by decide +kernel
theorem dX11_copy_130 : decode cX11_copy 130 = .ok (.if_icmp .lt 7, 3) := by decide +kernel
theorem dX11_copy_133 : decode cX11_copy 133 = .ok (.iconst 1, 1) := by decide +kernel
theorem dX11_copy_134 : decode cX11_copy 134 = .ok (.goto 4, 3) := by decide +kernel
theorem dX11_copy_137 : decode cX11_copy 137 = .ok (.iconst 0, 1) := by decide +kernel
theorem dX11_copy_138 : decode cX11_copy 138 = .ok (.istore 6, 2) := by decide +kernel
theorem dX11_copy_140 : decode cX11_copy 140 = .ok (.iconst 0, 1) := by decide +kernel
theorem dX11_copy_141 : decode cX11_copy 141 = .ok (.istore 7, 2) := by decide +kernel
theorem dX11_copy_143 : decode cX11_copy 143 = .ok (.iload 7, 2) := by decide +kernel
theorem dX11_copy_145 : decode cX11_copy 145 = .ok (.iload 5, 2) := by decide +kernel
theorem dX11_copy_147 : decode cX11_copy 147 = .ok (.if_icmp .ge 57, 3) := by decide +kernel
theorem dX11_copy_150 : decode cX11_copy 150 = .ok (.iload 6, 2) := by decide +kernel
theorem dX11_copy_152 : decode cX11_copy 152 = .ok (.ifCond .eq 8, 3) := by decide +kernel
theorem dX11_copy_155 : decode cX11_copy 155 = .ok (.iload 7, 2) := by decide +kernel
theorem dX11_copy_157 : decode cX11_copy 157 = .ok (.goto 10, 3) := by decide +kernel
theorem dX11_copy_160 : decode cX11_copy 160 = .ok (.iload 5, 2) := by decide +kernel
theorem dX11_copy_162 : decode cX11_copy 162 = .ok (.iconst 1, 1) := by decide +kernel
theorem dX11_copy_163 : decode cX11_copy 163 = .ok (.isub, 1) := by decide +kernel
theorem dX11_copy_164 : decode cX11_copy 164 = .ok (.iload 7, 2) := by decide +kernel
theorem dX11_copy_166 : decode cX11_copy 166 = .ok (.isub, 1) := by decide +kernel
theorem dX11_copy_167 : decode cX11_copy 167 = .ok (.istore 8, 2) := by decide +kernel
theorem dX11_copy_169 : decode cX11_copy 169 = .ok (.aload_n 0, 1) := by decide +kernel
theorem dX11_copy_170 : decode cX11_copy 170 = .ok (.getfield 16, 3) := by decide +kernel
theorem dX11_copy_173 : decode cX11_copy 173 = .ok (.bipush 60, 2) := by decide +kernel
theorem dX11_copy_175 : decode cX11_copy 175 = .ok (.iload_n 3, 1) := by decide +kernel
theorem dX11_copy_176 : decode cX11_copy 176 = .ok (.imul, 1) := by decide +kernel
theorem dX11_copy_177 : decode cX11_copy 177 = .ok (.iload 4, 2) := by decide +kernel
theorem dX11_copy_179 : decode cX11_copy 179 = .ok (.iadd, 1) := by decide +kernel
theorem dX11_copy_180 : decode cX11_copy 180 = .ok (.iload 8, 2) := by decide +kernel
theorem dX11_copy_182 : decode cX11_copy 182 = .ok (.iadd, 1) := by decide +kernel
theorem dX11_copy_183 : decode cX11_copy 183 = .ok (.aload_n 0, 1) := by decide +kernel
theorem dX11_copy_184 : decode cX11_copy 184 = .ok (.getfield 16, 3) := by decide +kernel
theorem dX11_copy_187 : decode cX11_copy 187 = .ok (.bipush 60, 2) := by decide +kernel
theorem dX11_copy_189 : decode cX11_copy 189 = .ok (.iload_n 1, 1) := by decide +kernel
theorem dX11_copy_190 : decode cX11_copy 190 = .ok (.imul, 1) := by decide +kernel
theorem dX11_copy_191 : decode cX11_copy 191 = .ok (.iload_n 2, 1) := by decide +kernel
theorem dX11_copy_192 : decode cX11_copy 192 = .ok (.iadd, 1) := by decide +kernel
theorem dX11_copy_193 : decode cX11_copy 193 = .ok (.iload 8, 2) := by decide +kernel
theorem dX11_copy_195 : decode cX11_copy 195 = .ok (.iadd, 1) := by decide +kernel
theorem dX11_copy_196 : decode cX11_copy 196 = .ok (.iaload, 1) := by decide +kernel
theorem dX11_copy_197 : decode cX11_copy 197 = .ok (.iastore, 1) := by decide +kernel
theorem dX11_copy_198 : decode cX11_copy 198 = .ok (.iinc 7 1, 3) := by decide +kernel
theorem dX11_copy_201 : decode cX11_copy 201 = .ok (.goto (-58), 3) := by decide +kernel
theorem dX11_copy_204 : decode cX11_copy 204 = .ok (.iload 5, 2) := by decide +kernel
theorem dX11_copy_206 : decode cX11_copy 206 = .ok (.ireturn, 1) := by decide +kernel
theorem dX11_drop_0 : decode cX11_drop 0 = .ok (.aload_n 0, 1) := by decide +kernel
theorem dX11_drop_1 : decode cX11_drop 1 = .ok (.iconst 0, 1) := by decide +kernel
theorem dX11_drop_2 : decode cX11_drop 2 = .ok (.putfield 113, 3) := by decide +kernel
theorem dX11_drop_5 : decode cX11_drop 5 = .ok (.iload_n 1, 1) := by decide +kernel
theorem dX11_drop_6 : decode cX11_drop 6 = .ok (.invokestatic 127, 3) := by decide +kernel
theorem dX11_drop_9 : decode cX11_drop 9 = .ok (.ifCond .ne 6, 3) := by decide +kernel
theorem dX11_drop_12 : decode cX11_drop 12 = .ok (.ldc 133, 2) := by decide +kernel
theorem dX11_drop_14 : decode cX11_drop 14 = .ok (.ireturn, 1) := by decide +kernel
theorem dX11_drop_15 : decode cX11_drop 15 = .ok (.aload_n 0, 1) := by decide +kernel
theorem dX11_drop_16 : decode cX11_drop 16 = .ok (.iconst 0, 1) := by decide +kernel
theorem dX11_drop_17 : decode cX11_drop 17 = .ok (.putfield 117, 3) := by decide +kernel
theorem dX11_drop_20 : decode cX11_drop 20 = .ok (.aload_n 0, 1) := by decide +kernel
theorem dX11_drop_21 : decode cX11_drop 21 = .ok (.getfield 7, 3) := by decide +kernel
theorem dX11_drop_24 : decode cX11_drop 24 = .ok (.iload_n 1, 1) := by decide +kernel
theorem dX11_drop_25 : decode cX11_drop 25 = .ok (.iaload, 1) := by decide +kernel
theorem dX11_drop_26 : decode cX11_drop 26 = .ok (.ifCond .ge 9, 3) := by decide +kernel
theorem dX11_drop_29 : decode cX11_drop 29 = .ok (.aload_n 0, 1) := by decide +kernel
theorem dX11_drop_30 : decode cX11_drop 30 = .ok (.iconst 1, 1) := by decide +kernel
theorem dX11_drop_31 : decode cX11_drop 31 = .ok (.invokevirtual 134, 3) := by decide +kernel
theorem dX11_drop_34 : decode cX11_drop 34 = .ok (.ireturn, 1) := by decide +kernel
theorem dX11_drop_35 : decode cX11_drop 35 = .ok (.aload_n 0, 1) := by decide +kernel
theorem dX11_drop_36 : decode cX11_drop 36 = .ok (.getfield 7, 3) := by decide +kernel
theorem dX11_drop_39 : decode cX11_drop 39 = .ok (.iload_n 1, 1) := by decide +kernel
theorem dX11_drop_40 : decode cX11_drop 40 = .ok (.iconst (-1), 1) := by decide +kernel
theorem dX11_drop_41 : decode cX11_drop 41 = .ok (.iastore, 1) := by decide +kernel
theorem dX11_drop_42 : decode cX11_drop 42 = .ok (.aload_n 0, 1) := by decide +kernel
theorem dX11_drop_43 : decode cX11_drop 43 = .ok (.getfield 13, 3) := by decide +kernel
theorem dX11_drop_46 : decode cX11_drop 46 = .ok (.iload_n 1, 1) := by decide +kernel
theorem dX11_drop_47 : decode cX11_drop 47 = .ok (.iaload, 1) := by decide +kernel
theorem dX11_drop_48 : decode cX11_drop 48 = .ok (.ireturn, 1) := by decide +kernel
theorem dX11_lookItems_0 : decode cX11_lookItems 0 = .ok (.aload_n 0, 1) := by decide +kernel
theorem dX11_lookItems_1 : decode cX11_lookItems 1 = .ok (.getfield 7, 3) := by decide +kernel
theorem dX11_lookItems_4 : decode cX11_lookItems 4 = .ok (.iload_n 1, 1) := by decide +kernel
theorem dX11_lookItems_5 : decode cX11_lookItems 5 = .ok (.iaload, 1) := by decide +kernel
theorem dX11_lookItems_6 : decode cX11_lookItems 6 = .ok (.ifCond .ge 9, 3) := by decide +kernel
theorem dX11_lookItems_9 : decode cX11_lookItems 9 = .ok (.aload_n 0, 1) := by decide +kernel
theorem dX11_lookItems_10 : decode cX11_lookItems 10 = .ok (.iconst 1, 1) := by decide +kernel
theorem dX11_lookItems_11 : decode cX11_lookItems 11 = .ok (.invokevirtual 134, 3) := by decide +kernel
theorem dX11_lookItems_14 : decode cX11_lookItems 14 = .ok (.ireturn, 1) := by decide +kernel
theorem dX11_lookItems_15 : decode cX11_lookItems 15 = .ok (.iload_n 2, 1) := by decide +kernel
theorem dX11_lookItems_16 : decode cX11_lookItems 16 = .ok (.ifCond .lt 19, 3) := by decide +kernel
theorem dX11_lookItems_19 : decode cX11_lookItems 19 = .ok (.iload_n 2, 1) := by decide +kernel
theorem dX11_lookItems_20 : decode cX11_lookItems 20 = .ok (.i2l, 1) := by decide +kernel
theorem dX11_lookItems_21 : decode cX11_lookItems 21 = .ok (.iload_n 3, 1) := by decide +kernel
theorem dX11_lookItems_22 : decode cX11_lookItems 22 = .ok (.i2l, 1) := by decide +kernel
theorem dX11_lookItems_23 : decode cX11_lookItems 23 = .ok (.ladd, 1) := by decide +kernel
theorem dX11_lookItems_24 : decode cX11_lookItems 24 = .ok (.aload_n 0, 1) := by decide +kernel
theorem dX11_lookItems_25 : decode cX11_lookItems 25 = .ok (.getfield 13, 3) := by decide +kernel
theorem dX11_lookItems_28 : decode cX11_lookItems 28 = .ok (.iload_n 1, 1) := by decide +kernel
theorem dX11_lookItems_29 : decode cX11_lookItems 29 = .ok (.iaload, 1) := by decide +kernel
theorem dX11_lookItems_30 : decode cX11_lookItems 30 = .ok (.i2l, 1) := by decide +kernel
theorem dX11_lookItems_31 : decode cX11_lookItems 31 = .ok (.lcmp, 1) := by decide +kernel
theorem dX11_lookItems_32 : decode cX11_lookItems 32 = .ok (.ifCond .le 11, 3) := by decide +kernel
theorem dX11_lookItems_35 : decode cX11_lookItems 35 = .ok (.aload_n 0, 1) := by decide +kernel
theorem dX11_lookItems_36 : decode cX11_lookItems 36 = .ok (.iconst 2, 1) := by decide +kernel
theorem dX11_lookItems_37 : decode cX11_lookItems 37 = .ok (.invokevirtual 134, 3) := by decide +kernel
theorem dX11_lookItems_40 : decode cX11_lookItems 40 = .ok (.goto 4, 3) := by decide +kernel
theorem dX11_lookItems_43 : decode cX11_lookItems 43 = .ok (.iconst 0, 1) := by decide +kernel
theorem dX11_lookItems_44 : decode cX11_lookItems 44 = .ok (.ireturn, 1) := by decide +kernel
theorem dX11_isTown_0 : decode cX11_isTown 0 = .ok (.iload_n 0, 1) := by decide +kernel
theorem dX11_isTown_1 : decode cX11_isTown 1 = .ok (.i2l, 1) := by decide +kernel
theorem dX11_isTown_2 : decode cX11_isTown 2 = .ok (.lconst 0, 1) := by decide +kernel
theorem dX11_isTown_3 : decode cX11_isTown 3 = .ok (.ldc2_w 138, 3) := by decide +kernel
theorem dX11_isTown_6 : decode cX11_isTown 6 = .ok (.invokestatic 123, 3) := by decide +kernel
theorem dX11_isTown_9 : decode cX11_isTown 9 = .ok (.ireturn, 1) := by decide +kernel
theorem dX11_road_0 : decode cX11_road 0 = .ok (.aload_n 0, 1) := by decide +kernel
theorem dX11_road_1 : decode cX11_road 1 = .ok (.iconst 0, 1) := by decide +kernel
theorem dX11_road_2 : decode cX11_road 2 = .ok (.putfield 113, 3) := by decide +kernel
theorem dX11_road_5 : decode cX11_road 5 = .ok (.iload_n 1, 1) := by decide +kernel
theorem dX11_road_6 : decode cX11_road 6 = .ok (.invokestatic 140, 3) := by decide +kernel
theorem dX11_road_9 : decode cX11_road 9 = .ok (.ifCond .eq 27, 3) := by decide +kernel
theorem dX11_road_12 : decode cX11_road 12 = .ok (.iload_n 2, 1) := by decide +kernel
theorem dX11_road_13 : decode cX11_road 13 = .ok (.invokestatic 140, 3) := by decide +kernel
theorem dX11_road_16 : decode cX11_road 16 = .ok (.ifCond .eq 20, 3) := by decide +kernel
theorem dX11_road_19 : decode cX11_road 19 = .ok (.iload_n 1, 1) := by decide +kernel
theorem dX11_road_20 : decode cX11_road 20 = .ok (.iload_n 2, 1) := by decide +kernel
theorem dX11_road_21 : decode cX11_road 21 = .ok (.if_icmp .eq 15, 3) := by decide +kernel
theorem dX11_road_24 : decode cX11_road 24 = .ok (.iload_n 3, 1) := by decide +kernel
theorem dX11_road_25 : decode cX11_road 25 = .ok (.i2l, 1) := by decide +kernel
theorem dX11_road_26 : decode cX11_road 26 = .ok (.lconst 0, 1) := by decide +kernel
theorem dX11_road_27 : decode cX11_road 27 = .ok (.ldc2_w 143, 3) := by decide +kernel
theorem dX11_road_30 : decode cX11_road 30 = .ok (.invokestatic 123, 3) := by decide +kernel
theorem dX11_road_33 : decode cX11_road 33 = .ok (.ifCond .ne 6, 3) := by decide +kernel
theorem dX11_road_36 : decode cX11_road 36 = .ok (.ldc 133, 2) := by decide +kernel
theorem dX11_road_38 : decode cX11_road 38 = .ok (.ireturn, 1) := by decide +kernel
theorem dX11_road_39 : decode cX11_road 39 = .ok (.aload_n 0, 1) := by decide +kernel
theorem dX11_road_40 : decode cX11_road 40 = .ok (.getfield 19, 3) := by decide +kernel
theorem dX11_road_43 : decode cX11_road 43 = .ok (.bipush 6, 2) := by decide +kernel
theorem dX11_road_45 : decode cX11_road 45 = .ok (.iload_n 1, 1) := by decide +kernel
theorem dX11_road_46 : decode cX11_road 46 = .ok (.imul, 1) := by decide +kernel
theorem dX11_road_47 : decode cX11_road 47 = .ok (.iload_n 2, 1) := by decide +kernel
theorem dX11_road_48 : decode cX11_road 48 = .ok (.iadd, 1) := by decide +kernel
theorem dX11_road_49 : decode cX11_road 49 = .ok (.iaload, 1) := by decide +kernel
theorem dX11_road_50 : decode cX11_road 50 = .ok (.istore 4, 2) := by decide +kernel
theorem dX11_road_52 : decode cX11_road 52 = .ok (.aload_n 0, 1) := by decide +kernel
theorem dX11_road_53 : decode cX11_road 53 = .ok (.getfield 19, 3) := by decide +kernel
theorem dX11_road_56 : decode cX11_road 56 = .ok (.bipush 6, 2) := by decide +kernel
theorem dX11_road_58 : decode cX11_road 58 = .ok (.iload_n 1, 1) := by decide +kernel
theorem dX11_road_59 : decode cX11_road 59 = .ok (.imul, 1) := by decide +kernel
theorem dX11_road_60 : decode cX11_road 60 = .ok (.iload_n 2, 1) := by decide +kernel
theorem dX11_road_61 : decode cX11_road 61 = .ok (.iadd, 1) := by decide +kernel
theorem dX11_road_62 : decode cX11_road 62 = .ok (.iload_n 3, 1) := by decide +kernel
theorem dX11_road_63 : decode cX11_road 63 = .ok (.iastore, 1) := by decide +kernel
theorem dX11_road_64 : decode cX11_road 64 = .ok (.aload_n 0, 1) := by decide +kernel
theorem dX11_road_65 : decode cX11_road 65 = .ok (.getfield 19, 3) := by decide +kernel
theorem dX11_road_68 : decode cX11_road 68 = .ok (.bipush 6, 2) := by decide +kernel
theorem dX11_road_70 : decode cX11_road 70 = .ok (.iload_n 2, 1) := by decide +kernel
theorem dX11_road_71 : decode cX11_road 71 = .ok (.imul, 1) := by decide +kernel
theorem dX11_road_72 : decode cX11_road 72 = .ok (.iload_n 1, 1) := by decide +kernel
theorem dX11_road_73 : decode cX11_road 73 = .ok (.iadd, 1) := by decide +kernel
theorem dX11_road_74 : decode cX11_road 74 = .ok (.iload_n 3, 1) := by decide +kernel
theorem dX11_road_75 : decode cX11_road 75 = .ok (.iastore, 1) := by decide +kernel
theorem dX11_road_76 : decode cX11_road 76 = .ok (.iload 4, 2) := by decide +kernel
theorem dX11_road_78 : decode cX11_road 78 = .ok (.ireturn, 1) := by decide +kernel
theorem dX11_farFrom_0 : decode cX11_farFrom 0 = .ok (.iconst 0, 1) := by decide +kernel
theorem dX11_farFrom_1 : decode cX11_farFrom 1 = .ok (.istore_n 3, 1) := by decide +kernel
theorem dX11_farFrom_2 : decode cX11_farFrom 2 = .ok (.iload_n 3, 1) := by decide +kernel
theorem dX11_farFrom_3 : decode cX11_farFrom 3 = .ok (.bipush 6, 2) := by decide +kernel
theorem dX11_farFrom_5 : decode cX11_farFrom 5 = .ok (.if_icmp .ge 26, 3) := by decide +kernel
theorem dX11_farFrom_8 : decode cX11_farFrom 8 = .ok (.aload_n 0, 1) := by decide +kernel
theorem dX11_farFrom_9 : decode cX11_farFrom 9 = .ok (.getfield 22, 3) := by decide +kernel
theorem dX11_farFrom_12 : decode cX11_farFrom 12 = .ok (.iload_n 3, 1) := by decide +kernel
theorem dX11_farFrom_13 : decode cX11_farFrom 13 = .ok (.iload_n 3, 1) := by decide +kernel
theorem dX11_farFrom_14 : decode cX11_farFrom 14 = .ok (.iload_n 1, 1) := by decide +kernel
theorem dX11_farFrom_15 : decode cX11_farFrom 15 = .ok (.if_icmp .ne 7, 3) := by decide +kernel
theorem dX11_farFrom_18 : decode cX11_farFrom 18 = .ok (.iconst 0, 1) := by decide +kernel
theorem dX11_farFrom_19 : decode cX11_farFrom 19 = .ok (.goto 5, 3) := by decide +kernel
theorem dX11_farFrom_22 : decode cX11_farFrom 22 = .ok (.ldc 145, 2) := by decide +kernel
theorem dX11_farFrom_24 : decode cX11_farFrom 24 = .ok (.iastore, 1) := by decide +kernel
theorem dX11_farFrom_25 : decode cX11_farFrom 25 = .ok (.iinc 3 1, 3) := by decide +kernel
theorem dX11_farFrom_28 : decode cX11_farFrom 28 = .ok (.goto (-26), 3) := by decide +kernel
theorem dX11_farFrom_31 : decode cX11_farFrom 31 = .ok (.iconst 0, 1) := by decide +kernel
theorem dX11_farFrom_32 : decode cX11_farFrom 32 = .ok (.istore_n 3, 1) := by decide +kernel
theorem dX11_farFrom_33 : decode cX11_farFrom 33 = .ok (.iload_n 3, 1) := by decide +kernel
theorem dX11_farFrom_34 : decode cX11_farFrom 34 = .ok (.bipush 6, 2) := by decide +kernel
theorem dX11_farFrom_36 : decode cX11_farFrom 36 = .ok (.if_icmp .ge 120, 3) := by decide +kernel
theorem dX11_farFrom_39 : decode cX11_farFrom 39 = .ok (.iconst 0, 1) := by decide +kernel
theorem dX11_farFrom_40 : decode cX11_farFrom 40 = .ok (.istore 4, 2) := by decide +kernel
theorem dX11_farFrom_42 : decode cX11_farFrom 42 = .ok (.iload 4, 2) := by decide +kernel
theorem dX11_farFrom_44 : decode cX11_farFrom 44 = .ok (.bipush 36, 2) := by decide +kernel
theorem dX11_farFrom_46 : decode cX11_farFrom 46 = .ok (.if_icmp .ge 104, 3) := by decide +kernel
theorem dX11_farFrom_49 : decode cX11_farFrom 49 = .ok (.iload 4, 2) := by decide +kernel
theorem dX11_farFrom_51 : decode cX11_farFrom 51 = .ok (.bipush 6, 2) := by decide +kernel
theorem dX11_farFrom_53 : decode cX11_farFrom 53 = .ok (.idiv, 1) := by decide +kernel
theorem dX11_farFrom_54 : decode cX11_farFrom 54 = .ok (.istore 5, 2) := by decide +kernel
theorem dX11_farFrom_56 : decode cX11_farFrom 56 = .ok (.iload 4, 2) := by decide +kernel
theorem dX11_farFrom_58 : decode cX11_farFrom 58 = .ok (.bipush 6, 2) := by decide +kernel
theorem dX11_farFrom_60 : decode cX11_farFrom 60 = .ok (.irem, 1) := by decide +kernel
theorem dX11_farFrom_61 : decode cX11_farFrom 61 = .ok (.istore 6, 2) := by decide +kernel
theorem dX11_farFrom_63 : decode cX11_farFrom 63 = .ok (.aload_n 0, 1) := by decide +kernel
theorem dX11_farFrom_64 : decode cX11_farFrom 64 = .ok (.getfield 19, 3) := by decide +kernel
theorem dX11_farFrom_67 : decode cX11_farFrom 67 = .ok (.iload 4, 2) := by decide +kernel
theorem dX11_farFrom_69 : decode cX11_farFrom 69 = .ok (.iaload, 1) := by decide +kernel
theorem dX11_farFrom_70 : decode cX11_farFrom 70 = .ok (.ifCond .le 74, 3) := by decide +kernel
theorem dX11_farFrom_73 : decode cX11_farFrom 73 = .ok (.aload_n 0, 1) := by decide +kernel
theorem dX11_farFrom_74 : decode cX11_farFrom 74 = .ok (.getfield 22, 3) := by decide +kernel
theorem dX11_farFrom_77 : decode cX11_farFrom 77 = .ok (.iload 5, 2) := by decide +kernel
theorem dX11_farFrom_79 : decode cX11_farFrom 79 = .ok (.iaload, 1) := by decide +kernel
theorem dX11_farFrom_80 : decode cX11_farFrom 80 = .ok (.ldc 145, 2) := by decide +kernel
theorem dX11_farFrom_82 : decode cX11_farFrom 82 = .ok (.if_icmp .eq 62, 3) := by decide +kernel
theorem dX11_farFrom_85 : decode cX11_farFrom 85 = .ok (.aload_n 0, 1) := by decide +kernel
theorem dX11_farFrom_86 : decode cX11_farFrom 86 = .ok (.getfield 22, 3) := by decide +kernel
theorem dX11_farFrom_89 : decode cX11_farFrom 89 = .ok (.iload 6, 2) := by decide +kernel
theorem dX11_farFrom_91 : decode cX11_farFrom 91 = .ok (.iaload, 1) := by decide +kernel
theorem dX11_farFrom_92 : decode cX11_farFrom 92 = .ok (.ldc 145, 2) := by decide +kernel
theorem dX11_farFrom_94 : decode cX11_farFrom 94 = .ok (.if_icmp .eq 28, 3) := by decide +kernel
theorem dX11_farFrom_97 : decode cX11_farFrom 97 = .ok (.aload_n 0, 1) := by decide +kernel
theorem dX11_farFrom_98 : decode cX11_farFrom 98 = .ok (.getfield 22, 3) := by decide +kernel
theorem dX11_farFrom_101 : decode cX11_farFrom 101 = .ok (.iload 5, 2) := by decide +kernel
theorem dX11_farFrom_103 : decode cX11_farFrom 103 = .ok (.iaload, 1) := by decide +kernel
theorem dX11_farFrom_104 : decode cX11_farFrom 104 = .ok (.aload_n 0, 1) := by decide +kernel
theorem dX11_farFrom_105 : decode cX11_farFrom 105 = .ok (.getfield 19, 3) := by decide +kernel
theorem dX11_farFrom_108 : decode cX11_farFrom 108 = .ok (.iload 4, 2) := by decide +kernel
theorem dX11_farFrom_110 : decode cX11_farFrom 110 = .ok (.iaload, 1) := by decide +kernel
theorem dX11_farFrom_111 : decode cX11_farFrom 111 = .ok (.iadd, 1) := by decide +kernel
theorem dX11_farFrom_112 : decode cX11_farFrom 112 = .ok (.aload_n 0, 1) := by decide +kernel
theorem dX11_farFrom_113 : decode cX11_farFrom 113 = .ok (.getfield 22, 3) := by decide +kernel
theorem dX11_farFrom_116 : decode cX11_farFrom 116 = .ok (.iload 6, 2) := by decide +kernel
theorem dX11_farFrom_118 : decode cX11_farFrom 118 = .ok (.iaload, 1) := by decide +kernel
theorem dX11_farFrom_119 : decode cX11_farFrom 119 = .ok (.if_icmp .ge 25, 3) := by decide +kernel
theorem dX11_farFrom_122 : decode cX11_farFrom 122 = .ok (.aload_n 0, 1) := by decide +kernel
theorem dX11_farFrom_123 : decode cX11_farFrom 123 = .ok (.getfield 22, 3) := by decide +kernel
theorem dX11_farFrom_126 : decode cX11_farFrom 126 = .ok (.iload 6, 2) := by decide +kernel
theorem dX11_farFrom_128 : decode cX11_farFrom 128 = .ok (.aload_n 0, 1) := by decide +kernel
theorem dX11_farFrom_129 : decode cX11_farFrom 129 = .ok (.getfield 22, 3) := by decide +kernel
theorem dX11_farFrom_132 : decode cX11_farFrom 132 = .ok (.iload 5, 2) := by decide +kernel
theorem dX11_farFrom_134 : decode cX11_farFrom 134 = .ok (.iaload, 1) := by decide +kernel
theorem dX11_farFrom_135 : decode cX11_farFrom 135 = .ok (.aload_n 0, 1) := by decide +kernel
theorem dX11_farFrom_136 : decode cX11_farFrom 136 = .ok (.getfield 19, 3) := by decide +kernel
theorem dX11_farFrom_139 : decode cX11_farFrom 139 = .ok (.iload 4, 2) := by decide +kernel
theorem dX11_farFrom_141 : decode cX11_farFrom 141 = .ok (.iaload, 1) := by decide +kernel
theorem dX11_farFrom_142 : decode cX11_farFrom 142 = .ok (.iadd, 1) := by decide +kernel
theorem dX11_farFrom_143 : decode cX11_farFrom 143 = .ok (.iastore, 1) := by decide +kernel
theorem dX11_farFrom_144 : decode cX11_farFrom 144 = .ok (.iinc 4 1, 3) := by decide +kernel
theorem dX11_farFrom_147 : decode cX11_farFrom 147 = .ok (.goto (-105), 3) := by decide +kernel
theorem dX11_farFrom_150 : decode cX11_farFrom 150 = .ok (.iinc 3 1, 3) := by decide +kernel
theorem dX11_farFrom_153 : decode cX11_farFrom 153 = .ok (.goto (-120), 3) := by decide +kernel
theorem dX11_farFrom_156 : decode cX11_farFrom 156 = .ok (.aload_n 0, 1) := by decide +kernel
theorem dX11_farFrom_157 : decode cX11_farFrom 157 = .ok (.getfield 22, 3) := by decide +kernel
theorem dX11_farFrom_160 : decode cX11_farFrom 160 = .ok (.iload_n 2, 1) := by decide +kernel
theorem dX11_farFrom_161 : decode cX11_farFrom 161 = .ok (.iaload, 1) := by decide +kernel
theorem dX11_farFrom_162 : decode cX11_farFrom 162 = .ok (.ireturn, 1) := by decide +kernel
theorem dX11_far_0 : decode cX11_far 0 = .ok (.aload_n 0, 1) := by decide +kernel
theorem dX11_far_1 : decode cX11_far 1 = .ok (.iconst 0, 1) := by decide +kernel
theorem dX11_far_2 : decode cX11_far 2 = .ok (.putfield 113, 3) := by decide +kernel
theorem dX11_far_5 : decode cX11_far 5 = .ok (.iload_n 1, 1) := by decide +kernel
theorem dX11_far_6 : decode cX11_far 6 = .ok (.invokestatic 140, 3) := by decide +kernel
theorem dX11_far_9 : decode cX11_far 9 = .ok (.ifCond .eq 10, 3) := by decide +kernel
theorem dX11_far_12 : decode cX11_far 12 = .ok (.iload_n 2, 1) := by decide +kernel
theorem dX11_far_13 : decode cX11_far 13 = .ok (.invokestatic 140, 3) := by decide +kernel
theorem dX11_far_16 : decode cX11_far 16 = .ok (.ifCond .ne 8, 3) := by decide +kernel
theorem dX11_far_19 : decode cX11_far 19 = .ok (.ldc 133, 2) := by decide +kernel
theorem dX11_far_21 : decode cX11_far 21 = .ok (.goto 9, 3) := by decide +kernel
theorem dX11_far_24 : decode cX11_far 24 = .ok (.aload_n 0, 1) := by decide +kernel
theorem dX11_far_25 : decode cX11_far 25 = .ok (.iload_n 1, 1) := by decide +kernel
theorem dX11_far_26 : decode cX11_far 26 = .ok (.iload_n 2, 1) := by decide +kernel
theorem dX11_far_27 : decode cX11_far 27 = .ok (.invokevirtual 146, 3) := by decide +kernel
theorem dX11_far_30 : decode cX11_far 30 = .ok (.ireturn, 1) := by decide +kernel
theorem dX11_isBank_0 : decode cX11_isBank 0 = .ok (.iload_n 1, 1) := by decide +kernel
theorem dX11_isBank_1 : decode cX11_isBank 1 = .ok (.i2l, 1) := by decide +kernel
theorem dX11_isBank_2 : decode cX11_isBank 2 = .ok (.lconst 0, 1) := by decide +kernel
theorem dX11_isBank_3 : decode cX11_isBank 3 = .ok (.aload_n 0, 1) := by decide +kernel
theorem dX11_isBank_4 : decode cX11_isBank 4 = .ok (.getfield 150, 3) := by decide +kernel
theorem dX11_isBank_7 : decode cX11_isBank 7 = .ok (.iconst 1, 1) := by decide +kernel
theorem dX11_isBank_8 : decode cX11_isBank 8 = .ok (.isub, 1) := by decide +kernel
theorem dX11_isBank_9 : decode cX11_isBank 9 = .ok (.i2l, 1) := by decide +kernel
theorem dX11_isBank_10 : decode cX11_isBank 10 = .ok (.invokestatic 123, 3) := by decide +kernel
theorem dX11_isBank_13 : decode cX11_isBank 13 = .ok (.ireturn, 1) := by decide +kernel
theorem dX11_bank_0 : decode cX11_bank 0 = .ok (.aload_n 0, 1) := by decide +kernel
theorem dX11_bank_1 : decode cX11_bank 1 = .ok (.iconst 0, 1) := by decide +kernel
theorem dX11_bank_2 : decode cX11_bank 2 = .ok (.putfield 113, 3) := by decide +kernel
theorem dX11_bank_5 : decode cX11_bank 5 = .ok (.iload_n 1, 1) := by decide +kernel
theorem dX11_bank_6 : decode cX11_bank 6 = .ok (.invokestatic 140, 3) := by decide +kernel
theorem dX11_bank_9 : decode cX11_bank 9 = .ok (.ifCond .eq 27, 3) := by decide +kernel
theorem dX11_bank_12 : decode cX11_bank 12 = .ok (.iload_n 2, 1) := by decide +kernel
theorem dX11_bank_13 : decode cX11_bank 13 = .ok (.i2l, 1) := by decide +kernel
theorem dX11_bank_14 : decode cX11_bank 14 = .ok (.lconst 0, 1) := by decide +kernel
theorem dX11_bank_15 : decode cX11_bank 15 = .ok (.ldc2_w 153, 3) := by decide +kernel
theorem dX11_bank_18 : decode cX11_bank 18 = .ok (.invokestatic 123, 3) := by decide +kernel
theorem dX11_bank_21 : decode cX11_bank 21 = .ok (.ifCond .eq 15, 3) := by decide +kernel
theorem dX11_bank_24 : decode cX11_bank 24 = .ok (.iload_n 3, 1) := by decide +kernel
theorem dX11_bank_25 : decode cX11_bank 25 = .ok (.i2l, 1) := by decide +kernel
theorem dX11_bank_26 : decode cX11_bank 26 = .ok (.lconst 0, 1) := by decide +kernel
theorem dX11_bank_27 : decode cX11_bank 27 = .ok (.ldc2_w 155, 3) := by decide +kernel
theorem dX11_bank_30 : decode cX11_bank 30 = .ok (.invokestatic 123, 3) := by decide +kernel
theorem dX11_bank_33 : decode cX11_bank 33 = .ok (.ifCond .ne 6, 3) := by decide +kernel
theorem dX11_bank_36 : decode cX11_bank 36 = .ok (.ldc 133, 2) := by decide +kernel
theorem dX11_bank_38 : decode cX11_bank 38 = .ok (.ireturn, 1) := by decide +kernel
theorem dX11_bank_39 : decode cX11_bank 39 = .ok (.aload_n 0, 1) := by decide +kernel
theorem dX11_bank_40 : decode cX11_bank 40 = .ok (.getfield 150, 3) := by decide +kernel
theorem dX11_bank_43 : decode cX11_bank 43 = .ok (.bipush 8, 2) := by decide +kernel
theorem dX11_bank_45 : decode cX11_bank 45 = .ok (.if_icmp .ne 6, 3) := by decide +kernel
theorem dX11_bank_48 : decode cX11_bank 48 = .ok (.ldc 157, 2) := by decide +kernel
theorem dX11_bank_50 : decode cX11_bank 50 = .ok (.ireturn, 1) := by decide +kernel
theorem dX11_bank_51 : decode cX11_bank 51 = .ok (.aload_n 0, 1) := by decide +kernel
theorem dX11_bank_52 : decode cX11_bank 52 = .ok (.getfield 25, 3) := by decide +kernel
theorem dX11_bank_55 : decode cX11_bank 55 = .ok (.aload_n 0, 1) := by decide +kernel
theorem dX11_bank_56 : decode cX11_bank 56 = .ok (.getfield 150, 3) := by decide +kernel
theorem dX11_bank_59 : decode cX11_bank 59 = .ok (.iload_n 1, 1) := by decide +kernel
theorem dX11_bank_60 : decode cX11_bank 60 = .ok (.iastore, 1) := by decide +kernel
theorem dX11_bank_61 : decode cX11_bank 61 = .ok (.aload_n 0, 1) := by decide +kernel
theorem dX11_bank_62 : decode cX11_bank 62 = .ok (.getfield 28, 3) := by decide +kernel
theorem dX11_bank_65 : decode cX11_bank 65 = .ok (.aload_n 0, 1) := by decide +kernel
theorem dX11_bank_66 : decode cX11_bank 66 = .ok (.getfield 150, 3) := by decide +kernel
theorem dX11_bank_69 : decode cX11_bank 69 = .ok (.iload_n 2, 1) := by decide +kernel
theorem dX11_bank_70 : decode cX11_bank 70 = .ok (.iastore, 1) := by decide +kernel
theorem dX11_bank_71 : decode cX11_bank 71 = .ok (.aload_n 0, 1) := by decide +kernel
theorem dX11_bank_72 : decode cX11_bank 72 = .ok (.getfield 31, 3) := by decide +kernel
theorem dX11_bank_75 : decode cX11_bank 75 = .ok (.aload_n 0, 1) := by decide +kernel
theorem dX11_bank_76 : decode cX11_bank 76 = .ok (.getfield 150, 3) := by decide +kernel
theorem dX11_bank_79 : decode cX11_bank 79 = .ok (.iload_n 3, 1) := by decide +kernel
theorem dX11_bank_80 : decode cX11_bank 80 = .ok (.iastore, 1) := by decide +kernel
theorem dX11_bank_81 : decode cX11_bank 81 = .ok (.aload_n 0, 1) := by decide +kernel
theorem dX11_bank_82 : decode cX11_bank 82 = .ok (.dup, 1) := by decide +kernel
theorem dX11_bank_83 : decode cX11_bank 83 = .ok (.getfield 150, 3) := by decide +kernel
theorem dX11_bank_86 : decode cX11_bank 86 = .ok (.iconst 1, 1) := by decide +kernel
theorem dX11_bank_87 : decode cX11_bank 87 = .ok (.iadd, 1) := by decide +kernel
theorem dX11_bank_88 : decode cX11_bank 88 = .ok (.putfield 150, 3) := by decide +kernel
theorem dX11_bank_91 : decode cX11_bank 91 = .ok (.aload_n 0, 1) := by decide +kernel
theorem dX11_bank_92 : decode cX11_bank 92 = .ok (.getfield 150, 3) := by decide +kernel
theorem dX11_bank_95 : decode cX11_bank 95 = .ok (.iconst 1, 1) := by decide +kernel
theorem dX11_bank_96 : decode cX11_bank 96 = .ok (.isub, 1) := by decide +kernel
theorem dX11_bank_97 : decode cX11_bank 97 = .ok (.ireturn, 1) := by decide +kernel
theorem dX11_house_0 : decode cX11_house 0 = .ok (.aload_n 0, 1) := by decide +kernel
theorem dX11_house_1 : decode cX11_house 1 = .ok (.iconst 0, 1) := by decide +kernel
theorem dX11_house_2 : decode cX11_house 2 = .ok (.putfield 113, 3) := by decide +kernel
theorem dX11_house_5 : decode cX11_house 5 = .ok (.aload_n 0, 1) := by decide +kernel
theorem dX11_house_6 : decode cX11_house 6 = .ok (.iload_n 1, 1) := by decide +kernel
theorem dX11_house_7 : decode cX11_house 7 = .ok (.invokevirtual 158, 3) := by decide +kernel
theorem dX11_house_10 : decode cX11_house 10 = .ok (.ifCond .eq 15, 3) := by decide +kernel
theorem dX11_house_13 : decode cX11_house 13 = .ok (.iload_n 2, 1) := by decide +kernel
theorem dX11_house_14 : decode cX11_house 14 = .ok (.i2l, 1) := by decide +kernel
theorem dX11_house_15 : decode cX11_house 15 = .ok (.lconst 0, 1) := by decide +kernel
theorem dX11_house_16 : decode cX11_house 16 = .ok (.ldc2_w 161, 3) := by decide +kernel
theorem dX11_house_19 : decode cX11_house 19 = .ok (.invokestatic 123, 3) := by decide +kernel
theorem dX11_house_22 : decode cX11_house 22 = .ok (.ifCond .ne 6, 3) := by decide +kernel
theorem dX11_house_25 : decode cX11_house 25 = .ok (.ldc 133, 2) := by decide +kernel
theorem dX11_house_27 : decode cX11_house 27 = .ok (.ireturn, 1) := by decide +kernel
theorem dX11_house_28 : decode cX11_house 28 = .ok (.iload_n 2, 1) := by decide +kernel
theorem dX11_house_29 : decode cX11_house 29 = .ok (.ifCond .ne 12, 3) := by decide +kernel
theorem dX11_house_32 : decode cX11_house 32 = .ok (.aload_n 0, 1) := by decide +kernel
theorem dX11_house_33 : decode cX11_house 33 = .ok (.getfield 25, 3) := by decide +kernel
theorem dX11_house_36 : decode cX11_house 36 = .ok (.iload_n 1, 1) := by decide +kernel
theorem dX11_house_37 : decode cX11_house 37 = .ok (.iaload, 1) := by decide +kernel
theorem dX11_house_38 : decode cX11_house 38 = .ok (.goto 62, 3) := by decide +kernel
theorem dX11_house_41 : decode cX11_house 41 = .ok (.iload_n 2, 1) := by decide +kernel
theorem dX11_house_42 : decode cX11_house 42 = .ok (.iconst 1, 1) := by decide +kernel
theorem dX11_house_43 : decode cX11_house 43 = .ok (.if_icmp .ne 12, 3) := by decide +kernel
theorem dX11_house_46 : decode cX11_house 46 = .ok (.aload_n 0, 1) := by decide +kernel
theorem dX11_house_47 : decode cX11_house 47 = .ok (.getfield 28, 3) := by decide +kernel
theorem dX11_house_50 : decode cX11_house 50 = .ok (.iload_n 1, 1) := by decide +kernel
theorem dX11_house_51 : decode cX11_house 51 = .ok (.iaload, 1) := by decide +kernel
theorem dX11_house_52 : decode cX11_house 52 = .ok (.goto 48, 3) := by decide +kernel
theorem dX11_house_55 : decode cX11_house 55 = .ok (.iload_n 2, 1) := by decide +kernel
theorem dX11_house_56 : decode cX11_house 56 = .ok (.iconst 2, 1) := by decide +kernel
theorem dX11_house_57 : decode cX11_house 57 = .ok (.if_icmp .ne 12, 3) := by decide +kernel
theorem dX11_house_60 : decode cX11_house 60 = .ok (.aload_n 0, 1) := by decide +kernel
theorem dX11_house_61 : decode cX11_house 61 = .ok (.getfield 31, 3) := by decide +kernel
theorem dX11_house_64 : decode cX11_house 64 = .ok (.iload_n 1, 1) := by decide +kernel
theorem dX11_house_65 : decode cX11_house 65 = .ok (.iaload, 1) := by decide +kernel
theorem dX11_house_66 : decode cX11_house 66 = .ok (.goto 34, 3) := by decide +kernel
theorem dX11_house_69 : decode cX11_house 69 = .ok (.iload_n 2, 1) := by decide +kernel
theorem dX11_house_70 : decode cX11_house 70 = .ok (.iconst 3, 1) := by decide +kernel
theorem dX11_house_71 : decode cX11_house 71 = .ok (.if_icmp .ne 20, 3) := by decide +kernel
theorem dX11_house_74 : decode cX11_house 74 = .ok (.aload_n 0, 1) := by decide +kernel
theorem dX11_house_75 : decode cX11_house 75 = .ok (.getfield 34, 3) := by decide +kernel
theorem dX11_house_78 : decode cX11_house 78 = .ok (.iload_n 1, 1) := by decide +kernel
theorem dX11_house_79 : decode cX11_house 79 = .ok (.baload, 1) := by decide +kernel
theorem dX11_house_80 : decode cX11_house 80 = .ok (.ifCond .eq 7, 3) := by decide +kernel
theorem dX11_house_83 : decode cX11_house 83 = .ok (.iconst 1, 1) := by decide +kernel
theorem dX11_house_84 : decode cX11_house 84 = .ok (.goto 16, 3) := by decide +kernel
theorem dX11_house_87 : decode cX11_house 87 = .ok (.iconst 0, 1) := by decide +kernel
theorem dX11_house_88 : decode cX11_house 88 = .ok (.goto 12, 3) := by decide +kernel
theorem dX11_house_91 : decode cX11_house 91 = .ok (.aload_n 0, 1) := by decide +kernel
theorem dX11_house_92 : decode cX11_house 92 = .ok (.getfield 38, 3) := by decide +kernel
theorem dX11_house_95 : decode cX11_house 95 = .ok (.bipush 9, 2) := by decide +kernel
theorem dX11_house_97 : decode cX11_house 97 = .ok (.iload_n 1, 1) := by decide +kernel
theorem dX11_house_98 : decode cX11_house 98 = .ok (.imul, 1) := by decide +kernel
theorem dX11_house_99 : decode cX11_house 99 = .ok (.iaload, 1) := by decide +kernel
theorem dX11_house_100 : decode cX11_house 100 = .ok (.ireturn, 1) := by decide +kernel
theorem dX11_hold_0 : decode cX11_hold 0 = .ok (.aload_n 0, 1) := by decide +kernel
theorem dX11_hold_1 : decode cX11_hold 1 = .ok (.iconst 0, 1) := by decide +kernel
theorem dX11_hold_2 : decode cX11_hold 2 = .ok (.putfield 113, 3) := by decide +kernel
theorem dX11_hold_5 : decode cX11_hold 5 = .ok (.aload_n 0, 1) := by decide +kernel
theorem dX11_hold_6 : decode cX11_hold 6 = .ok (.iload_n 1, 1) := by decide +kernel
theorem dX11_hold_7 : decode cX11_hold 7 = .ok (.invokevirtual 158, 3) := by decide +kernel
theorem dX11_hold_10 : decode cX11_hold 10 = .ok (.ifCond .eq 34, 3) := by decide +kernel
theorem dX11_hold_13 : decode cX11_hold 13 = .ok (.aload_n 0, 1) := by decide +kernel
theorem dX11_hold_14 : decode cX11_hold 14 = .ok (.iload_n 2, 1) := by decide +kernel
theorem dX11_hold_15 : decode cX11_hold 15 = .ok (.invokevirtual 158, 3) := by decide +kernel
theorem dX11_hold_18 : decode cX11_hold 18 = .ok (.ifCond .eq 26, 3) := by decide +kernel
theorem dX11_hold_21 : decode cX11_hold 21 = .ok (.iload_n 3, 1) := by decide +kernel
theorem dX11_hold_22 : decode cX11_hold 22 = .ok (.i2l, 1) := by decide +kernel
theorem dX11_hold_23 : decode cX11_hold 23 = .ok (.lconst 0, 1) := by decide +kernel
theorem dX11_hold_24 : decode cX11_hold 24 = .ok (.iload_n 1, 1) := by decide +kernel
theorem dX11_hold_25 : decode cX11_hold 25 = .ok (.iload_n 2, 1) := by decide +kernel
theorem dX11_hold_26 : decode cX11_hold 26 = .ok (.if_icmp .ne 9, 3) := by decide +kernel
theorem dX11_hold_29 : decode cX11_hold 29 = .ok (.ldc2_w 153, 3) := by decide +kernel
theorem dX11_hold_32 : decode cX11_hold 32 = .ok (.goto 6, 3) := by decide +kernel
theorem dX11_hold_35 : decode cX11_hold 35 = .ok (.ldc2_w 163, 3) := by decide +kernel
theorem dX11_hold_38 : decode cX11_hold 38 = .ok (.invokestatic 123, 3) := by decide +kernel
theorem dX11_hold_41 : decode cX11_hold 41 = .ok (.ifCond .ne 6, 3) := by decide +kernel
theorem dX11_hold_44 : decode cX11_hold 44 = .ok (.ldc 133, 2) := by decide +kernel
theorem dX11_hold_46 : decode cX11_hold 46 = .ok (.ireturn, 1) := by decide +kernel
theorem dX11_hold_47 : decode cX11_hold 47 = .ok (.aload_n 0, 1) := by decide +kernel
theorem dX11_hold_48 : decode cX11_hold 48 = .ok (.getfield 38, 3) := by decide +kernel
theorem dX11_hold_51 : decode cX11_hold 51 = .ok (.bipush 8, 2) := by decide +kernel
theorem dX11_hold_53 : decode cX11_hold 53 = .ok (.iload_n 1, 1) := by decide +kernel
theorem dX11_hold_54 : decode cX11_hold 54 = .ok (.imul, 1) := by decide +kernel
theorem dX11_hold_55 : decode cX11_hold 55 = .ok (.iload_n 2, 1) := by decide +kernel
theorem dX11_hold_56 : decode cX11_hold 56 = .ok (.iadd, 1) := by decide +kernel
theorem dX11_hold_57 : decode cX11_hold 57 = .ok (.iaload, 1) := by decide +kernel
theorem dX11_hold_58 : decode cX11_hold 58 = .ok (.istore 4, 2) := by decide +kernel
theorem dX11_hold_60 : decode cX11_hold 60 = .ok (.aload_n 0, 1) := by decide +kernel
theorem dX11_hold_61 : decode cX11_hold 61 = .ok (.getfield 38, 3) := by decide +kernel
theorem dX11_hold_64 : decode cX11_hold 64 = .ok (.bipush 8, 2) := by decide +kernel
theorem dX11_hold_66 : decode cX11_hold 66 = .ok (.iload_n 1, 1) := by decide +kernel
theorem dX11_hold_67 : decode cX11_hold 67 = .ok (.imul, 1) := by decide +kernel
theorem dX11_hold_68 : decode cX11_hold 68 = .ok (.iload_n 2, 1) := by decide +kernel
theorem dX11_hold_69 : decode cX11_hold 69 = .ok (.iadd, 1) := by decide +kernel
theorem dX11_hold_70 : decode cX11_hold 70 = .ok (.iload_n 3, 1) := by decide +kernel
theorem dX11_hold_71 : decode cX11_hold 71 = .ok (.iastore, 1) := by decide +kernel
theorem dX11_hold_72 : decode cX11_hold 72 = .ok (.iload 4, 2) := by decide +kernel
theorem dX11_hold_74 : decode cX11_hold 74 = .ok (.ireturn, 1) := by decide +kernel
theorem dX11_falls_0 : decode cX11_falls 0 = .ok (.aload_n 0, 1) := by decide +kernel
theorem dX11_falls_1 : decode cX11_falls 1 = .ok (.iconst 0, 1) := by decide +kernel
theorem dX11_falls_2 : decode cX11_falls 2 = .ok (.putfield 113, 3) := by decide +kernel
theorem dX11_falls_5 : decode cX11_falls 5 = .ok (.iload_n 1, 1) := by decide +kernel
theorem dX11_falls_6 : decode cX11_falls 6 = .ok (.i2l, 1) := by decide +kernel
theorem dX11_falls_7 : decode cX11_falls 7 = .ok (.lconst 0, 1) := by decide +kernel
theorem dX11_falls_8 : decode cX11_falls 8 = .ok (.lconst 1, 1) := by decide +kernel
theorem dX11_falls_9 : decode cX11_falls 9 = .ok (.invokestatic 123, 3) := by decide +kernel
theorem dX11_falls_12 : decode cX11_falls 12 = .ok (.ifCond .ne 6, 3) := by decide +kernel
theorem dX11_falls_15 : decode cX11_falls 15 = .ok (.ldc 133, 2) := by decide +kernel
theorem dX11_falls_17 : decode cX11_falls 17 = .ok (.ireturn, 1) := by decide +kernel
theorem dX11_falls_18 : decode cX11_falls 18 = .ok (.iconst 0, 1) := by decide +kernel
theorem dX11_falls_19 : decode cX11_falls 19 = .ok (.istore_n 2, 1) := by decide +kernel
theorem dX11_falls_20 : decode cX11_falls 20 = .ok (.iconst 0, 1) := by decide +kernel
theorem dX11_falls_21 : decode cX11_falls 21 = .ok (.istore_n 3, 1) := by decide +kernel
theorem dX11_falls_22 : decode cX11_falls 22 = .ok (.iload_n 3, 1) := by decide +kernel
theorem dX11_falls_23 : decode cX11_falls 23 = .ok (.aload_n 0, 1) := by decide +kernel
theorem dX11_falls_24 : decode cX11_falls 24 = .ok (.getfield 150, 3) := by decide +kernel
theorem dX11_falls_27 : decode cX11_falls 27 = .ok (.if_icmp .ge 28, 3) := by decide +kernel
theorem dX11_falls_30 : decode cX11_falls 30 = .ok (.iload_n 2, 1) := by decide +kernel
theorem dX11_falls_31 : decode cX11_falls 31 = .ok (.aload_n 0, 1) := by decide +kernel
theorem dX11_falls_32 : decode cX11_falls 32 = .ok (.getfield 34, 3) := by decide +kernel
theorem dX11_falls_35 : decode cX11_falls 35 = .ok (.iload_n 3, 1) := by decide +kernel
theorem dX11_falls_36 : decode cX11_falls 36 = .ok (.baload, 1) := by decide +kernel
theorem dX11_falls_37 : decode cX11_falls 37 = .ok (.ifCond .eq 9, 3) := by decide +kernel
theorem dX11_falls_40 : decode cX11_falls 40 = .ok (.iconst 1, 1) := by decide +kernel
theorem dX11_falls_41 : decode cX11_falls 41 = .ok (.iload_n 3, 1) := by decide +kernel
theorem dX11_falls_42 : decode cX11_falls 42 = .ok (.ishl, 1) := by decide +kernel
theorem dX11_falls_43 : decode cX11_falls 43 = .ok (.goto 4, 3) := by decide +kernel
theorem dX11_falls_46 : decode cX11_falls 46 = .ok (.iconst 0, 1) := by decide +kernel
theorem dX11_falls_47 : decode cX11_falls 47 = .ok (.ior, 1) := by decide +kernel
theorem dX11_falls_48 : decode cX11_falls 48 = .ok (.istore_n 2, 1) := by decide +kernel
theorem dX11_falls_49 : decode cX11_falls 49 = .ok (.iinc 3 1, 3) := by decide +kernel
theorem dX11_falls_52 : decode cX11_falls 52 = .ok (.goto (-30), 3) := by decide +kernel
theorem dX11_falls_55 : decode cX11_falls 55 = .ok (.iconst 0, 1) := by decide +kernel
theorem dX11_falls_56 : decode cX11_falls 56 = .ok (.istore_n 3, 1) := by decide +kernel
theorem dX11_falls_57 : decode cX11_falls 57 = .ok (.iconst 1, 1) := by decide +kernel
theorem dX11_falls_58 : decode cX11_falls 58 = .ok (.istore 4, 2) := by decide +kernel
theorem dX11_falls_60 : decode cX11_falls 60 = .ok (.iload 4, 2) := by decide +kernel
theorem dX11_falls_62 : decode cX11_falls 62 = .ok (.ifCond .eq 149, 3) := by decide +kernel
theorem dX11_falls_65 : decode cX11_falls 65 = .ok (.iload_n 2, 1) := by decide +kernel
theorem dX11_falls_66 : decode cX11_falls 66 = .ok (.istore 5, 2) := by decide +kernel
theorem dX11_falls_68 : decode cX11_falls 68 = .ok (.iconst 0, 1) := by decide +kernel
theorem dX11_falls_69 : decode cX11_falls 69 = .ok (.istore 6, 2) := by decide +kernel
theorem dX11_falls_71 : decode cX11_falls 71 = .ok (.iload 6, 2) := by decide +kernel
theorem dX11_falls_73 : decode cX11_falls 73 = .ok (.aload_n 0, 1) := by decide +kernel
theorem dX11_falls_74 : decode cX11_falls 74 = .ok (.getfield 150, 3) := by decide +kernel
theorem dX11_falls_77 : decode cX11_falls 77 = .ok (.if_icmp .ge 102, 3) := by decide +kernel
theorem dX11_falls_80 : decode cX11_falls 80 = .ok (.aload_n 0, 1) := by decide +kernel
theorem dX11_falls_81 : decode cX11_falls 81 = .ok (.getfield 28, 3) := by decide +kernel
theorem dX11_falls_84 : decode cX11_falls 84 = .ok (.iload 6, 2) := by decide +kernel
theorem dX11_falls_86 : decode cX11_falls 86 = .ok (.iaload, 1) := by decide +kernel
theorem dX11_falls_87 : decode cX11_falls 87 = .ok (.istore 7, 2) := by decide +kernel
theorem dX11_falls_89 : decode cX11_falls 89 = .ok (.iconst 0, 1) := by decide +kernel
theorem dX11_falls_90 : decode cX11_falls 90 = .ok (.istore 8, 2) := by decide +kernel
theorem dX11_falls_92 : decode cX11_falls 92 = .ok (.iload 8, 2) := by decide +kernel
theorem dX11_falls_94 : decode cX11_falls 94 = .ok (.aload_n 0, 1) := by decide +kernel
theorem dX11_falls_95 : decode cX11_falls 95 = .ok (.getfield 150, 3) := by decide +kernel
theorem dX11_falls_98 : decode cX11_falls 98 = .ok (.if_icmp .ge 47, 3) := by decide +kernel
theorem dX11_falls_101 : decode cX11_falls 101 = .ok (.iload 7, 2) := by decide +kernel
theorem dX11_falls_103 : decode cX11_falls 103 = .ok (.iload 8, 2) := by decide +kernel
theorem dX11_falls_105 : decode cX11_falls 105 = .ok (.iload 6, 2) := by decide +kernel
theorem dX11_falls_107 : decode cX11_falls 107 = .ok (.if_icmp .eq 28, 3) := by decide +kernel
theorem dX11_falls_110 : decode cX11_falls 110 = .ok (.iload_n 2, 1) := by decide +kernel
theorem dX11_falls_111 : decode cX11_falls 111 = .ok (.iload 8, 2) := by decide +kernel
theorem dX11_falls_113 : decode cX11_falls 113 = .ok (.ishr, 1) := by decide +kernel
theorem dX11_falls_114 : decode cX11_falls 114 = .ok (.iconst 1, 1) := by decide +kernel
theorem dX11_falls_115 : decode cX11_falls 115 = .ok (.iand, 1) := by decide +kernel
theorem dX11_falls_116 : decode cX11_falls 116 = .ok (.ifCond .ne 19, 3) := by decide +kernel
theorem dX11_falls_119 : decode cX11_falls 119 = .ok (.aload_n 0, 1) := by decide +kernel
theorem dX11_falls_120 : decode cX11_falls 120 = .ok (.getfield 38, 3) := by decide +kernel
theorem dX11_falls_123 : decode cX11_falls 123 = .ok (.bipush 8, 2) := by decide +kernel
theorem dX11_falls_125 : decode cX11_falls 125 = .ok (.iload 6, 2) := by decide +kernel
theorem dX11_falls_127 : decode cX11_falls 127 = .ok (.imul, 1) := by decide +kernel
theorem dX11_falls_128 : decode cX11_falls 128 = .ok (.iload 8, 2) := by decide +kernel
theorem dX11_falls_130 : decode cX11_falls 130 = .ok (.iadd, 1) := by decide +kernel
theorem dX11_falls_131 : decode cX11_falls 131 = .ok (.iaload, 1) := by decide +kernel
theorem dX11_falls_132 : decode cX11_falls 132 = .ok (.goto 4, 3) := by decide +kernel
theorem dX11_falls_135 : decode cX11_falls 135 = .ok (.iconst 0, 1) := by decide +kernel
theorem dX11_falls_136 : decode cX11_falls 136 = .ok (.iadd, 1) := by decide +kernel
theorem dX11_falls_137 : decode cX11_falls 137 = .ok (.istore 7, 2) := by decide +kernel
theorem dX11_falls_139 : decode cX11_falls 139 = .ok (.iinc 8 1, 3) := by decide +kernel
theorem dX11_falls_142 : decode cX11_falls 142 = .ok (.goto (-50), 3) := by decide +kernel
theorem dX11_falls_145 : decode cX11_falls 145 = .ok (.iload 5, 2) := by decide +kernel
theorem dX11_falls_147 : decode cX11_falls 147 = .ok (.iload 7, 2) := by decide +kernel
theorem dX11_falls_149 : decode cX11_falls 149 = .ok (.aload_n 0, 1) := by decide +kernel
theorem dX11_falls_150 : decode cX11_falls 150 = .ok (.getfield 38, 3) := by decide +kernel
theorem dX11_falls_153 : decode cX11_falls 153 = .ok (.bipush 9, 2) := by decide +kernel
theorem dX11_falls_155 : decode cX11_falls 155 = .ok (.iload 6, 2) := by decide +kernel
theorem dX11_falls_157 : decode cX11_falls 157 = .ok (.imul, 1) := by decide +kernel
theorem dX11_falls_158 : decode cX11_falls 158 = .ok (.iaload, 1) := by decide +kernel
theorem dX11_falls_159 : decode cX11_falls 159 = .ok (.if_icmp .ge 10, 3) := by decide +kernel
theorem dX11_falls_162 : decode cX11_falls 162 = .ok (.iconst 1, 1) := by decide +kernel
theorem dX11_falls_163 : decode cX11_falls 163 = .ok (.iload 6, 2) := by decide +kernel
theorem dX11_falls_165 : decode cX11_falls 165 = .ok (.ishl, 1) := by decide +kernel
theorem dX11_falls_166 : decode cX11_falls 166 = .ok (.goto 4, 3) := by decide +kernel
theorem dX11_falls_169 : decode cX11_falls 169 = .ok (.iconst 0, 1) := by decide +kernel
theorem dX11_falls_170 : decode cX11_falls 170 = .ok (.ior, 1) := by decide +kernel
theorem dX11_falls_171 : decode cX11_falls 171 = .ok (.istore 5, 2) := by decide +kernel
theorem dX11_falls_173 : decode cX11_falls 173 = .ok (.iinc 6 1, 3) := by decide +kernel
theorem dX11_falls_176 : decode cX11_falls 176 = .ok (.goto (-105), 3) := by decide +kernel
theorem dX11_falls_179 : decode cX11_falls 179 = .ok (.iload 5, 2) := by decide +kernel
theorem dX11_falls_181 : decode cX11_falls 181 = .ok (.iload_n 2, 1) := by decide +kernel
theorem dX11_falls_182 : decode cX11_falls 182 = .ok (.if_icmp .eq 7, 3) := by decide +kernel
theorem dX11_falls_185 : decode cX11_falls 185 = .ok (.iconst 1, 1) := by decide +kernel
theorem dX11_falls_186 : decode cX11_falls 186 = .ok (.goto 4, 3) := by decide +kernel
theorem dX11_falls_189 : decode cX11_falls 189 = .ok (.iconst 0, 1) := by decide +kernel
theorem dX11_falls_190 : decode cX11_falls 190 = .ok (.istore 4, 2) := by decide +kernel
theorem dX11_falls_192 : decode cX11_falls 192 = .ok (.iload_n 3, 1) := by decide +kernel
theorem dX11_falls_193 : decode cX11_falls 193 = .ok (.iload 4, 2) := by decide +kernel
theorem dX11_falls_195 : decode cX11_falls 195 = .ok (.ifCond .eq 7, 3) := by decide +kernel
theorem dX11_falls_198 : decode cX11_falls 198 = .ok (.iconst 1, 1) := by decide +kernel
theorem dX11_falls_199 : decode cX11_falls 199 = .ok (.goto 4, 3) := by decide +kernel
theorem dX11_falls_202 : decode cX11_falls 202 = .ok (.iconst 0, 1) := by decide +kernel
theorem dX11_falls_203 : decode cX11_falls 203 = .ok (.iadd, 1) := by decide +kernel
theorem dX11_falls_204 : decode cX11_falls 204 = .ok (.istore_n 3, 1) := by decide +kernel
theorem dX11_falls_205 : decode cX11_falls 205 = .ok (.iload 5, 2) := by decide +kernel
theorem dX11_falls_207 : decode cX11_falls 207 = .ok (.istore_n 2, 1) := by decide +kernel
theorem dX11_falls_208 : decode cX11_falls 208 = .ok (.goto (-148), 3) := by decide +kernel
theorem dX11_falls_211 : decode cX11_falls 211 = .ok (.iload_n 1, 1) := by decide +kernel
theorem dX11_falls_212 : decode cX11_falls 212 = .ok (.ifCond .ne 7, 3) := by decide +kernel
theorem dX11_falls_215 : decode cX11_falls 215 = .ok (.iload_n 2, 1) := by decide +kernel
theorem dX11_falls_216 : decode cX11_falls 216 = .ok (.goto 4, 3) := by decide +kernel
theorem dX11_falls_219 : decode cX11_falls 219 = .ok (.iload_n 3, 1) := by decide +kernel
theorem dX11_falls_220 : decode cX11_falls 220 = .ok (.ireturn, 1) := by decide +kernel
theorem dX11_isWeek_0 : decode cX11_isWeek 0 = .ok (.iload_n 0, 1) := by decide +kernel
theorem dX11_isWeek_1 : decode cX11_isWeek 1 = .ok (.i2l, 1) := by decide +kernel
theorem dX11_isWeek_2 : decode cX11_isWeek 2 = .ok (.lconst 0, 1) := by decide +kernel
theorem dX11_isWeek_3 : decode cX11_isWeek 3 = .ok (.ldc2_w 165, 3) := by decide +kernel
theorem dX11_isWeek_6 : decode cX11_isWeek 6 = .ok (.invokestatic 123, 3) := by decide +kernel
theorem dX11_isWeek_9 : decode cX11_isWeek 9 = .ok (.ireturn, 1) := by decide +kernel
theorem dX11_week_0 : decode cX11_week 0 = .ok (.aload_n 0, 1) := by decide +kernel
theorem dX11_week_1 : decode cX11_week 1 = .ok (.iconst 0, 1) := by decide +kernel
theorem dX11_week_2 : decode cX11_week 2 = .ok (.putfield 113, 3) := by decide +kernel
theorem dX11_week_5 : decode cX11_week 5 = .ok (.iload_n 1, 1) := by decide +kernel
theorem dX11_week_6 : decode cX11_week 6 = .ok (.i2l, 1) := by decide +kernel
theorem dX11_week_7 : decode cX11_week 7 = .ok (.aload_n 0, 1) := by decide +kernel
theorem dX11_week_8 : decode cX11_week 8 = .ok (.getfield 167, 3) := by decide +kernel
theorem dX11_week_11 : decode cX11_week 11 = .ok (.i2l, 1) := by decide +kernel
theorem dX11_week_12 : decode cX11_week 12 = .ok (.ldc2_w 165, 3) := by decide +kernel
theorem dX11_week_15 : decode cX11_week 15 = .ok (.invokestatic 123, 3) := by decide +kernel
theorem dX11_week_18 : decode cX11_week 18 = .ok (.ifCond .ne 6, 3) := by decide +kernel
theorem dX11_week_21 : decode cX11_week 21 = .ok (.ldc 133, 2) := by decide +kernel
theorem dX11_week_23 : decode cX11_week 23 = .ok (.ireturn, 1) := by decide +kernel
theorem dX11_week_24 : decode cX11_week 24 = .ok (.aload_n 0, 1) := by decide +kernel
theorem dX11_week_25 : decode cX11_week 25 = .ok (.getfield 167, 3) := by decide +kernel
theorem dX11_week_28 : decode cX11_week 28 = .ok (.istore_n 2, 1) := by decide +kernel
theorem dX11_week_29 : decode cX11_week 29 = .ok (.aload_n 0, 1) := by decide +kernel
theorem dX11_week_30 : decode cX11_week 30 = .ok (.iload_n 1, 1) := by decide +kernel
theorem dX11_week_31 : decode cX11_week 31 = .ok (.putfield 167, 3) := by decide +kernel
theorem dX11_week_34 : decode cX11_week 34 = .ok (.iload_n 2, 1) := by decide +kernel
theorem dX11_week_35 : decode cX11_week 35 = .ok (.ireturn, 1) := by decide +kernel
theorem dX11_feed_0 : decode cX11_feed 0 = .ok (.aload_n 0, 1) := by decide +kernel
theorem dX11_feed_1 : decode cX11_feed 1 = .ok (.iconst 0, 1) := by decide +kernel
theorem dX11_feed_2 : decode cX11_feed 2 = .ok (.putfield 113, 3) := by decide +kernel
theorem dX11_feed_5 : decode cX11_feed 5 = .ok (.iload_n 3, 1) := by decide +kernel
theorem dX11_feed_6 : decode cX11_feed 6 = .ok (.i2l, 1) := by decide +kernel
theorem dX11_feed_7 : decode cX11_feed 7 = .ok (.lconst 1, 1) := by decide +kernel
theorem dX11_feed_8 : decode cX11_feed 8 = .ok (.ldc2_w 170, 3) := by decide +kernel
theorem dX11_feed_11 : decode cX11_feed 11 = .ok (.invokestatic 123, 3) := by decide +kernel
theorem dX11_feed_14 : decode cX11_feed 14 = .ok (.ifCond .ne 6, 3) := by decide +kernel
theorem dX11_feed_17 : decode cX11_feed 17 = .ok (.ldc 133, 2) := by decide +kernel
theorem dX11_feed_19 : decode cX11_feed 19 = .ok (.ireturn, 1) := by decide +kernel
theorem dX11_feed_20 : decode cX11_feed 20 = .ok (.aload_n 0, 1) := by decide +kernel
theorem dX11_feed_21 : decode cX11_feed 21 = .ok (.getfield 172, 3) := by decide +kernel
theorem dX11_feed_24 : decode cX11_feed 24 = .ok (.iload_n 3, 1) := by decide +kernel
theorem dX11_feed_25 : decode cX11_feed 25 = .ok (.iadd, 1) := by decide +kernel
theorem dX11_feed_26 : decode cX11_feed 26 = .ok (.sipush 400, 3) := by decide +kernel
theorem dX11_feed_29 : decode cX11_feed 29 = .ok (.if_icmp .le 6, 3) := by decide +kernel
theorem dX11_feed_32 : decode cX11_feed 32 = .ok (.ldc 157, 2) := by decide +kernel
theorem dX11_feed_34 : decode cX11_feed 34 = .ok (.ireturn, 1) := by decide +kernel
theorem dX11_feed_35 : decode cX11_feed 35 = .ok (.iload_n 3, 1) := by decide +kernel
theorem dX11_feed_36 : decode cX11_feed 36 = .ok (.iconst 1, 1) := by decide +kernel
theorem dX11_feed_37 : decode cX11_feed 37 = .ok (.isub, 1) := by decide +kernel
theorem dX11_feed_38 : decode cX11_feed 38 = .ok (.istore 4, 2) := by decide +kernel
theorem dX11_feed_40 : decode cX11_feed 40 = .ok (.iload 4, 2) := by decide +kernel
theorem dX11_feed_42 : decode cX11_feed 42 = .ok (.ifCond .lt 40, 3) := by decide +kernel
theorem dX11_feed_45 : decode cX11_feed 45 = .ok (.aload_n 0, 1) := by decide +kernel
theorem dX11_feed_46 : decode cX11_feed 46 = .ok (.getfield 53, 3) := by decide +kernel
theorem dX11_feed_49 : decode cX11_feed 49 = .ok (.aload_n 0, 1) := by decide +kernel
theorem dX11_feed_50 : decode cX11_feed 50 = .ok (.getfield 172, 3) := by decide +kernel
theorem dX11_feed_53 : decode cX11_feed 53 = .ok (.lload_n 1, 1) := by decide +kernel
theorem dX11_feed_54 : decode cX11_feed 54 = .ok (.bipush 8, 2) := by decide +kernel
theorem dX11_feed_56 : decode cX11_feed 56 = .ok (.iload 4, 2) := by decide +kernel
theorem dX11_feed_58 : decode cX11_feed 58 = .ok (.imul, 1) := by decide +kernel
theorem dX11_feed_59 : decode cX11_feed 59 = .ok (.lshr, 1) := by decide +kernel
theorem dX11_feed_60 : decode cX11_feed 60 = .ok (.ldc2_w 155, 3) := by decide +kernel
theorem dX11_feed_63 : decode cX11_feed 63 = .ok (.land, 1) := by decide +kernel
theorem dX11_feed_64 : decode cX11_feed 64 = .ok (.l2i, 1) := by decide +kernel
theorem dX11_feed_65 : decode cX11_feed 65 = .ok (.iastore, 1) := by decide +kernel
theorem dX11_feed_66 : decode cX11_feed 66 = .ok (.aload_n 0, 1) := by decide +kernel
theorem dX11_feed_67 : decode cX11_feed 67 = .ok (.dup, 1) := by decide +kernel
theorem dX11_feed_68 : decode cX11_feed 68 = .ok (.getfield 172, 3) := by decide +kernel
theorem dX11_feed_71 : decode cX11_feed 71 = .ok (.iconst 1, 1) := by decide +kernel
theorem dX11_feed_72 : decode cX11_feed 72 = .ok (.iadd, 1) := by decide +kernel
theorem dX11_feed_73 : decode cX11_feed 73 = .ok (.putfield 172, 3) := by decide +kernel
theorem dX11_feed_76 : decode cX11_feed 76 = .ok (.iinc 4 (-1), 3) := by decide +kernel
theorem dX11_feed_79 : decode cX11_feed 79 = .ok (.goto (-39), 3) := by decide +kernel
theorem dX11_feed_82 : decode cX11_feed 82 = .ok (.aload_n 0, 1) := by decide +kernel
theorem dX11_feed_83 : decode cX11_feed 83 = .ok (.getfield 172, 3) := by decide +kernel
theorem dX11_feed_86 : decode cX11_feed 86 = .ok (.ireturn, 1) := by decide +kernel
theorem dX11_byteAt_0 : decode cX11_byteAt 0 = .ok (.iload_n 1, 1) := by decide +kernel
theorem dX11_byteAt_1 : decode cX11_byteAt 1 = .ok (.aload_n 0, 1) := by decide +kernel
theorem dX11_byteAt_2 : decode cX11_byteAt 2 = .ok (.getfield 175, 3) := by decide +kernel
theorem dX11_byteAt_5 : decode cX11_byteAt 5 = .ok (.if_icmp .ge 12, 3) := by decide +kernel
theorem dX11_byteAt_8 : decode cX11_byteAt 8 = .ok (.aload_n 0, 1) := by decide +kernel
theorem dX11_byteAt_9 : decode cX11_byteAt 9 = .ok (.getfield 53, 3) := by decide +kernel
theorem dX11_byteAt_12 : decode cX11_byteAt 12 = .ok (.iload_n 1, 1) := by decide +kernel
theorem dX11_byteAt_13 : decode cX11_byteAt 13 = .ok (.iaload, 1) := by decide +kernel
theorem dX11_byteAt_14 : decode cX11_byteAt 14 = .ok (.goto 5, 3) := by decide +kernel
theorem dX11_byteAt_17 : decode cX11_byteAt 17 = .ok (.ldc 145, 2) := by decide +kernel
theorem dX11_byteAt_19 : decode cX11_byteAt 19 = .ok (.ireturn, 1) := by decide +kernel
theorem dX11_isLetter_0 : decode cX11_isLetter 0 = .ok (.iload_n 0, 1) := by decide +kernel
theorem dX11_isLetter_1 : decode cX11_isLetter 1 = .ok (.bipush 97, 2) := by decide +kernel
theorem dX11_isLetter_3 : decode cX11_isLetter 3 = .ok (.if_icmp .lt 13, 3) := by decide +kernel
theorem dX11_isLetter_6 : decode cX11_isLetter 6 = .ok (.iload_n 0, 1) := by decide +kernel
theorem dX11_isLetter_7 : decode cX11_isLetter 7 = .ok (.bipush 122, 2) := by decide +kernel
theorem dX11_isLetter_9 : decode cX11_isLetter 9 = .ok (.if_icmp .gt 7, 3) := by decide +kernel
theorem dX11_isLetter_12 : decode cX11_isLetter 12 = .ok (.iconst 1, 1) := by decide +kernel
theorem dX11_isLetter_13 : decode cX11_isLetter 13 = .ok (.goto 4, 3) := by decide +kernel
theorem dX11_isLetter_16 : decode cX11_isLetter 16 = .ok (.iconst 0, 1) := by decide +kernel
theorem dX11_isLetter_17 : decode cX11_isLetter 17 = .ok (.ireturn, 1) := by decide +kernel
theorem dX11_isFigure_0 : decode cX11_isFigure 0 = .ok (.iload_n 0, 1) := by decide +kernel
theorem dX11_isFigure_1 : decode cX11_isFigure 1 = .ok (.bipush 48, 2) := by decide +kernel
theorem dX11_isFigure_3 : decode cX11_isFigure 3 = .ok (.if_icmp .lt 13, 3) := by decide +kernel
theorem dX11_isFigure_6 : decode cX11_isFigure 6 = .ok (.iload_n 0, 1) := by decide +kernel
theorem dX11_isFigure_7 : decode cX11_isFigure 7 = .ok (.bipush 57, 2) := by decide +kernel
theorem dX11_isFigure_9 : decode cX11_isFigure 9 = .ok (.if_icmp .gt 7, 3) := by decide +kernel
theorem dX11_isFigure_12 : decode cX11_isFigure 12 = .ok (.iconst 1, 1) := by decide +kernel
theorem dX11_isFigure_13 : decode cX11_isFigure 13 = .ok (.goto 4, 3) := by decide +kernel
theorem dX11_isFigure_16 : decode cX11_isFigure 16 = .ok (.iconst 0, 1) := by decide +kernel
theorem dX11_isFigure_17 : decode cX11_isFigure 17 = .ok (.ireturn, 1) := by decide +kernel
theorem dX11_step_0 : decode cX11_step 0 = .ok (.aload_n 0, 1) := by decide +kernel
theorem dX11_step_1 : decode cX11_step 1 = .ok (.aload_n 0, 1) := by decide +kernel
theorem dX11_step_2 : decode cX11_step 2 = .ok (.getfield 178, 3) := by decide +kernel
theorem dX11_step_5 : decode cX11_step 5 = .ok (.invokevirtual 181, 3) := by decide +kernel
theorem dX11_step_8 : decode cX11_step 8 = .ok (.bipush 32, 2) := by decide +kernel
theorem dX11_step_10 : decode cX11_step 10 = .ok (.if_icmp .eq 16, 3) := by decide +kernel
theorem dX11_step_13 : decode cX11_step 13 = .ok (.aload_n 0, 1) := by decide +kernel
theorem dX11_step_14 : decode cX11_step 14 = .ok (.aload_n 0, 1) := by decide +kernel
theorem dX11_step_15 : decode cX11_step 15 = .ok (.getfield 178, 3) := by decide +kernel
theorem dX11_step_18 : decode cX11_step 18 = .ok (.invokevirtual 181, 3) := by decide +kernel
theorem dX11_step_21 : decode cX11_step 21 = .ok (.bipush 10, 2) := by decide +kernel
theorem dX11_step_23 : decode cX11_step 23 = .ok (.if_icmp .ne 16, 3) := by decide +kernel
theorem dX11_step_26 : decode cX11_step 26 = .ok (.aload_n 0, 1) := by decide +kernel
theorem dX11_step_27 : decode cX11_step 27 = .ok (.dup, 1) := by decide +kernel
theorem dX11_step_28 : decode cX11_step 28 = .ok (.getfield 178, 3) := by decide +kernel
theorem dX11_step_31 : decode cX11_step 31 = .ok (.iconst 1, 1) := by decide +kernel
theorem dX11_step_32 : decode cX11_step 32 = .ok (.iadd, 1) := by decide +kernel
theorem dX11_step_33 : decode cX11_step 33 = .ok (.putfield 178, 3) := by decide +kernel
theorem dX11_step_36 : decode cX11_step 36 = .ok (.goto (-36), 3) := by decide +kernel
theorem dX11_step_39 : decode cX11_step 39 = .ok (.aload_n 0, 1) := by decide +kernel
theorem dX11_step_40 : decode cX11_step 40 = .ok (.aload_n 0, 1) := by decide +kernel
theorem dX11_step_41 : decode cX11_step 41 = .ok (.getfield 178, 3) := by decide +kernel
theorem dX11_step_44 : decode cX11_step 44 = .ok (.putfield 184, 3) := by decide +kernel
theorem dX11_step_47 : decode cX11_step 47 = .ok (.aload_n 0, 1) := by decide +kernel
theorem dX11_step_48 : decode cX11_step 48 = .ok (.aload_n 0, 1) := by decide +kernel
theorem dX11_step_49 : decode cX11_step 49 = .ok (.getfield 178, 3) := by decide +kernel
theorem dX11_step_52 : decode cX11_step 52 = .ok (.invokevirtual 181, 3) := by decide +kernel
theorem dX11_step_55 : decode cX11_step 55 = .ok (.istore_n 1, 1) := by decide +kernel
theorem dX11_step_56 : decode cX11_step 56 = .ok (.iload_n 1, 1) := by decide +kernel
theorem dX11_step_57 : decode cX11_step 57 = .ok (.ldc 145, 2) := by decide +kernel
theorem dX11_step_59 : decode cX11_step 59 = .ok (.if_icmp .ne 11, 3) := by decide +kernel
theorem dX11_step_62 : decode cX11_step 62 = .ok (.aload_n 0, 1) := by decide +kernel
theorem dX11_step_63 : decode cX11_step 63 = .ok (.iconst 1, 1) := by decide +kernel
theorem dX11_step_64 : decode cX11_step 64 = .ok (.putfield 187, 3) := by decide +kernel
theorem dX11_step_67 : decode cX11_step 67 = .ok (.goto 129, 3) := by decide +kernel
theorem dX11_step_70 : decode cX11_step 70 = .ok (.iload_n 1, 1) := by decide +kernel
theorem dX11_step_71 : decode cX11_step 71 = .ok (.invokestatic 190, 3) := by decide +kernel
theorem dX11_step_74 : decode cX11_step 74 = .ok (.ifCond .eq 38, 3) := by decide +kernel
theorem dX11_step_77 : decode cX11_step 77 = .ok (.aload_n 0, 1) := by decide +kernel
theorem dX11_step_78 : decode cX11_step 78 = .ok (.aload_n 0, 1) := by decide +kernel
theorem dX11_step_79 : decode cX11_step 79 = .ok (.getfield 178, 3) := by decide +kernel
theorem dX11_step_82 : decode cX11_step 82 = .ok (.invokevirtual 181, 3) := by decide +kernel
theorem dX11_step_85 : decode cX11_step 85 = .ok (.invokestatic 190, 3) := by decide +kernel
theorem dX11_step_88 : decode cX11_step 88 = .ok (.ifCond .eq 16, 3) := by decide +kernel
theorem dX11_step_91 : decode cX11_step 91 = .ok (.aload_n 0, 1) := by decide +kernel
theorem dX11_step_92 : decode cX11_step 92 = .ok (.dup, 1) := by decide +kernel
theorem dX11_step_93 : decode cX11_step 93 = .ok (.getfield 178, 3) := by decide +kernel
theorem dX11_step_96 : decode cX11_step 96 = .ok (.iconst 1, 1) := by decide +kernel
theorem dX11_step_97 : decode cX11_step 97 = .ok (.iadd, 1) := by decide +kernel
theorem dX11_step_98 : decode cX11_step 98 = .ok (.putfield 178, 3) := by decide +kernel
theorem dX11_step_101 : decode cX11_step 101 = .ok (.goto (-24), 3) := by decide +kernel
theorem dX11_step_104 : decode cX11_step 104 = .ok (.aload_n 0, 1) := by decide +kernel
theorem dX11_step_105 : decode cX11_step 105 = .ok (.iconst 2, 1) := by decide +kernel
theorem dX11_step_106 : decode cX11_step 106 = .ok (.putfield 187, 3) := by decide +kernel
theorem dX11_step_109 : decode cX11_step 109 = .ok (.goto 87, 3) := by decide +kernel
theorem dX11_step_112 : decode cX11_step 112 = .ok (.iload_n 1, 1) := by decide +kernel
theorem dX11_step_113 : decode cX11_step 113 = .ok (.invokestatic 193, 3) := by decide +kernel
theorem dX11_step_116 : decode cX11_step 116 = .ok (.ifCond .eq 55, 3) := by decide +kernel
theorem dX11_step_119 : decode cX11_step 119 = .ok (.aload_n 0, 1) := by decide +kernel
theorem dX11_step_120 : decode cX11_step 120 = .ok (.aload_n 0, 1) := by decide +kernel
theorem dX11_step_121 : decode cX11_step 121 = .ok (.getfield 178, 3) := by decide +kernel
theorem dX11_step_124 : decode cX11_step 124 = .ok (.invokevirtual 181, 3) := by decide +kernel
theorem dX11_step_127 : decode cX11_step 127 = .ok (.invokestatic 193, 3) := by decide +kernel
theorem dX11_step_130 : decode cX11_step 130 = .ok (.ifCond .eq 16, 3) := by decide +kernel
theorem dX11_step_133 : decode cX11_step 133 = .ok (.aload_n 0, 1) := by decide +kernel
theorem dX11_step_134 : decode cX11_step 134 = .ok (.dup, 1) := by decide +kernel
theorem dX11_step_135 : decode cX11_step 135 = .ok (.getfield 178, 3) := by decide +kernel
theorem dX11_step_138 : decode cX11_step 138 = .ok (.iconst 1, 1) := by decide +kernel
theorem dX11_step_139 : decode cX11_step 139 = .ok (.iadd, 1) := by decide +kernel
theorem dX11_step_140 : decode cX11_step 140 = .ok (.putfield 178, 3) := by decide +kernel
theorem dX11_step_143 : decode cX11_step 143 = .ok (.goto (-24), 3) := by decide +kernel
theorem dX11_step_146 : decode cX11_step 146 = .ok (.aload_n 0, 1) := by decide +kernel
theorem dX11_step_147 : decode cX11_step 147 = .ok (.aload_n 0, 1) := by decide +kernel
theorem dX11_step_148 : decode cX11_step 148 = .ok (.getfield 178, 3) := by decide +kernel
theorem dX11_step_151 : decode cX11_step 151 = .ok (.aload_n 0, 1) := by decide +kernel
theorem dX11_step_152 : decode cX11_step 152 = .ok (.getfield 184, 3) := by decide +kernel
theorem dX11_step_155 : decode cX11_step 155 = .ok (.isub, 1) := by decide +kernel
theorem dX11_step_156 : decode cX11_step 156 = .ok (.iconst 4, 1) := by decide +kernel
theorem dX11_step_157 : decode cX11_step 157 = .ok (.if_icmp .le 7, 3) := by decide +kernel
theorem dX11_step_160 : decode cX11_step 160 = .ok (.iconst 0, 1) := by decide +kernel
theorem dX11_step_161 : decode cX11_step 161 = .ok (.goto 4, 3) := by decide +kernel
theorem dX11_step_164 : decode cX11_step 164 = .ok (.iconst 3, 1) := by decide +kernel
theorem dX11_step_165 : decode cX11_step 165 = .ok (.putfield 187, 3) := by decide +kernel
theorem dX11_step_168 : decode cX11_step 168 = .ok (.goto 28, 3) := by decide +kernel
theorem dX11_step_171 : decode cX11_step 171 = .ok (.aload_n 0, 1) := by decide +kernel
theorem dX11_step_172 : decode cX11_step 172 = .ok (.dup, 1) := by decide +kernel
theorem dX11_step_173 : decode cX11_step 173 = .ok (.getfield 178, 3) := by decide +kernel
theorem dX11_step_176 : decode cX11_step 176 = .ok (.iconst 1, 1) := by decide +kernel
theorem dX11_step_177 : decode cX11_step 177 = .ok (.iadd, 1) := by decide +kernel
theorem dX11_step_178 : decode cX11_step 178 = .ok (.putfield 178, 3) := by decide +kernel
theorem dX11_step_181 : decode cX11_step 181 = .ok (.aload_n 0, 1) := by decide +kernel
theorem dX11_step_182 : decode cX11_step 182 = .ok (.iload_n 1, 1) := by decide +kernel
theorem dX11_step_183 : decode cX11_step 183 = .ok (.bipush 59, 2) := by decide +kernel
theorem dX11_step_185 : decode cX11_step 185 = .ok (.if_icmp .ne 7, 3) := by decide +kernel
theorem dX11_step_188 : decode cX11_step 188 = .ok (.iconst 4, 1) := by decide +kernel
theorem dX11_step_189 : decode cX11_step 189 = .ok (.goto 4, 3) := by decide +kernel
theorem dX11_step_192 : decode cX11_step 192 = .ok (.iconst 0, 1) := by decide +kernel
theorem dX11_step_193 : decode cX11_step 193 = .ok (.putfield 187, 3) := by decide +kernel
theorem dX11_step_196 : decode cX11_step 196 = .ok (.aload_n 0, 1) := by decide +kernel
theorem dX11_step_197 : decode cX11_step 197 = .ok (.aload_n 0, 1) := by decide +kernel
theorem dX11_step_198 : decode cX11_step 198 = .ok (.getfield 178, 3) := by decide +kernel
theorem dX11_step_201 : decode cX11_step 201 = .ok (.putfield 196, 3) := by decide +kernel
theorem dX11_step_204 : decode cX11_step 204 = .ok (.return_, 1) := by decide +kernel
theorem dX11_bad_0 : decode cX11_bad 0 = .ok (.aload_n 0, 1) := by decide +kernel
theorem dX11_bad_1 : decode cX11_bad 1 = .ok (.getfield 199, 3) := by decide +kernel
theorem dX11_bad_4 : decode cX11_bad 4 = .ok (.ifCond .ne 16, 3) := by decide +kernel
theorem dX11_bad_7 : decode cX11_bad 7 = .ok (.aload_n 0, 1) := by decide +kernel
theorem dX11_bad_8 : decode cX11_bad 8 = .ok (.iload_n 1, 1) := by decide +kernel
theorem dX11_bad_9 : decode cX11_bad 9 = .ok (.putfield 199, 3) := by decide +kernel
theorem dX11_bad_12 : decode cX11_bad 12 = .ok (.aload_n 0, 1) := by decide +kernel
theorem dX11_bad_13 : decode cX11_bad 13 = .ok (.aload_n 0, 1) := by decide +kernel
theorem dX11_bad_14 : decode cX11_bad 14 = .ok (.getfield 184, 3) := by decide +kernel
theorem dX11_bad_17 : decode cX11_bad 17 = .ok (.putfield 202, 3) := by decide +kernel
theorem dX11_bad_20 : decode cX11_bad 20 = .ok (.return_, 1) := by decide +kernel
theorem dX11_must_0 : decode cX11_must 0 = .ok (.iload_n 1, 1) := by decide +kernel
theorem dX11_must_1 : decode cX11_must 1 = .ok (.ifCond .ne 8, 3) := by decide +kernel
theorem dX11_must_4 : decode cX11_must 4 = .ok (.aload_n 0, 1) := by decide +kernel
theorem dX11_must_5 : decode cX11_must 5 = .ok (.iconst 1, 1) := by decide +kernel
theorem dX11_must_6 : decode cX11_must 6 = .ok (.invokevirtual 205, 3) := by decide +kernel
theorem dX11_must_9 : decode cX11_must 9 = .ok (.aload_n 0, 1) := by decide +kernel
theorem dX11_must_10 : decode cX11_must 10 = .ok (.getfield 199, 3) := by decide +kernel
theorem dX11_must_13 : decode cX11_must 13 = .ok (.ifCond .ne 7, 3) := by decide +kernel
theorem dX11_must_16 : decode cX11_must 16 = .ok (.aload_n 0, 1) := by decide +kernel
theorem dX11_must_17 : decode cX11_must 17 = .ok (.invokevirtual 209, 3) := by decide +kernel
theorem dX11_must_20 : decode cX11_must 20 = .ok (.return_, 1) := by decide +kernel
theorem dX11_word_0 : decode cX11_word 0 = .ok (.lconst 0, 1) := by decide +kernel
theorem dX11_word_1 : decode cX11_word 1 = .ok (.lstore_n 1, 1) := by decide +kernel
theorem dX11_word_2 : decode cX11_word 2 = .ok (.aload_n 0, 1) := by decide +kernel
theorem dX11_word_3 : decode cX11_word 3 = .ok (.getfield 184, 3) := by decide +kernel
theorem dX11_word_6 : decode cX11_word 6 = .ok (.istore_n 3, 1) := by decide +kernel
theorem dX11_word_7 : decode cX11_word 7 = .ok (.iload_n 3, 1) := by decide +kernel
theorem dX11_word_8 : decode cX11_word 8 = .ok (.aload_n 0, 1) := by decide +kernel
theorem dX11_word_9 : decode cX11_word 9 = .ok (.getfield 196, 3) := by decide +kernel
theorem dX11_word_12 : decode cX11_word 12 = .ok (.if_icmp .ge 44, 3) := by decide +kernel
theorem dX11_word_15 : decode cX11_word 15 = .ok (.aload_n 0, 1) := by decide +kernel
theorem dX11_word_16 : decode cX11_word 16 = .ok (.getfield 187, 3) := by decide +kernel
theorem dX11_word_19 : decode cX11_word 19 = .ok (.iconst 2, 1) := by decide +kernel
theorem dX11_word_20 : decode cX11_word 20 = .ok (.if_icmp .ne 36, 3) := by decide +kernel
theorem dX11_word_23 : decode cX11_word 23 = .ok (.aload_n 0, 1) := by decide +kernel
theorem dX11_word_24 : decode cX11_word 24 = .ok (.getfield 196, 3) := by decide +kernel
theorem dX11_word_27 : decode cX11_word 27 = .ok (.aload_n 0, 1) := by decide +kernel
theorem dX11_word_28 : decode cX11_word 28 = .ok (.getfield 184, 3) := by decide +kernel
theorem dX11_word_31 : decode cX11_word 31 = .ok (.isub, 1) := by decide +kernel
theorem dX11_word_32 : decode cX11_word 32 = .ok (.bipush 8, 2) := by decide +kernel
theorem dX11_word_34 : decode cX11_word 34 = .ok (.if_icmp .ge 22, 3) := by decide +kernel
theorem dX11_word_37 : decode cX11_word 37 = .ok (.lload_n 1, 1) := by decide +kernel
theorem dX11_word_38 : decode cX11_word 38 = .ok (.bipush 8, 2) := by decide +kernel
theorem dX11_word_40 : decode cX11_word 40 = .ok (.lshl, 1) := by decide +kernel
theorem dX11_word_41 : decode cX11_word 41 = .ok (.aload_n 0, 1) := by decide +kernel
theorem dX11_word_42 : decode cX11_word 42 = .ok (.getfield 53, 3) := by decide +kernel
theorem dX11_word_45 : decode cX11_word 45 = .ok (.iload_n 3, 1) := by decide +kernel
theorem dX11_word_46 : decode cX11_word 46 = .ok (.iaload, 1) := by decide +kernel
theorem dX11_word_47 : decode cX11_word 47 = .ok (.i2l, 1) := by decide +kernel
theorem dX11_word_48 : decode cX11_word 48 = .ok (.lor, 1) := by decide +kernel
theorem dX11_word_49 : decode cX11_word 49 = .ok (.lstore_n 1, 1) := by decide +kernel
theorem dX11_word_50 : decode cX11_word 50 = .ok (.iinc 3 1, 3) := by decide +kernel
theorem dX11_word_53 : decode cX11_word 53 = .ok (.goto (-46), 3) := by decide +kernel
theorem dX11_word_56 : decode cX11_word 56 = .ok (.lload_n 1, 1) := by decide +kernel
theorem dX11_word_57 : decode cX11_word 57 = .ok (.lreturn, 1) := by decide +kernel
theorem dX11_numberTo_0 : decode cX11_numberTo 0 = .ok (.aload_n 0, 1) := by decide +kernel
theorem dX11_numberTo_1 : decode cX11_numberTo 1 = .ok (.getfield 199, 3) := by decide +kernel
theorem dX11_numberTo_4 : decode cX11_numberTo 4 = .ok (.ifCond .le 5, 3) := by decide +kernel
theorem dX11_numberTo_7 : decode cX11_numberTo 7 = .ok (.iconst 0, 1) := by decide +kernel
theorem dX11_numberTo_8 : decode cX11_numberTo 8 = .ok (.ireturn, 1) := by decide +kernel
theorem dX11_numberTo_9 : decode cX11_numberTo 9 = .ok (.iconst 0, 1) := by decide +kernel
theorem dX11_numberTo_10 : decode cX11_numberTo 10 = .ok (.istore_n 2, 1) := by decide +kernel
theorem dX11_numberTo_11 : decode cX11_numberTo 11 = .ok (.aload_n 0, 1) := by decide +kernel
theorem dX11_numberTo_12 : decode cX11_numberTo 12 = .ok (.getfield 184, 3) := by decide +kernel
theorem dX11_numberTo_15 : decode cX11_numberTo 15 = .ok (.istore_n 3, 1) := by decide +kernel
theorem dX11_numberTo_16 : decode cX11_numberTo 16 = .ok (.iload_n 3, 1) := by decide +kernel
theorem dX11_numberTo_17 : decode cX11_numberTo 17 = .ok (.aload_n 0, 1) := by decide +kernel
theorem dX11_numberTo_18 : decode cX11_numberTo 18 = .ok (.getfield 196, 3) := by decide +kernel
theorem dX11_numberTo_21 : decode cX11_numberTo 21 = .ok (.if_icmp .ge 32, 3) := by decide +kernel
theorem dX11_numberTo_24 : decode cX11_numberTo 24 = .ok (.aload_n 0, 1) := by decide +kernel
theorem dX11_numberTo_25 : decode cX11_numberTo 25 = .ok (.getfield 187, 3) := by decide +kernel
theorem dX11_numberTo_28 : decode cX11_numberTo 28 = .ok (.iconst 3, 1) := by decide +kernel
theorem dX11_numberTo_29 : decode cX11_numberTo 29 = .ok (.if_icmp .ne 24, 3) := by decide +kernel
theorem dX11_numberTo_32 : decode cX11_numberTo 32 = .ok (.bipush 10, 2) := by decide +kernel
theorem dX11_numberTo_34 : decode cX11_numberTo 34 = .ok (.iload_n 2, 1) := by decide +kernel
theorem dX11_numberTo_35 : decode cX11_numberTo 35 = .ok (.imul, 1) := by decide +kernel
theorem dX11_numberTo_36 : decode cX11_numberTo 36 = .ok (.aload_n 0, 1) := by decide +kernel
theorem dX11_numberTo_37 : decode cX11_numberTo 37 = .ok (.getfield 53, 3) := by decide +kernel
theorem dX11_numberTo_40 : decode cX11_numberTo 40 = .ok (.iload_n 3, 1) := by decide +kernel
theorem dX11_numberTo_41 : decode cX11_numberTo 41 = .ok (.iaload, 1) := by decide +kernel
theorem dX11_numberTo_42 : decode cX11_numberTo 42 = .ok (.iadd, 1) := by decide +kernel
theorem dX11_numberTo_43 : decode cX11_numberTo 43 = .ok (.bipush 48, 2) := by decide +kernel
theorem dX11_numberTo_45 : decode cX11_numberTo 45 = .ok (.isub, 1) := by decide +kernel
theorem dX11_numberTo_46 : decode cX11_numberTo 46 = .ok (.istore_n 2, 1) := by decide +kernel
theorem dX11_numberTo_47 : decode cX11_numberTo 47 = .ok (.iinc 3 1, 3) := by decide +kernel
theorem dX11_numberTo_50 : decode cX11_numberTo 50 = .ok (.goto (-34), 3) := by decide +kernel
theorem dX11_numberTo_53 : decode cX11_numberTo 53 = .ok (.aload_n 0, 1) := by decide +kernel
theorem dX11_numberTo_54 : decode cX11_numberTo 54 = .ok (.getfield 187, 3) := by decide +kernel
theorem dX11_numberTo_57 : decode cX11_numberTo 57 = .ok (.iconst 3, 1) := by decide +kernel
theorem dX11_numberTo_58 : decode cX11_numberTo 58 = .ok (.if_icmp .ne 13, 3) := by decide +kernel
theorem dX11_numberTo_61 : decode cX11_numberTo 61 = .ok (.iload_n 2, 1) := by decide +kernel
theorem dX11_numberTo_62 : decode cX11_numberTo 62 = .ok (.iload_n 1, 1) := by decide +kernel
theorem dX11_numberTo_63 : decode cX11_numberTo 63 = .ok (.if_icmp .le 8, 3) := by decide +kernel
theorem dX11_numberTo_66 : decode cX11_numberTo 66 = .ok (.aload_n 0, 1) := by decide +kernel
theorem dX11_numberTo_67 : decode cX11_numberTo 67 = .ok (.iconst 2, 1) := by decide +kernel
theorem dX11_numberTo_68 : decode cX11_numberTo 68 = .ok (.invokevirtual 205, 3) := by decide +kernel
theorem dX11_numberTo_71 : decode cX11_numberTo 71 = .ok (.aload_n 0, 1) := by decide +kernel
theorem dX11_numberTo_72 : decode cX11_numberTo 72 = .ok (.aload_n 0, 1) := by decide +kernel
theorem dX11_numberTo_73 : decode cX11_numberTo 73 = .ok (.getfield 187, 3) := by decide +kernel
theorem dX11_numberTo_76 : decode cX11_numberTo 76 = .ok (.iconst 3, 1) := by decide +kernel
theorem dX11_numberTo_77 : decode cX11_numberTo 77 = .ok (.if_icmp .ne 7, 3) := by decide +kernel
theorem dX11_numberTo_80 : decode cX11_numberTo 80 = .ok (.iconst 1, 1) := by decide +kernel
theorem dX11_numberTo_81 : decode cX11_numberTo 81 = .ok (.goto 4, 3) := by decide +kernel
theorem dX11_numberTo_84 : decode cX11_numberTo 84 = .ok (.iconst 0, 1) := by decide +kernel
theorem dX11_numberTo_85 : decode cX11_numberTo 85 = .ok (.invokevirtual 212, 3) := by decide +kernel
theorem dX11_numberTo_88 : decode cX11_numberTo 88 = .ok (.iload_n 2, 1) := by decide +kernel
theorem dX11_numberTo_89 : decode cX11_numberTo 89 = .ok (.ireturn, 1) := by decide +kernel
theorem dX11_entryOfWord_0 : decode cX11_entryOfWord 0 = .ok (.aload_n 0, 1) := by decide +kernel
theorem dX11_entryOfWord_1 : decode cX11_entryOfWord 1 = .ok (.invokevirtual 216, 3) := by decide +kernel
theorem dX11_entryOfWord_4 : decode cX11_entryOfWord 4 = .ok (.lstore_n 1, 1) := by decide +kernel
theorem dX11_entryOfWord_5 : decode cX11_entryOfWord 5 = .ok (.lload_n 1, 1) := by decide +kernel
theorem dX11_entryOfWord_6 : decode cX11_entryOfWord 6 = .ok (.ldc2_w 220, 3) := by decide +kernel
theorem dX11_entryOfWord_9 : decode cX11_entryOfWord 9 = .ok (.lcmp, 1) := by decide +kernel
theorem dX11_entryOfWord_10 : decode cX11_entryOfWord 10 = .ok (.ifCond .ne 7, 3) := by decide +kernel
theorem dX11_entryOfWord_13 : decode cX11_entryOfWord 13 = .ok (.iconst 0, 1) := by decide +kernel
theorem dX11_entryOfWord_14 : decode cX11_entryOfWord 14 = .ok (.goto 29, 3) := by decide +kernel
theorem dX11_entryOfWord_17 : decode cX11_entryOfWord 17 = .ok (.lload_n 1, 1) := by decide +kernel
theorem dX11_entryOfWord_18 : decode cX11_entryOfWord 18 = .ok (.ldc2_w 222, 3) := by decide +kernel
theorem dX11_entryOfWord_21 : decode cX11_entryOfWord 21 = .ok (.lcmp, 1) := by decide +kernel
theorem dX11_entryOfWord_22 : decode cX11_entryOfWord 22 = .ok (.ifCond .ne 7, 3) := by decide +kernel
theorem dX11_entryOfWord_25 : decode cX11_entryOfWord 25 = .ok (.iconst 1, 1) := by decide +kernel
theorem dX11_entryOfWord_26 : decode cX11_entryOfWord 26 = .ok (.goto 17, 3) := by decide +kernel
theorem dX11_entryOfWord_29 : decode cX11_entryOfWord 29 = .ok (.lload_n 1, 1) := by decide +kernel
theorem dX11_entryOfWord_30 : decode cX11_entryOfWord 30 = .ok (.ldc2_w 224, 3) := by decide +kernel
theorem dX11_entryOfWord_33 : decode cX11_entryOfWord 33 = .ok (.lcmp, 1) := by decide +kernel
theorem dX11_entryOfWord_34 : decode cX11_entryOfWord 34 = .ok (.ifCond .ne 7, 3) := by decide +kernel
theorem dX11_entryOfWord_37 : decode cX11_entryOfWord 37 = .ok (.iconst 2, 1) := by decide +kernel
theorem dX11_entryOfWord_38 : decode cX11_entryOfWord 38 = .ok (.goto 5, 3) := by decide +kernel
theorem dX11_entryOfWord_41 : decode cX11_entryOfWord 41 = .ok (.ldc 145, 2) := by decide +kernel
theorem dX11_entryOfWord_43 : decode cX11_entryOfWord 43 = .ok (.ireturn, 1) := by decide +kernel
theorem dX11_readEntry_0 : decode cX11_readEntry 0 = .ok (.aload_n 0, 1) := by decide +kernel
theorem dX11_readEntry_1 : decode cX11_readEntry 1 = .ok (.invokevirtual 226, 3) := by decide +kernel
theorem dX11_readEntry_4 : decode cX11_readEntry 4 = .ok (.istore_n 2, 1) := by decide +kernel
theorem dX11_readEntry_5 : decode cX11_readEntry 5 = .ok (.iload_n 2, 1) := by decide +kernel
