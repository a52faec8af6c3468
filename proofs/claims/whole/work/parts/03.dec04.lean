theorem dX6_line_148 : decode cX6_line 148 = .ok (.getfield 47, 3) := by decide +kernel
theorem dX6_line_151 : decode cX6_line 151 = .ok (.iconst 3, 1) := by decide +kernel
theorem dX6_line_152 : decode cX6_line 152 = .ok (.aload_n 0, 1) := by decide +kernel
theorem dX6_line_153 : decode cX6_line 153 = .ok (.getfield 269, 3) := by decide +kernel
theorem dX6_line_156 : decode cX6_line 156 = .ok (.imul, 1) := by decide +kernel
theorem dX6_line_157 : decode cX6_line 157 = .ok (.iconst 1, 1) := by decide +kernel
theorem dX6_line_158 : decode cX6_line 158 = .ok (.iadd, 1) := by decide +kernel
theorem dX6_line_159 : decode cX6_line 159 = .ok (.iaload, 1) := by decide +kernel
theorem dX6_line_160 : decode cX6_line 160 = .ok (.bipush 9, 2) := by decide +kernel
theorem dX6_line_162 : decode cX6_line 162 = .ok (.invokevirtual 252, 3) := by decide +kernel
theorem dX6_line_165 : decode cX6_line 165 = .ok (.iastore, 1) := by decide +kernel
theorem dX6_line_166 : decode cX6_line 166 = .ok (.aload_n 0, 1) := by decide +kernel
theorem dX6_line_167 : decode cX6_line 167 = .ok (.invokevirtual 188, 3) := by decide +kernel
theorem dX6_line_170 : decode cX6_line 170 = .ok (.ifCond .ne 4, 3) := by decide +kernel
theorem dX6_line_173 : decode cX6_line 173 = .ok (.return_, 1) := by decide +kernel
theorem dX6_line_174 : decode cX6_line 174 = .ok (.aload_n 0, 1) := by decide +kernel
theorem dX6_line_175 : decode cX6_line 175 = .ok (.dup, 1) := by decide +kernel
theorem dX6_line_176 : decode cX6_line 176 = .ok (.getfield 272, 3) := by decide +kernel
theorem dX6_line_179 : decode cX6_line 179 = .ok (.lconst 1, 1) := by decide +kernel
theorem dX6_line_180 : decode cX6_line 180 = .ok (.iload_n 2, 1) := by decide +kernel
theorem dX6_line_181 : decode cX6_line 181 = .ok (.lshl, 1) := by decide +kernel
theorem dX6_line_182 : decode cX6_line 182 = .ok (.lor, 1) := by decide +kernel
theorem dX6_line_183 : decode cX6_line 183 = .ok (.putfield 272, 3) := by decide +kernel
theorem dX6_line_186 : decode cX6_line 186 = .ok (.aload_n 0, 1) := by decide +kernel
theorem dX6_line_187 : decode cX6_line 187 = .ok (.dup, 1) := by decide +kernel
theorem dX6_line_188 : decode cX6_line 188 = .ok (.getfield 269, 3) := by decide +kernel
theorem dX6_line_191 : decode cX6_line 191 = .ok (.iconst 1, 1) := by decide +kernel
theorem dX6_line_192 : decode cX6_line 192 = .ok (.iadd, 1) := by decide +kernel
theorem dX6_line_193 : decode cX6_line 193 = .ok (.putfield 269, 3) := by decide +kernel
theorem dX6_line_196 : decode cX6_line 196 = .ok (.goto 202, 3) := by decide +kernel
theorem dX6_line_199 : decode cX6_line 199 = .ok (.iload_n 1, 1) := by decide +kernel
theorem dX6_line_200 : decode cX6_line 200 = .ok (.bipush 7, 2) := by decide +kernel
theorem dX6_line_202 : decode cX6_line 202 = .ok (.if_icmp .lt 117, 3) := by decide +kernel
theorem dX6_line_205 : decode cX6_line 205 = .ok (.iload_n 1, 1) := by decide +kernel
theorem dX6_line_206 : decode cX6_line 206 = .ok (.bipush 9, 2) := by decide +kernel
theorem dX6_line_208 : decode cX6_line 208 = .ok (.if_icmp .gt 111, 3) := by decide +kernel
theorem dX6_line_211 : decode cX6_line 211 = .ok (.aload_n 0, 1) := by decide +kernel
theorem dX6_line_212 : decode cX6_line 212 = .ok (.getfield 275, 3) := by decide +kernel
theorem dX6_line_215 : decode cX6_line 215 = .ok (.bipush 6, 2) := by decide +kernel
theorem dX6_line_217 : decode cX6_line 217 = .ok (.if_icmp .ne 8, 3) := by decide +kernel
theorem dX6_line_220 : decode cX6_line 220 = .ok (.aload_n 0, 1) := by decide +kernel
theorem dX6_line_221 : decode cX6_line 221 = .ok (.iconst 2, 1) := by decide +kernel
theorem dX6_line_222 : decode cX6_line 222 = .ok (.invokevirtual 195, 3) := by decide +kernel
theorem dX6_line_225 : decode cX6_line 225 = .ok (.aload_n 0, 1) := by decide +kernel
theorem dX6_line_226 : decode cX6_line 226 = .ok (.invokevirtual 188, 3) := by decide +kernel
theorem dX6_line_229 : decode cX6_line 229 = .ok (.ifCond .ne 4, 3) := by decide +kernel
theorem dX6_line_232 : decode cX6_line 232 = .ok (.return_, 1) := by decide +kernel
theorem dX6_line_233 : decode cX6_line 233 = .ok (.aload_n 0, 1) := by decide +kernel
theorem dX6_line_234 : decode cX6_line 234 = .ok (.invokevirtual 192, 3) := by decide +kernel
theorem dX6_line_237 : decode cX6_line 237 = .ok (.aload_n 0, 1) := by decide +kernel
theorem dX6_line_238 : decode cX6_line 238 = .ok (.aload_n 0, 1) := by decide +kernel
theorem dX6_line_239 : decode cX6_line 239 = .ok (.getfield 272, 3) := by decide +kernel
theorem dX6_line_242 : decode cX6_line 242 = .ok (.invokevirtual 265, 3) := by decide +kernel
theorem dX6_line_245 : decode cX6_line 245 = .ok (.istore_n 2, 1) := by decide +kernel
theorem dX6_line_246 : decode cX6_line 246 = .ok (.aload_n 0, 1) := by decide +kernel
theorem dX6_line_247 : decode cX6_line 247 = .ok (.getfield 50, 3) := by decide +kernel
theorem dX6_line_250 : decode cX6_line 250 = .ok (.aload_n 0, 1) := by decide +kernel
theorem dX6_line_251 : decode cX6_line 251 = .ok (.getfield 275, 3) := by decide +kernel
theorem dX6_line_254 : decode cX6_line 254 = .ok (.iload_n 2, 1) := by decide +kernel
theorem dX6_line_255 : decode cX6_line 255 = .ok (.iastore, 1) := by decide +kernel
theorem dX6_line_256 : decode cX6_line 256 = .ok (.aload_n 0, 1) := by decide +kernel
theorem dX6_line_257 : decode cX6_line 257 = .ok (.getfield 53, 3) := by decide +kernel
theorem dX6_line_260 : decode cX6_line 260 = .ok (.aload_n 0, 1) := by decide +kernel
theorem dX6_line_261 : decode cX6_line 261 = .ok (.getfield 275, 3) := by decide +kernel
theorem dX6_line_264 : decode cX6_line 264 = .ok (.iload_n 1, 1) := by decide +kernel
theorem dX6_line_265 : decode cX6_line 265 = .ok (.bipush 7, 2) := by decide +kernel
theorem dX6_line_267 : decode cX6_line 267 = .ok (.isub, 1) := by decide +kernel
theorem dX6_line_268 : decode cX6_line 268 = .ok (.iastore, 1) := by decide +kernel
theorem dX6_line_269 : decode cX6_line 269 = .ok (.aload_n 0, 1) := by decide +kernel
theorem dX6_line_270 : decode cX6_line 270 = .ok (.getfield 56, 3) := by decide +kernel
theorem dX6_line_273 : decode cX6_line 273 = .ok (.aload_n 0, 1) := by decide +kernel
theorem dX6_line_274 : decode cX6_line 274 = .ok (.getfield 275, 3) := by decide +kernel
theorem dX6_line_277 : decode cX6_line 277 = .ok (.aload_n 0, 1) := by decide +kernel
theorem dX6_line_278 : decode cX6_line 278 = .ok (.iconst 0, 1) := by decide +kernel
theorem dX6_line_279 : decode cX6_line 279 = .ok (.sipush 999, 3) := by decide +kernel
theorem dX6_line_282 : decode cX6_line 282 = .ok (.invokevirtual 252, 3) := by decide +kernel
theorem dX6_line_285 : decode cX6_line 285 = .ok (.iastore, 1) := by decide +kernel
theorem dX6_line_286 : decode cX6_line 286 = .ok (.aload_n 0, 1) := by decide +kernel
theorem dX6_line_287 : decode cX6_line 287 = .ok (.invokevirtual 188, 3) := by decide +kernel
theorem dX6_line_290 : decode cX6_line 290 = .ok (.ifCond .ne 4, 3) := by decide +kernel
theorem dX6_line_293 : decode cX6_line 293 = .ok (.return_, 1) := by decide +kernel
theorem dX6_line_294 : decode cX6_line 294 = .ok (.aload_n 0, 1) := by decide +kernel
theorem dX6_line_295 : decode cX6_line 295 = .ok (.dup, 1) := by decide +kernel
theorem dX6_line_296 : decode cX6_line 296 = .ok (.getfield 272, 3) := by decide +kernel
theorem dX6_line_299 : decode cX6_line 299 = .ok (.lconst 1, 1) := by decide +kernel
theorem dX6_line_300 : decode cX6_line 300 = .ok (.iload_n 2, 1) := by decide +kernel
theorem dX6_line_301 : decode cX6_line 301 = .ok (.lshl, 1) := by decide +kernel
theorem dX6_line_302 : decode cX6_line 302 = .ok (.lor, 1) := by decide +kernel
theorem dX6_line_303 : decode cX6_line 303 = .ok (.putfield 272, 3) := by decide +kernel
theorem dX6_line_306 : decode cX6_line 306 = .ok (.aload_n 0, 1) := by decide +kernel
theorem dX6_line_307 : decode cX6_line 307 = .ok (.dup, 1) := by decide +kernel
theorem dX6_line_308 : decode cX6_line 308 = .ok (.getfield 275, 3) := by decide +kernel
theorem dX6_line_311 : decode cX6_line 311 = .ok (.iconst 1, 1) := by decide +kernel
theorem dX6_line_312 : decode cX6_line 312 = .ok (.iadd, 1) := by decide +kernel
theorem dX6_line_313 : decode cX6_line 313 = .ok (.putfield 275, 3) := by decide +kernel
theorem dX6_line_316 : decode cX6_line 316 = .ok (.goto 82, 3) := by decide +kernel
theorem dX6_line_319 : decode cX6_line 319 = .ok (.iload_n 1, 1) := by decide +kernel
theorem dX6_line_320 : decode cX6_line 320 = .ok (.bipush 12, 2) := by decide +kernel
theorem dX6_line_322 : decode cX6_line 322 = .ok (.if_icmp .ne 10, 3) := by decide +kernel
theorem dX6_line_325 : decode cX6_line 325 = .ok (.aload_n 0, 1) := by decide +kernel
theorem dX6_line_326 : decode cX6_line 326 = .ok (.invokevirtual 278, 3) := by decide +kernel
theorem dX6_line_329 : decode cX6_line 329 = .ok (.goto 69, 3) := by decide +kernel
theorem dX6_line_332 : decode cX6_line 332 = .ok (.iload_n 1, 1) := by decide +kernel
theorem dX6_line_333 : decode cX6_line 333 = .ok (.bipush 13, 2) := by decide +kernel
theorem dX6_line_335 : decode cX6_line 335 = .ok (.if_icmp .ne 58, 3) := by decide +kernel
theorem dX6_line_338 : decode cX6_line 338 = .ok (.aload_n 0, 1) := by decide +kernel
theorem dX6_line_339 : decode cX6_line 339 = .ok (.getfield 281, 3) := by decide +kernel
theorem dX6_line_342 : decode cX6_line 342 = .ok (.iconst 4, 1) := by decide +kernel
theorem dX6_line_343 : decode cX6_line 343 = .ok (.if_icmp .ne 8, 3) := by decide +kernel
theorem dX6_line_346 : decode cX6_line 346 = .ok (.aload_n 0, 1) := by decide +kernel
theorem dX6_line_347 : decode cX6_line 347 = .ok (.iconst 2, 1) := by decide +kernel
theorem dX6_line_348 : decode cX6_line 348 = .ok (.invokevirtual 195, 3) := by decide +kernel
theorem dX6_line_351 : decode cX6_line 351 = .ok (.aload_n 0, 1) := by decide +kernel
theorem dX6_line_352 : decode cX6_line 352 = .ok (.invokevirtual 188, 3) := by decide +kernel
theorem dX6_line_355 : decode cX6_line 355 = .ok (.ifCond .ne 4, 3) := by decide +kernel
theorem dX6_line_358 : decode cX6_line 358 = .ok (.return_, 1) := by decide +kernel
theorem dX6_line_359 : decode cX6_line 359 = .ok (.aload_n 0, 1) := by decide +kernel
theorem dX6_line_360 : decode cX6_line 360 = .ok (.invokevirtual 192, 3) := by decide +kernel
theorem dX6_line_363 : decode cX6_line 363 = .ok (.aload_n 0, 1) := by decide +kernel
theorem dX6_line_364 : decode cX6_line 364 = .ok (.getfield 62, 3) := by decide +kernel
theorem dX6_line_367 : decode cX6_line 367 = .ok (.aload_n 0, 1) := by decide +kernel
theorem dX6_line_368 : decode cX6_line 368 = .ok (.getfield 281, 3) := by decide +kernel
theorem dX6_line_371 : decode cX6_line 371 = .ok (.aload_n 0, 1) := by decide +kernel
theorem dX6_line_372 : decode cX6_line 372 = .ok (.getfield 202, 3) := by decide +kernel
theorem dX6_line_375 : decode cX6_line 375 = .ok (.iastore, 1) := by decide +kernel
theorem dX6_line_376 : decode cX6_line 376 = .ok (.aload_n 0, 1) := by decide +kernel
theorem dX6_line_377 : decode cX6_line 377 = .ok (.dup, 1) := by decide +kernel
theorem dX6_line_378 : decode cX6_line 378 = .ok (.getfield 281, 3) := by decide +kernel
theorem dX6_line_381 : decode cX6_line 381 = .ok (.iconst 1, 1) := by decide +kernel
theorem dX6_line_382 : decode cX6_line 382 = .ok (.iadd, 1) := by decide +kernel
theorem dX6_line_383 : decode cX6_line 383 = .ok (.putfield 281, 3) := by decide +kernel
theorem dX6_line_386 : decode cX6_line 386 = .ok (.aload_n 0, 1) := by decide +kernel
theorem dX6_line_387 : decode cX6_line 387 = .ok (.invokevirtual 284, 3) := by decide +kernel
theorem dX6_line_390 : decode cX6_line 390 = .ok (.goto 8, 3) := by decide +kernel
theorem dX6_line_393 : decode cX6_line 393 = .ok (.aload_n 0, 1) := by decide +kernel
theorem dX6_line_394 : decode cX6_line 394 = .ok (.iconst 1, 1) := by decide +kernel
theorem dX6_line_395 : decode cX6_line 395 = .ok (.invokevirtual 195, 3) := by decide +kernel
theorem dX6_line_398 : decode cX6_line 398 = .ok (.aload_n 0, 1) := by decide +kernel
theorem dX6_line_399 : decode cX6_line 399 = .ok (.aload_n 0, 1) := by decide +kernel
theorem dX6_line_400 : decode cX6_line 400 = .ok (.bipush 59, 2) := by decide +kernel
theorem dX6_line_402 : decode cX6_line 402 = .ok (.invokevirtual 224, 3) := by decide +kernel
theorem dX6_line_405 : decode cX6_line 405 = .ok (.invokevirtual 287, 3) := by decide +kernel
theorem dX6_line_408 : decode cX6_line 408 = .ok (.return_, 1) := by decide +kernel
theorem dX6_duchy_0 : decode cX6_duchy 0 = .ok (.aload_n 0, 1) := by decide +kernel
theorem dX6_duchy_1 : decode cX6_duchy 1 = .ok (.iconst 0, 1) := by decide +kernel
theorem dX6_duchy_2 : decode cX6_duchy 2 = .ok (.putfield 129, 3) := by decide +kernel
theorem dX6_duchy_5 : decode cX6_duchy 5 = .ok (.aload_n 0, 1) := by decide +kernel
theorem dX6_duchy_6 : decode cX6_duchy 6 = .ok (.iload_n 1, 1) := by decide +kernel
theorem dX6_duchy_7 : decode cX6_duchy 7 = .ok (.ifCond .lt 15, 3) := by decide +kernel
theorem dX6_duchy_10 : decode cX6_duchy 10 = .ok (.iload_n 1, 1) := by decide +kernel
theorem dX6_duchy_11 : decode cX6_duchy 11 = .ok (.aload_n 0, 1) := by decide +kernel
theorem dX6_duchy_12 : decode cX6_duchy 12 = .ok (.getfield 132, 3) := by decide +kernel
theorem dX6_duchy_15 : decode cX6_duchy 15 = .ok (.if_icmp .gt 7, 3) := by decide +kernel
theorem dX6_duchy_18 : decode cX6_duchy 18 = .ok (.iconst 1, 1) := by decide +kernel
theorem dX6_duchy_19 : decode cX6_duchy 19 = .ok (.goto 4, 3) := by decide +kernel
theorem dX6_duchy_22 : decode cX6_duchy 22 = .ok (.iconst 0, 1) := by decide +kernel
theorem dX6_duchy_23 : decode cX6_duchy 23 = .ok (.iconst 1, 1) := by decide +kernel
theorem dX6_duchy_24 : decode cX6_duchy 24 = .ok (.invokevirtual 290, 3) := by decide +kernel
theorem dX6_duchy_27 : decode cX6_duchy 27 = .ok (.ifCond .ne 5, 3) := by decide +kernel
theorem dX6_duchy_30 : decode cX6_duchy 30 = .ok (.iconst 0, 1) := by decide +kernel
theorem dX6_duchy_31 : decode cX6_duchy 31 = .ok (.ireturn, 1) := by decide +kernel
theorem dX6_duchy_32 : decode cX6_duchy 32 = .ok (.aload_n 0, 1) := by decide +kernel
theorem dX6_duchy_33 : decode cX6_duchy 33 = .ok (.iconst 0, 1) := by decide +kernel
theorem dX6_duchy_34 : decode cX6_duchy 34 = .ok (.putfield 132, 3) := by decide +kernel
theorem dX6_duchy_37 : decode cX6_duchy 37 = .ok (.aload_n 0, 1) := by decide +kernel
theorem dX6_duchy_38 : decode cX6_duchy 38 = .ok (.iconst (-1), 1) := by decide +kernel
theorem dX6_duchy_39 : decode cX6_duchy 39 = .ok (.putfield 38, 3) := by decide +kernel
theorem dX6_duchy_42 : decode cX6_duchy 42 = .ok (.aload_n 0, 1) := by decide +kernel
theorem dX6_duchy_43 : decode cX6_duchy 43 = .ok (.iconst 0, 1) := by decide +kernel
theorem dX6_duchy_44 : decode cX6_duchy 44 = .ok (.putfield 185, 3) := by decide +kernel
theorem dX6_duchy_47 : decode cX6_duchy 47 = .ok (.aload_n 0, 1) := by decide +kernel
theorem dX6_duchy_48 : decode cX6_duchy 48 = .ok (.iload_n 1, 1) := by decide +kernel
theorem dX6_duchy_49 : decode cX6_duchy 49 = .ok (.putfield 139, 3) := by decide +kernel
theorem dX6_duchy_52 : decode cX6_duchy 52 = .ok (.aload_n 0, 1) := by decide +kernel
theorem dX6_duchy_53 : decode cX6_duchy 53 = .ok (.iconst 0, 1) := by decide +kernel
theorem dX6_duchy_54 : decode cX6_duchy 54 = .ok (.putfield 142, 3) := by decide +kernel
theorem dX6_duchy_57 : decode cX6_duchy 57 = .ok (.aload_n 0, 1) := by decide +kernel
theorem dX6_duchy_58 : decode cX6_duchy 58 = .ok (.bipush 8, 2) := by decide +kernel
theorem dX6_duchy_60 : decode cX6_duchy 60 = .ok (.putfield 249, 3) := by decide +kernel
theorem dX6_duchy_63 : decode cX6_duchy 63 = .ok (.aload_n 0, 1) := by decide +kernel
theorem dX6_duchy_64 : decode cX6_duchy 64 = .ok (.bipush 8, 2) := by decide +kernel
theorem dX6_duchy_66 : decode cX6_duchy 66 = .ok (.putfield 256, 3) := by decide +kernel
theorem dX6_duchy_69 : decode cX6_duchy 69 = .ok (.aload_n 0, 1) := by decide +kernel
theorem dX6_duchy_70 : decode cX6_duchy 70 = .ok (.iconst 0, 1) := by decide +kernel
theorem dX6_duchy_71 : decode cX6_duchy 71 = .ok (.putfield 269, 3) := by decide +kernel
theorem dX6_duchy_74 : decode cX6_duchy 74 = .ok (.aload_n 0, 1) := by decide +kernel
theorem dX6_duchy_75 : decode cX6_duchy 75 = .ok (.iconst 0, 1) := by decide +kernel
theorem dX6_duchy_76 : decode cX6_duchy 76 = .ok (.putfield 275, 3) := by decide +kernel
theorem dX6_duchy_79 : decode cX6_duchy 79 = .ok (.aload_n 0, 1) := by decide +kernel
theorem dX6_duchy_80 : decode cX6_duchy 80 = .ok (.iconst 0, 1) := by decide +kernel
theorem dX6_duchy_81 : decode cX6_duchy 81 = .ok (.putfield 281, 3) := by decide +kernel
theorem dX6_duchy_84 : decode cX6_duchy 84 = .ok (.aload_n 0, 1) := by decide +kernel
theorem dX6_duchy_85 : decode cX6_duchy 85 = .ok (.iconst 0, 1) := by decide +kernel
theorem dX6_duchy_86 : decode cX6_duchy 86 = .ok (.putfield 259, 3) := by decide +kernel
theorem dX6_duchy_89 : decode cX6_duchy 89 = .ok (.aload_n 0, 1) := by decide +kernel
theorem dX6_duchy_90 : decode cX6_duchy 90 = .ok (.lconst 0, 1) := by decide +kernel
theorem dX6_duchy_91 : decode cX6_duchy 91 = .ok (.putfield 262, 3) := by decide +kernel
theorem dX6_duchy_94 : decode cX6_duchy 94 = .ok (.aload_n 0, 1) := by decide +kernel
theorem dX6_duchy_95 : decode cX6_duchy 95 = .ok (.lconst 0, 1) := by decide +kernel
theorem dX6_duchy_96 : decode cX6_duchy 96 = .ok (.putfield 272, 3) := by decide +kernel
theorem dX6_duchy_99 : decode cX6_duchy 99 = .ok (.aload_n 0, 1) := by decide +kernel
theorem dX6_duchy_100 : decode cX6_duchy 100 = .ok (.iconst 0, 1) := by decide +kernel
theorem dX6_duchy_101 : decode cX6_duchy 101 = .ok (.putfield 202, 3) := by decide +kernel
theorem dX6_duchy_104 : decode cX6_duchy 104 = .ok (.iconst 0, 1) := by decide +kernel
theorem dX6_duchy_105 : decode cX6_duchy 105 = .ok (.istore_n 2, 1) := by decide +kernel
theorem dX6_duchy_106 : decode cX6_duchy 106 = .ok (.iload_n 2, 1) := by decide +kernel
theorem dX6_duchy_107 : decode cX6_duchy 107 = .ok (.bipush 64, 2) := by decide +kernel
theorem dX6_duchy_109 : decode cX6_duchy 109 = .ok (.if_icmp .ge 16, 3) := by decide +kernel
theorem dX6_duchy_112 : decode cX6_duchy 112 = .ok (.aload_n 0, 1) := by decide +kernel
theorem dX6_duchy_113 : decode cX6_duchy 113 = .ok (.getfield 44, 3) := by decide +kernel
theorem dX6_duchy_116 : decode cX6_duchy 116 = .ok (.iload_n 2, 1) := by decide +kernel
theorem dX6_duchy_117 : decode cX6_duchy 117 = .ok (.iconst 0, 1) := by decide +kernel
theorem dX6_duchy_118 : decode cX6_duchy 118 = .ok (.iastore, 1) := by decide +kernel
theorem dX6_duchy_119 : decode cX6_duchy 119 = .ok (.iinc 2 1, 3) := by decide +kernel
theorem dX6_duchy_122 : decode cX6_duchy 122 = .ok (.goto (-16), 3) := by decide +kernel
theorem dX6_duchy_125 : decode cX6_duchy 125 = .ok (.aload_n 0, 1) := by decide +kernel
theorem dX6_duchy_126 : decode cX6_duchy 126 = .ok (.invokevirtual 192, 3) := by decide +kernel
theorem dX6_duchy_129 : decode cX6_duchy 129 = .ok (.aload_n 0, 1) := by decide +kernel
theorem dX6_duchy_130 : decode cX6_duchy 130 = .ok (.invokevirtual 217, 3) := by decide +kernel
theorem dX6_duchy_133 : decode cX6_duchy 133 = .ok (.bipush 10, 2) := by decide +kernel
theorem dX6_duchy_135 : decode cX6_duchy 135 = .ok (.if_icmp .ne 39, 3) := by decide +kernel
theorem dX6_duchy_138 : decode cX6_duchy 138 = .ok (.aload_n 0, 1) := by decide +kernel
theorem dX6_duchy_139 : decode cX6_duchy 139 = .ok (.invokevirtual 192, 3) := by decide +kernel
theorem dX6_duchy_142 : decode cX6_duchy 142 = .ok (.aload_n 0, 1) := by decide +kernel
theorem dX6_duchy_143 : decode cX6_duchy 143 = .ok (.aload_n 0, 1) := by decide +kernel
theorem dX6_duchy_144 : decode cX6_duchy 144 = .ok (.iconst 1, 1) := by decide +kernel
theorem dX6_duchy_145 : decode cX6_duchy 145 = .ok (.bipush 8, 2) := by decide +kernel
theorem dX6_duchy_147 : decode cX6_duchy 147 = .ok (.invokevirtual 252, 3) := by decide +kernel
theorem dX6_duchy_150 : decode cX6_duchy 150 = .ok (.putfield 249, 3) := by decide +kernel
theorem dX6_duchy_153 : decode cX6_duchy 153 = .ok (.aload_n 0, 1) := by decide +kernel
theorem dX6_duchy_154 : decode cX6_duchy 154 = .ok (.aload_n 0, 1) := by decide +kernel
theorem dX6_duchy_155 : decode cX6_duchy 155 = .ok (.iconst 1, 1) := by decide +kernel
theorem dX6_duchy_156 : decode cX6_duchy 156 = .ok (.bipush 8, 2) := by decide +kernel
theorem dX6_duchy_158 : decode cX6_duchy 158 = .ok (.invokevirtual 252, 3) := by decide +kernel
theorem dX6_duchy_161 : decode cX6_duchy 161 = .ok (.putfield 256, 3) := by decide +kernel
theorem dX6_duchy_164 : decode cX6_duchy 164 = .ok (.aload_n 0, 1) := by decide +kernel
theorem dX6_duchy_165 : decode cX6_duchy 165 = .ok (.aload_n 0, 1) := by decide +kernel
theorem dX6_duchy_166 : decode cX6_duchy 166 = .ok (.bipush 59, 2) := by decide +kernel
theorem dX6_duchy_168 : decode cX6_duchy 168 = .ok (.invokevirtual 224, 3) := by decide +kernel
theorem dX6_duchy_171 : decode cX6_duchy 171 = .ok (.invokevirtual 287, 3) := by decide +kernel
theorem dX6_duchy_174 : decode cX6_duchy 174 = .ok (.aload_n 0, 1) := by decide +kernel
theorem dX6_duchy_175 : decode cX6_duchy 175 = .ok (.invokevirtual 188, 3) := by decide +kernel
theorem dX6_duchy_178 : decode cX6_duchy 178 = .ok (.ifCond .eq 17, 3) := by decide +kernel
theorem dX6_duchy_181 : decode cX6_duchy 181 = .ok (.aload_n 0, 1) := by decide +kernel
theorem dX6_duchy_182 : decode cX6_duchy 182 = .ok (.getfield 162, 3) := by decide +kernel
theorem dX6_duchy_185 : decode cX6_duchy 185 = .ok (.ifCond .eq 10, 3) := by decide +kernel
theorem dX6_duchy_188 : decode cX6_duchy 188 = .ok (.aload_n 0, 1) := by decide +kernel
theorem dX6_duchy_189 : decode cX6_duchy 189 = .ok (.invokevirtual 294, 3) := by decide +kernel
theorem dX6_duchy_192 : decode cX6_duchy 192 = .ok (.goto (-18), 3) := by decide +kernel
theorem dX6_duchy_195 : decode cX6_duchy 195 = .ok (.aload_n 0, 1) := by decide +kernel
theorem dX6_duchy_196 : decode cX6_duchy 196 = .ok (.invokevirtual 188, 3) := by decide +kernel
theorem dX6_duchy_199 : decode cX6_duchy 199 = .ok (.ifCond .ne 18, 3) := by decide +kernel
theorem dX6_duchy_202 : decode cX6_duchy 202 = .ok (.aload_n 0, 1) := by decide +kernel
theorem dX6_duchy_203 : decode cX6_duchy 203 = .ok (.getfield 41, 3) := by decide +kernel
theorem dX6_duchy_206 : decode cX6_duchy 206 = .ok (.iconst 0, 1) := by decide +kernel
theorem dX6_duchy_207 : decode cX6_duchy 207 = .ok (.dup2, 1) := by decide +kernel
theorem dX6_duchy_208 : decode cX6_duchy 208 = .ok (.iaload, 1) := by decide +kernel
theorem dX6_duchy_209 : decode cX6_duchy 209 = .ok (.iconst 1, 1) := by decide +kernel
theorem dX6_duchy_210 : decode cX6_duchy 210 = .ok (.iadd, 1) := by decide +kernel
theorem dX6_duchy_211 : decode cX6_duchy 211 = .ok (.iastore, 1) := by decide +kernel
theorem dX6_duchy_212 : decode cX6_duchy 212 = .ok (.aload_n 0, 1) := by decide +kernel
theorem dX6_duchy_213 : decode cX6_duchy 213 = .ok (.getfield 185, 3) := by decide +kernel
theorem dX6_duchy_216 : decode cX6_duchy 216 = .ok (.ireturn, 1) := by decide +kernel
theorem dX6_duchy_217 : decode cX6_duchy 217 = .ok (.aload_n 0, 1) := by decide +kernel
theorem dX6_duchy_218 : decode cX6_duchy 218 = .ok (.aload_n 0, 1) := by decide +kernel
theorem dX6_duchy_219 : decode cX6_duchy 219 = .ok (.getfield 249, 3) := by decide +kernel
theorem dX6_duchy_222 : decode cX6_duchy 222 = .ok (.putfield 7, 3) := by decide +kernel
theorem dX6_duchy_225 : decode cX6_duchy 225 = .ok (.aload_n 0, 1) := by decide +kernel
theorem dX6_duchy_226 : decode cX6_duchy 226 = .ok (.aload_n 0, 1) := by decide +kernel
theorem dX6_duchy_227 : decode cX6_duchy 227 = .ok (.getfield 256, 3) := by decide +kernel
theorem dX6_duchy_230 : decode cX6_duchy 230 = .ok (.putfield 13, 3) := by decide +kernel
theorem dX6_duchy_233 : decode cX6_duchy 233 = .ok (.aload_n 0, 1) := by decide +kernel
theorem dX6_duchy_234 : decode cX6_duchy 234 = .ok (.aload_n 0, 1) := by decide +kernel
theorem dX6_duchy_235 : decode cX6_duchy 235 = .ok (.getfield 275, 3) := by decide +kernel
theorem dX6_duchy_238 : decode cX6_duchy 238 = .ok (.putfield 297, 3) := by decide +kernel
theorem dX6_duchy_241 : decode cX6_duchy 241 = .ok (.aload_n 0, 1) := by decide +kernel
theorem dX6_duchy_242 : decode cX6_duchy 242 = .ok (.aload_n 0, 1) := by decide +kernel
theorem dX6_duchy_243 : decode cX6_duchy 243 = .ok (.getfield 281, 3) := by decide +kernel
theorem dX6_duchy_246 : decode cX6_duchy 246 = .ok (.putfield 300, 3) := by decide +kernel
theorem dX6_duchy_249 : decode cX6_duchy 249 = .ok (.aload_n 0, 1) := by decide +kernel
theorem dX6_duchy_250 : decode cX6_duchy 250 = .ok (.aload_n 0, 1) := by decide +kernel
theorem dX6_duchy_251 : decode cX6_duchy 251 = .ok (.getfield 259, 3) := by decide +kernel
theorem dX6_duchy_254 : decode cX6_duchy 254 = .ok (.putfield 303, 3) := by decide +kernel
theorem dX6_duchy_257 : decode cX6_duchy 257 = .ok (.aload_n 0, 1) := by decide +kernel
theorem dX6_duchy_258 : decode cX6_duchy 258 = .ok (.aload_n 0, 1) := by decide +kernel
theorem dX6_duchy_259 : decode cX6_duchy 259 = .ok (.getfield 44, 3) := by decide +kernel
theorem dX6_duchy_262 : decode cX6_duchy 262 = .ok (.aload_n 0, 1) := by decide +kernel
theorem dX6_duchy_263 : decode cX6_duchy 263 = .ok (.getfield 16, 3) := by decide +kernel
theorem dX6_duchy_266 : decode cX6_duchy 266 = .ok (.invokevirtual 306, 3) := by decide +kernel
theorem dX6_duchy_269 : decode cX6_duchy 269 = .ok (.iconst 0, 1) := by decide +kernel
theorem dX6_duchy_270 : decode cX6_duchy 270 = .ok (.istore_n 2, 1) := by decide +kernel
theorem dX6_duchy_271 : decode cX6_duchy 271 = .ok (.iload_n 2, 1) := by decide +kernel
theorem dX6_duchy_272 : decode cX6_duchy 272 = .ok (.bipush 6, 2) := by decide +kernel
theorem dX6_duchy_274 : decode cX6_duchy 274 = .ok (.if_icmp .ge 78, 3) := by decide +kernel
theorem dX6_duchy_277 : decode cX6_duchy 277 = .ok (.aload_n 0, 1) := by decide +kernel
theorem dX6_duchy_278 : decode cX6_duchy 278 = .ok (.getfield 20, 3) := by decide +kernel
theorem dX6_duchy_281 : decode cX6_duchy 281 = .ok (.iload_n 2, 1) := by decide +kernel
theorem dX6_duchy_282 : decode cX6_duchy 282 = .ok (.aload_n 0, 1) := by decide +kernel
theorem dX6_duchy_283 : decode cX6_duchy 283 = .ok (.getfield 50, 3) := by decide +kernel
theorem dX6_duchy_286 : decode cX6_duchy 286 = .ok (.iload_n 2, 1) := by decide +kernel
theorem dX6_duchy_287 : decode cX6_duchy 287 = .ok (.iaload, 1) := by decide +kernel
theorem dX6_duchy_288 : decode cX6_duchy 288 = .ok (.iastore, 1) := by decide +kernel
theorem dX6_duchy_289 : decode cX6_duchy 289 = .ok (.aload_n 0, 1) := by decide +kernel
theorem dX6_duchy_290 : decode cX6_duchy 290 = .ok (.getfield 23, 3) := by decide +kernel
theorem dX6_duchy_293 : decode cX6_duchy 293 = .ok (.iload_n 2, 1) := by decide +kernel
theorem dX6_duchy_294 : decode cX6_duchy 294 = .ok (.aload_n 0, 1) := by decide +kernel
theorem dX6_duchy_295 : decode cX6_duchy 295 = .ok (.getfield 53, 3) := by decide +kernel
theorem dX6_duchy_298 : decode cX6_duchy 298 = .ok (.iload_n 2, 1) := by decide +kernel
theorem dX6_duchy_299 : decode cX6_duchy 299 = .ok (.iaload, 1) := by decide +kernel
theorem dX6_duchy_300 : decode cX6_duchy 300 = .ok (.iastore, 1) := by decide +kernel
theorem dX6_duchy_301 : decode cX6_duchy 301 = .ok (.aload_n 0, 1) := by decide +kernel
theorem dX6_duchy_302 : decode cX6_duchy 302 = .ok (.getfield 75, 3) := by decide +kernel
theorem dX6_duchy_305 : decode cX6_duchy 305 = .ok (.bipush 36, 2) := by decide +kernel
theorem dX6_duchy_307 : decode cX6_duchy 307 = .ok (.iload_n 2, 1) := by decide +kernel
theorem dX6_duchy_308 : decode cX6_duchy 308 = .ok (.iadd, 1) := by decide +kernel
theorem dX6_duchy_309 : decode cX6_duchy 309 = .ok (.aload_n 0, 1) := by decide +kernel
theorem dX6_duchy_310 : decode cX6_duchy 310 = .ok (.getfield 56, 3) := by decide +kernel
theorem dX6_duchy_313 : decode cX6_duchy 313 = .ok (.iload_n 2, 1) := by decide +kernel
theorem dX6_duchy_314 : decode cX6_duchy 314 = .ok (.iaload, 1) := by decide +kernel
theorem dX6_duchy_315 : decode cX6_duchy 315 = .ok (.iastore, 1) := by decide +kernel
theorem dX6_duchy_316 : decode cX6_duchy 316 = .ok (.aload_n 0, 1) := by decide +kernel
theorem dX6_duchy_317 : decode cX6_duchy 317 = .ok (.getfield 75, 3) := by decide +kernel
theorem dX6_duchy_320 : decode cX6_duchy 320 = .ok (.bipush 42, 2) := by decide +kernel
theorem dX6_duchy_322 : decode cX6_duchy 322 = .ok (.iload_n 2, 1) := by decide +kernel
theorem dX6_duchy_323 : decode cX6_duchy 323 = .ok (.iadd, 1) := by decide +kernel
theorem dX6_duchy_324 : decode cX6_duchy 324 = .ok (.iconst 0, 1) := by decide +kernel
theorem dX6_duchy_325 : decode cX6_duchy 325 = .ok (.iastore, 1) := by decide +kernel
theorem dX6_duchy_326 : decode cX6_duchy 326 = .ok (.aload_n 0, 1) := by decide +kernel
theorem dX6_duchy_327 : decode cX6_duchy 327 = .ok (.getfield 75, 3) := by decide +kernel
theorem dX6_duchy_330 : decode cX6_duchy 330 = .ok (.bipush 48, 2) := by decide +kernel
theorem dX6_duchy_332 : decode cX6_duchy 332 = .ok (.iload_n 2, 1) := by decide +kernel
theorem dX6_duchy_333 : decode cX6_duchy 333 = .ok (.iadd, 1) := by decide +kernel
theorem dX6_duchy_334 : decode cX6_duchy 334 = .ok (.iconst 0, 1) := by decide +kernel
theorem dX6_duchy_335 : decode cX6_duchy 335 = .ok (.iastore, 1) := by decide +kernel
theorem dX6_duchy_336 : decode cX6_duchy 336 = .ok (.aload_n 0, 1) := by decide +kernel
theorem dX6_duchy_337 : decode cX6_duchy 337 = .ok (.getfield 75, 3) := by decide +kernel
theorem dX6_duchy_340 : decode cX6_duchy 340 = .ok (.bipush 54, 2) := by decide +kernel
theorem dX6_duchy_342 : decode cX6_duchy 342 = .ok (.iload_n 2, 1) := by decide +kernel
theorem dX6_duchy_343 : decode cX6_duchy 343 = .ok (.iadd, 1) := by decide +kernel
theorem dX6_duchy_344 : decode cX6_duchy 344 = .ok (.iconst 0, 1) := by decide +kernel
theorem dX6_duchy_345 : decode cX6_duchy 345 = .ok (.iastore, 1) := by decide +kernel
theorem dX6_duchy_346 : decode cX6_duchy 346 = .ok (.iinc 2 1, 3) := by decide +kernel
theorem dX6_duchy_349 : decode cX6_duchy 349 = .ok (.goto (-78), 3) := by decide +kernel
theorem dX6_duchy_352 : decode cX6_duchy 352 = .ok (.aload_n 0, 1) := by decide +kernel
theorem dX6_duchy_353 : decode cX6_duchy 353 = .ok (.aload_n 0, 1) := by decide +kernel
theorem dX6_duchy_354 : decode cX6_duchy 354 = .ok (.getfield 59, 3) := by decide +kernel
theorem dX6_duchy_357 : decode cX6_duchy 357 = .ok (.aload_n 0, 1) := by decide +kernel
theorem dX6_duchy_358 : decode cX6_duchy 358 = .ok (.getfield 26, 3) := by decide +kernel
theorem dX6_duchy_361 : decode cX6_duchy 361 = .ok (.invokevirtual 306, 3) := by decide +kernel
theorem dX6_duchy_364 : decode cX6_duchy 364 = .ok (.aload_n 0, 1) := by decide +kernel
theorem dX6_duchy_365 : decode cX6_duchy 365 = .ok (.aload_n 0, 1) := by decide +kernel
theorem dX6_duchy_366 : decode cX6_duchy 366 = .ok (.getfield 62, 3) := by decide +kernel
theorem dX6_duchy_369 : decode cX6_duchy 369 = .ok (.aload_n 0, 1) := by decide +kernel
theorem dX6_duchy_370 : decode cX6_duchy 370 = .ok (.getfield 29, 3) := by decide +kernel
theorem dX6_duchy_373 : decode cX6_duchy 373 = .ok (.invokevirtual 306, 3) := by decide +kernel
theorem dX6_duchy_376 : decode cX6_duchy 376 = .ok (.aload_n 0, 1) := by decide +kernel
theorem dX6_duchy_377 : decode cX6_duchy 377 = .ok (.aload_n 0, 1) := by decide +kernel
theorem dX6_duchy_378 : decode cX6_duchy 378 = .ok (.getfield 65, 3) := by decide +kernel
theorem dX6_duchy_381 : decode cX6_duchy 381 = .ok (.aload_n 0, 1) := by decide +kernel
theorem dX6_duchy_382 : decode cX6_duchy 382 = .ok (.getfield 32, 3) := by decide +kernel
theorem dX6_duchy_385 : decode cX6_duchy 385 = .ok (.invokevirtual 306, 3) := by decide +kernel
theorem dX6_duchy_388 : decode cX6_duchy 388 = .ok (.iconst 0, 1) := by decide +kernel
theorem dX6_duchy_389 : decode cX6_duchy 389 = .ok (.istore_n 2, 1) := by decide +kernel
theorem dX6_duchy_390 : decode cX6_duchy 390 = .ok (.iload_n 2, 1) := by decide +kernel
theorem dX6_duchy_391 : decode cX6_duchy 391 = .ok (.bipush 12, 2) := by decide +kernel
theorem dX6_duchy_393 : decode cX6_duchy 393 = .ok (.if_icmp .ge 75, 3) := by decide +kernel
theorem dX6_duchy_396 : decode cX6_duchy 396 = .ok (.aload_n 0, 1) := by decide +kernel
theorem dX6_duchy_397 : decode cX6_duchy 397 = .ok (.getfield 75, 3) := by decide +kernel
theorem dX6_duchy_400 : decode cX6_duchy 400 = .ok (.iconst 0, 1) := by decide +kernel
theorem dX6_duchy_401 : decode cX6_duchy 401 = .ok (.iload_n 2, 1) := by decide +kernel
theorem dX6_duchy_402 : decode cX6_duchy 402 = .ok (.iadd, 1) := by decide +kernel
theorem dX6_duchy_403 : decode cX6_duchy 403 = .ok (.iload_n 2, 1) := by decide +kernel
theorem dX6_duchy_404 : decode cX6_duchy 404 = .ok (.aload_n 0, 1) := by decide +kernel
theorem dX6_duchy_405 : decode cX6_duchy 405 = .ok (.getfield 269, 3) := by decide +kernel
theorem dX6_duchy_408 : decode cX6_duchy 408 = .ok (.if_icmp .ge 14, 3) := by decide +kernel
theorem dX6_duchy_411 : decode cX6_duchy 411 = .ok (.aload_n 0, 1) := by decide +kernel
theorem dX6_duchy_412 : decode cX6_duchy 412 = .ok (.getfield 47, 3) := by decide +kernel
theorem dX6_duchy_415 : decode cX6_duchy 415 = .ok (.iconst 3, 1) := by decide +kernel
theorem dX6_duchy_416 : decode cX6_duchy 416 = .ok (.iload_n 2, 1) := by decide +kernel
theorem dX6_duchy_417 : decode cX6_duchy 417 = .ok (.imul, 1) := by decide +kernel
theorem dX6_duchy_418 : decode cX6_duchy 418 = .ok (.iaload, 1) := by decide +kernel
theorem dX6_duchy_419 : decode cX6_duchy 419 = .ok (.goto 4, 3) := by decide +kernel
theorem dX6_duchy_422 : decode cX6_duchy 422 = .ok (.iconst (-1), 1) := by decide +kernel
theorem dX6_duchy_423 : decode cX6_duchy 423 = .ok (.iastore, 1) := by decide +kernel
theorem dX6_duchy_424 : decode cX6_duchy 424 = .ok (.aload_n 0, 1) := by decide +kernel
theorem dX6_duchy_425 : decode cX6_duchy 425 = .ok (.getfield 75, 3) := by decide +kernel
theorem dX6_duchy_428 : decode cX6_duchy 428 = .ok (.bipush 12, 2) := by decide +kernel
theorem dX6_duchy_430 : decode cX6_duchy 430 = .ok (.iload_n 2, 1) := by decide +kernel
theorem dX6_duchy_431 : decode cX6_duchy 431 = .ok (.iadd, 1) := by decide +kernel
theorem dX6_duchy_432 : decode cX6_duchy 432 = .ok (.aload_n 0, 1) := by decide +kernel
theorem dX6_duchy_433 : decode cX6_duchy 433 = .ok (.getfield 47, 3) := by decide +kernel
theorem dX6_duchy_436 : decode cX6_duchy 436 = .ok (.iconst 3, 1) := by decide +kernel
theorem dX6_duchy_437 : decode cX6_duchy 437 = .ok (.iload_n 2, 1) := by decide +kernel
theorem dX6_duchy_438 : decode cX6_duchy 438 = .ok (.imul, 1) := by decide +kernel
theorem dX6_duchy_439 : decode cX6_duchy 439 = .ok (.iconst 1, 1) := by decide +kernel
theorem dX6_duchy_440 : decode cX6_duchy 440 = .ok (.iadd, 1) := by decide +kernel
theorem dX6_duchy_441 : decode cX6_duchy 441 = .ok (.iaload, 1) := by decide +kernel
theorem dX6_duchy_442 : decode cX6_duchy 442 = .ok (.iastore, 1) := by decide +kernel
theorem dX6_duchy_443 : decode cX6_duchy 443 = .ok (.aload_n 0, 1) := by decide +kernel
theorem dX6_duchy_444 : decode cX6_duchy 444 = .ok (.getfield 75, 3) := by decide +kernel
theorem dX6_duchy_447 : decode cX6_duchy 447 = .ok (.bipush 24, 2) := by decide +kernel
theorem dX6_duchy_449 : decode cX6_duchy 449 = .ok (.iload_n 2, 1) := by decide +kernel
theorem dX6_duchy_450 : decode cX6_duchy 450 = .ok (.iadd, 1) := by decide +kernel
theorem dX6_duchy_451 : decode cX6_duchy 451 = .ok (.aload_n 0, 1) := by decide +kernel
theorem dX6_duchy_452 : decode cX6_duchy 452 = .ok (.getfield 47, 3) := by decide +kernel
theorem dX6_duchy_455 : decode cX6_duchy 455 = .ok (.iconst 3, 1) := by decide +kernel
theorem dX6_duchy_456 : decode cX6_duchy 456 = .ok (.iload_n 2, 1) := by decide +kernel
theorem dX6_duchy_457 : decode cX6_duchy 457 = .ok (.imul, 1) := by decide +kernel
theorem dX6_duchy_458 : decode cX6_duchy 458 = .ok (.iconst 2, 1) := by decide +kernel
theorem dX6_duchy_459 : decode cX6_duchy 459 = .ok (.iadd, 1) := by decide +kernel
theorem dX6_duchy_460 : decode cX6_duchy 460 = .ok (.iaload, 1) := by decide +kernel
theorem dX6_duchy_461 : decode cX6_duchy 461 = .ok (.iastore, 1) := by decide +kernel
theorem dX6_duchy_462 : decode cX6_duchy 462 = .ok (.iinc 2 1, 3) := by decide +kernel
theorem dX6_duchy_465 : decode cX6_duchy 465 = .ok (.goto (-75), 3) := by decide +kernel
theorem dX6_duchy_468 : decode cX6_duchy 468 = .ok (.aload_n 0, 1) := by decide +kernel
theorem dX6_duchy_469 : decode cX6_duchy 469 = .ok (.getfield 75, 3) := by decide +kernel
theorem dX6_duchy_472 : decode cX6_duchy 472 = .ok (.bipush 60, 2) := by decide +kernel
theorem dX6_duchy_474 : decode cX6_duchy 474 = .ok (.aload_n 0, 1) := by decide +kernel
theorem dX6_duchy_475 : decode cX6_duchy 475 = .ok (.getfield 300, 3) := by decide +kernel
theorem dX6_duchy_478 : decode cX6_duchy 478 = .ok (.ifCond .le 7, 3) := by decide +kernel
theorem dX6_duchy_481 : decode cX6_duchy 481 = .ok (.iconst 0, 1) := by decide +kernel
theorem dX6_duchy_482 : decode cX6_duchy 482 = .ok (.goto 4, 3) := by decide +kernel
theorem dX6_duchy_485 : decode cX6_duchy 485 = .ok (.iconst (-1), 1) := by decide +kernel
theorem dX6_duchy_486 : decode cX6_duchy 486 = .ok (.iastore, 1) := by decide +kernel
theorem dX6_duchy_487 : decode cX6_duchy 487 = .ok (.aload_n 0, 1) := by decide +kernel
theorem dX6_duchy_488 : decode cX6_duchy 488 = .ok (.getfield 75, 3) := by decide +kernel
theorem dX6_duchy_491 : decode cX6_duchy 491 = .ok (.bipush 61, 2) := by decide +kernel
theorem dX6_duchy_493 : decode cX6_duchy 493 = .ok (.iconst 0, 1) := by decide +kernel
theorem dX6_duchy_494 : decode cX6_duchy 494 = .ok (.iastore, 1) := by decide +kernel
theorem dX6_duchy_495 : decode cX6_duchy 495 = .ok (.aload_n 0, 1) := by decide +kernel
theorem dX6_duchy_496 : decode cX6_duchy 496 = .ok (.iconst 0, 1) := by decide +kernel
theorem dX6_duchy_497 : decode cX6_duchy 497 = .ok (.putfield 310, 3) := by decide +kernel
theorem dX6_duchy_500 : decode cX6_duchy 500 = .ok (.aload_n 0, 1) := by decide +kernel
theorem dX6_duchy_501 : decode cX6_duchy 501 = .ok (.iconst 0, 1) := by decide +kernel
theorem dX6_duchy_502 : decode cX6_duchy 502 = .ok (.putfield 313, 3) := by decide +kernel
theorem dX6_duchy_505 : decode cX6_duchy 505 = .ok (.aload_n 0, 1) := by decide +kernel
theorem dX6_duchy_506 : decode cX6_duchy 506 = .ok (.iconst (-1), 1) := by decide +kernel
theorem dX6_duchy_507 : decode cX6_duchy 507 = .ok (.putfield 102, 3) := by decide +kernel
theorem dX6_duchy_510 : decode cX6_duchy 510 = .ok (.aload_n 0, 1) := by decide +kernel
theorem dX6_duchy_511 : decode cX6_duchy 511 = .ok (.iconst 0, 1) := by decide +kernel
theorem dX6_duchy_512 : decode cX6_duchy 512 = .ok (.putfield 316, 3) := by decide +kernel
theorem dX6_duchy_515 : decode cX6_duchy 515 = .ok (.aload_n 0, 1) := by decide +kernel
theorem dX6_duchy_516 : decode cX6_duchy 516 = .ok (.iconst 0, 1) := by decide +kernel
theorem dX6_duchy_517 : decode cX6_duchy 517 = .ok (.putfield 320, 3) := by decide +kernel
theorem dX6_duchy_520 : decode cX6_duchy 520 = .ok (.iconst 0, 1) := by decide +kernel
theorem dX6_duchy_521 : decode cX6_duchy 521 = .ok (.ireturn, 1) := by decide +kernel
theorem dX6_fault_0 : decode cX6_fault 0 = .ok (.aload_n 0, 1) := by decide +kernel
theorem dX6_fault_1 : decode cX6_fault 1 = .ok (.iconst 0, 1) := by decide +kernel
theorem dX6_fault_2 : decode cX6_fault 2 = .ok (.putfield 129, 3) := by decide +kernel
theorem dX6_fault_5 : decode cX6_fault 5 = .ok (.aload_n 0, 1) := by decide +kernel
theorem dX6_fault_6 : decode cX6_fault 6 = .ok (.getfield 38, 3) := by decide +kernel
theorem dX6_fault_9 : decode cX6_fault 9 = .ok (.ireturn, 1) := by decide +kernel
theorem dX6_keeps_0 : decode cX6_keeps 0 = .ok (.aload_n 0, 1) := by decide +kernel
theorem dX6_keeps_1 : decode cX6_keeps 1 = .ok (.getfield 310, 3) := by decide +kernel
theorem dX6_keeps_4 : decode cX6_keeps 4 = .ok (.bipush 40, 2) := by decide +kernel
theorem dX6_keeps_6 : decode cX6_keeps 6 = .ok (.if_icmp .ne 44, 3) := by decide +kernel
theorem dX6_keeps_9 : decode cX6_keeps 9 = .ok (.bipush 62, 2) := by decide +kernel
theorem dX6_keeps_11 : decode cX6_keeps 11 = .ok (.istore_n 1, 1) := by decide +kernel
theorem dX6_keeps_12 : decode cX6_keeps 12 = .ok (.iload_n 1, 1) := by decide +kernel
theorem dX6_keeps_13 : decode cX6_keeps 13 = .ok (.sipush 2480, 3) := by decide +kernel
theorem dX6_keeps_16 : decode cX6_keeps 16 = .ok (.if_icmp .ge 24, 3) := by decide +kernel
theorem dX6_keeps_19 : decode cX6_keeps 19 = .ok (.aload_n 0, 1) := by decide +kernel
theorem dX6_keeps_20 : decode cX6_keeps 20 = .ok (.getfield 81, 3) := by decide +kernel
theorem dX6_keeps_23 : decode cX6_keeps 23 = .ok (.iload_n 1, 1) := by decide +kernel
theorem dX6_keeps_24 : decode cX6_keeps 24 = .ok (.bipush 62, 2) := by decide +kernel
theorem dX6_keeps_26 : decode cX6_keeps 26 = .ok (.isub, 1) := by decide +kernel
theorem dX6_keeps_27 : decode cX6_keeps 27 = .ok (.aload_n 0, 1) := by decide +kernel
theorem dX6_keeps_28 : decode cX6_keeps 28 = .ok (.getfield 81, 3) := by decide +kernel
theorem dX6_keeps_31 : decode cX6_keeps 31 = .ok (.iload_n 1, 1) := by decide +kernel
theorem dX6_keeps_32 : decode cX6_keeps 32 = .ok (.iaload, 1) := by decide +kernel
theorem dX6_keeps_33 : decode cX6_keeps 33 = .ok (.iastore, 1) := by decide +kernel
theorem dX6_keeps_34 : decode cX6_keeps 34 = .ok (.iinc 1 1, 3) := by decide +kernel
theorem dX6_keeps_37 : decode cX6_keeps 37 = .ok (.goto (-25), 3) := by decide +kernel
theorem dX6_keeps_40 : decode cX6_keeps 40 = .ok (.aload_n 0, 1) := by decide +kernel
theorem dX6_keeps_41 : decode cX6_keeps 41 = .ok (.dup, 1) := by decide +kernel
theorem dX6_keeps_42 : decode cX6_keeps 42 = .ok (.getfield 310, 3) := by decide +kernel
theorem dX6_keeps_45 : decode cX6_keeps 45 = .ok (.iconst 1, 1) := by decide +kernel
theorem dX6_keeps_46 : decode cX6_keeps 46 = .ok (.isub, 1) := by decide +kernel
theorem dX6_keeps_47 : decode cX6_keeps 47 = .ok (.putfield 310, 3) := by decide +kernel
theorem dX6_keeps_50 : decode cX6_keeps 50 = .ok (.iconst 0, 1) := by decide +kernel
theorem dX6_keeps_51 : decode cX6_keeps 51 = .ok (.istore_n 1, 1) := by decide +kernel
theorem dX6_keeps_52 : decode cX6_keeps 52 = .ok (.iload_n 1, 1) := by decide +kernel
theorem dX6_keeps_53 : decode cX6_keeps 53 = .ok (.bipush 62, 2) := by decide +kernel
theorem dX6_keeps_55 : decode cX6_keeps 55 = .ok (.if_icmp .ge 29, 3) := by decide +kernel
theorem dX6_keeps_58 : decode cX6_keeps 58 = .ok (.aload_n 0, 1) := by decide +kernel
theorem dX6_keeps_59 : decode cX6_keeps 59 = .ok (.getfield 81, 3) := by decide +kernel
theorem dX6_keeps_62 : decode cX6_keeps 62 = .ok (.bipush 62, 2) := by decide +kernel
theorem dX6_keeps_64 : decode cX6_keeps 64 = .ok (.aload_n 0, 1) := by decide +kernel
theorem dX6_keeps_65 : decode cX6_keeps 65 = .ok (.getfield 310, 3) := by decide +kernel
theorem dX6_keeps_68 : decode cX6_keeps 68 = .ok (.imul, 1) := by decide +kernel
theorem dX6_keeps_69 : decode cX6_keeps 69 = .ok (.iload_n 1, 1) := by decide +kernel
theorem dX6_keeps_70 : decode cX6_keeps 70 = .ok (.iadd, 1) := by decide +kernel
theorem dX6_keeps_71 : decode cX6_keeps 71 = .ok (.aload_n 0, 1) := by decide +kernel
theorem dX6_keeps_72 : decode cX6_keeps 72 = .ok (.getfield 75, 3) := by decide +kernel
theorem dX6_keeps_75 : decode cX6_keeps 75 = .ok (.iload_n 1, 1) := by decide +kernel
theorem dX6_keeps_76 : decode cX6_keeps 76 = .ok (.iaload, 1) := by decide +kernel
theorem dX6_keeps_77 : decode cX6_keeps 77 = .ok (.iastore, 1) := by decide +kernel
theorem dX6_keeps_78 : decode cX6_keeps 78 = .ok (.iinc 1 1, 3) := by decide +kernel
theorem dX6_keeps_81 : decode cX6_keeps 81 = .ok (.goto (-29), 3) := by decide +kernel
theorem dX6_keeps_84 : decode cX6_keeps 84 = .ok (.aload_n 0, 1) := by decide +kernel
theorem dX6_keeps_85 : decode cX6_keeps 85 = .ok (.dup, 1) := by decide +kernel
theorem dX6_keeps_86 : decode cX6_keeps 86 = .ok (.getfield 310, 3) := by decide +kernel
theorem dX6_keeps_89 : decode cX6_keeps 89 = .ok (.iconst 1, 1) := by decide +kernel
theorem dX6_keeps_90 : decode cX6_keeps 90 = .ok (.iadd, 1) := by decide +kernel
theorem dX6_keeps_91 : decode cX6_keeps 91 = .ok (.putfield 310, 3) := by decide +kernel
theorem dX6_keeps_94 : decode cX6_keeps 94 = .ok (.return_, 1) := by decide +kernel
theorem dX6_refuses_0 : decode cX6_refuses 0 = .ok (.aload_n 0, 1) := by decide +kernel
theorem dX6_refuses_1 : decode cX6_refuses 1 = .ok (.getfield 41, 3) := by decide +kernel
theorem dX6_refuses_4 : decode cX6_refuses 4 = .ok (.iload_n 1, 1) := by decide +kernel
theorem dX6_refuses_5 : decode cX6_refuses 5 = .ok (.dup2, 1) := by decide +kernel
theorem dX6_refuses_6 : decode cX6_refuses 6 = .ok (.iaload, 1) := by decide +kernel
theorem dX6_refuses_7 : decode cX6_refuses 7 = .ok (.iconst 1, 1) := by decide +kernel
theorem dX6_refuses_8 : decode cX6_refuses 8 = .ok (.iadd, 1) := by decide +kernel
theorem dX6_refuses_9 : decode cX6_refuses 9 = .ok (.iastore, 1) := by decide +kernel
theorem dX6_refuses_10 : decode cX6_refuses 10 = .ok (.iload_n 2, 1) := by decide +kernel
theorem dX6_refuses_11 : decode cX6_refuses 11 = .ok (.ireturn, 1) := by decide +kernel
theorem dX6_undo_0 : decode cX6_undo 0 = .ok (.aload_n 0, 1) := by decide +kernel
theorem dX6_undo_1 : decode cX6_undo 1 = .ok (.iconst 0, 1) := by decide +kernel
theorem dX6_undo_2 : decode cX6_undo 2 = .ok (.putfield 129, 3) := by decide +kernel
theorem dX6_undo_5 : decode cX6_undo 5 = .ok (.aload_n 0, 1) := by decide +kernel
theorem dX6_undo_6 : decode cX6_undo 6 = .ok (.getfield 310, 3) := by decide +kernel
theorem dX6_undo_9 : decode cX6_undo 9 = .ok (.ifCond .ne 5, 3) := by decide +kernel
theorem dX6_undo_12 : decode cX6_undo 12 = .ok (.iconst (-1), 1) := by decide +kernel
theorem dX6_undo_13 : decode cX6_undo 13 = .ok (.ireturn, 1) := by decide +kernel
theorem dX6_undo_14 : decode cX6_undo 14 = .ok (.aload_n 0, 1) := by decide +kernel
theorem dX6_undo_15 : decode cX6_undo 15 = .ok (.dup, 1) := by decide +kernel
theorem dX6_undo_16 : decode cX6_undo 16 = .ok (.getfield 310, 3) := by decide +kernel
theorem dX6_undo_19 : decode cX6_undo 19 = .ok (.iconst 1, 1) := by decide +kernel
theorem dX6_undo_20 : decode cX6_undo 20 = .ok (.isub, 1) := by decide +kernel
theorem dX6_undo_21 : decode cX6_undo 21 = .ok (.putfield 310, 3) := by decide +kernel
theorem dX6_undo_24 : decode cX6_undo 24 = .ok (.iconst 0, 1) := by decide +kernel
theorem dX6_undo_25 : decode cX6_undo 25 = .ok (.istore_n 1, 1) := by decide +kernel
theorem dX6_undo_26 : decode cX6_undo 26 = .ok (.iload_n 1, 1) := by decide +kernel
theorem dX6_undo_27 : decode cX6_undo 27 = .ok (.bipush 62, 2) := by decide +kernel
theorem dX6_undo_29 : decode cX6_undo 29 = .ok (.if_icmp .ge 29, 3) := by decide +kernel
theorem dX6_undo_32 : decode cX6_undo 32 = .ok (.aload_n 0, 1) := by decide +kernel
theorem dX6_undo_33 : decode cX6_undo 33 = .ok (.getfield 75, 3) := by decide +kernel
theorem dX6_undo_36 : decode cX6_undo 36 = .ok (.iload_n 1, 1) := by decide +kernel
theorem dX6_undo_37 : decode cX6_undo 37 = .ok (.aload_n 0, 1) := by decide +kernel
theorem dX6_undo_38 : decode cX6_undo 38 = .ok (.getfield 81, 3) := by decide +kernel
theorem dX6_undo_41 : decode cX6_undo 41 = .ok (.bipush 62, 2) := by decide +kernel
theorem dX6_undo_43 : decode cX6_undo 43 = .ok (.aload_n 0, 1) := by decide +kernel
theorem dX6_undo_44 : decode cX6_undo 44 = .ok (.getfield 310, 3) := by decide +kernel
theorem dX6_undo_47 : decode cX6_undo 47 = .ok (.imul, 1) := by decide +kernel
theorem dX6_undo_48 : decode cX6_undo 48 = .ok (.iload_n 1, 1) := by decide +kernel
theorem dX6_undo_49 : decode cX6_undo 49 = .ok (.iadd, 1) := by decide +kernel
theorem dX6_undo_50 : decode cX6_undo 50 = .ok (.iaload, 1) := by decide +kernel
theorem dX6_undo_51 : decode cX6_undo 51 = .ok (.iastore, 1) := by decide +kernel
theorem dX6_undo_52 : decode cX6_undo 52 = .ok (.iinc 1 1, 3) := by decide +kernel
theorem dX6_undo_55 : decode cX6_undo 55 = .ok (.goto (-29), 3) := by decide +kernel
theorem dX6_undo_58 : decode cX6_undo 58 = .ok (.aload_n 0, 1) := by decide +kernel
theorem dX6_undo_59 : decode cX6_undo 59 = .ok (.getfield 310, 3) := by decide +kernel
theorem dX6_undo_62 : decode cX6_undo 62 = .ok (.ireturn, 1) := by decide +kernel
theorem dX6_cells_0 : decode cX6_cells 0 = .ok (.aload_n 0, 1) := by decide +kernel
theorem dX6_cells_1 : decode cX6_cells 1 = .ok (.getfield 7, 3) := by decide +kernel
theorem dX6_cells_4 : decode cX6_cells 4 = .ok (.aload_n 0, 1) := by decide +kernel
theorem dX6_cells_5 : decode cX6_cells 5 = .ok (.getfield 13, 3) := by decide +kernel
theorem dX6_cells_8 : decode cX6_cells 8 = .ok (.imul, 1) := by decide +kernel
theorem dX6_cells_9 : decode cX6_cells 9 = .ok (.ireturn, 1) := by decide +kernel
theorem dX6_treeIn_0 : decode cX6_treeIn 0 = .ok (.iconst 0, 1) := by decide +kernel
theorem dX6_treeIn_1 : decode cX6_treeIn 1 = .ok (.istore_n 2, 1) := by decide +kernel
theorem dX6_treeIn_2 : decode cX6_treeIn 2 = .ok (.iload_n 2, 1) := by decide +kernel
theorem dX6_treeIn_3 : decode cX6_treeIn 3 = .ok (.bipush 12, 2) := by decide +kernel
theorem dX6_treeIn_5 : decode cX6_treeIn 5 = .ok (.if_icmp .ge 23, 3) := by decide +kernel
theorem dX6_treeIn_8 : decode cX6_treeIn 8 = .ok (.aload_n 0, 1) := by decide +kernel
theorem dX6_treeIn_9 : decode cX6_treeIn 9 = .ok (.getfield 75, 3) := by decide +kernel
theorem dX6_treeIn_12 : decode cX6_treeIn 12 = .ok (.iconst 0, 1) := by decide +kernel
theorem dX6_treeIn_13 : decode cX6_treeIn 13 = .ok (.iload_n 2, 1) := by decide +kernel
theorem dX6_treeIn_14 : decode cX6_treeIn 14 = .ok (.iadd, 1) := by decide +kernel
theorem dX6_treeIn_15 : decode cX6_treeIn 15 = .ok (.iaload, 1) := by decide +kernel
theorem dX6_treeIn_16 : decode cX6_treeIn 16 = .ok (.iload_n 1, 1) := by decide +kernel
theorem dX6_treeIn_17 : decode cX6_treeIn 17 = .ok (.if_icmp .ne 5, 3) := by decide +kernel
theorem dX6_treeIn_20 : decode cX6_treeIn 20 = .ok (.iload_n 2, 1) := by decide +kernel
theorem dX6_treeIn_21 : decode cX6_treeIn 21 = .ok (.ireturn, 1) := by decide +kernel
theorem dX6_treeIn_22 : decode cX6_treeIn 22 = .ok (.iinc 2 1, 3) := by decide +kernel
theorem dX6_treeIn_25 : decode cX6_treeIn 25 = .ok (.goto (-23), 3) := by decide +kernel
theorem dX6_treeIn_28 : decode cX6_treeIn 28 = .ok (.iconst (-1), 1) := by decide +kernel
theorem dX6_treeIn_29 : decode cX6_treeIn 29 = .ok (.ireturn, 1) := by decide +kernel
theorem dX6_houseIn_0 : decode cX6_houseIn 0 = .ok (.iconst 0, 1) := by decide +kernel
theorem dX6_houseIn_1 : decode cX6_houseIn 1 = .ok (.istore_n 2, 1) := by decide +kernel
theorem dX6_houseIn_2 : decode cX6_houseIn 2 = .ok (.iload_n 2, 1) := by decide +kernel
theorem dX6_houseIn_3 : decode cX6_houseIn 3 = .ok (.aload_n 0, 1) := by decide +kernel
theorem dX6_houseIn_4 : decode cX6_houseIn 4 = .ok (.getfield 297, 3) := by decide +kernel
theorem dX6_houseIn_7 : decode cX6_houseIn 7 = .ok (.if_icmp .ge 21, 3) := by decide +kernel
theorem dX6_houseIn_10 : decode cX6_houseIn 10 = .ok (.aload_n 0, 1) := by decide +kernel
theorem dX6_houseIn_11 : decode cX6_houseIn 11 = .ok (.getfield 20, 3) := by decide +kernel
theorem dX6_houseIn_14 : decode cX6_houseIn 14 = .ok (.iload_n 2, 1) := by decide +kernel
theorem dX6_houseIn_15 : decode cX6_houseIn 15 = .ok (.iaload, 1) := by decide +kernel
theorem dX6_houseIn_16 : decode cX6_houseIn 16 = .ok (.iload_n 1, 1) := by decide +kernel
theorem dX6_houseIn_17 : decode cX6_houseIn 17 = .ok (.if_icmp .ne 5, 3) := by decide +kernel
theorem dX6_houseIn_20 : decode cX6_houseIn 20 = .ok (.iload_n 2, 1) := by decide +kernel
theorem dX6_houseIn_21 : decode cX6_houseIn 21 = .ok (.ireturn, 1) := by decide +kernel
theorem dX6_houseIn_22 : decode cX6_houseIn 22 = .ok (.iinc 2 1, 3) := by decide +kernel
theorem dX6_houseIn_25 : decode cX6_houseIn 25 = .ok (.goto (-23), 3) := by decide +kernel
theorem dX6_houseIn_28 : decode cX6_houseIn 28 = .ok (.iconst (-1), 1) := by decide +kernel
theorem dX6_houseIn_29 : decode cX6_houseIn 29 = .ok (.ireturn, 1) := by decide +kernel
theorem dX6_laysOut_0 : decode cX6_laysOut 0 = .ok (.iconst 0, 1) := by decide +kernel
theorem dX6_laysOut_1 : decode cX6_laysOut 1 = .ok (.istore_n 1, 1) := by decide +kernel
theorem dX6_laysOut_2 : decode cX6_laysOut 2 = .ok (.iload_n 1, 1) := by decide +kernel
theorem dX6_laysOut_3 : decode cX6_laysOut 3 = .ok (.aload_n 0, 1) := by decide +kernel
theorem dX6_laysOut_4 : decode cX6_laysOut 4 = .ok (.invokevirtual 323, 3) := by decide +kernel
theorem dX6_laysOut_7 : decode cX6_laysOut 7 = .ok (.if_icmp .ge 71, 3) := by decide +kernel
theorem dX6_laysOut_10 : decode cX6_laysOut 10 = .ok (.aload_n 0, 1) := by decide +kernel
theorem dX6_laysOut_11 : decode cX6_laysOut 11 = .ok (.iload_n 1, 1) := by decide +kernel
theorem dX6_laysOut_12 : decode cX6_laysOut 12 = .ok (.invokevirtual 326, 3) := by decide +kernel
theorem dX6_laysOut_15 : decode cX6_laysOut 15 = .ok (.istore_n 2, 1) := by decide +kernel
theorem dX6_laysOut_16 : decode cX6_laysOut 16 = .ok (.aload_n 0, 1) := by decide +kernel
theorem dX6_laysOut_17 : decode cX6_laysOut 17 = .ok (.iload_n 1, 1) := by decide +kernel
theorem dX6_laysOut_18 : decode cX6_laysOut 18 = .ok (.invokevirtual 329, 3) := by decide +kernel
theorem dX6_laysOut_21 : decode cX6_laysOut 21 = .ok (.istore_n 3, 1) := by decide +kernel
theorem dX6_laysOut_22 : decode cX6_laysOut 22 = .ok (.aload_n 0, 1) := by decide +kernel
theorem dX6_laysOut_23 : decode cX6_laysOut 23 = .ok (.getfield 84, 3) := by decide +kernel
theorem dX6_laysOut_26 : decode cX6_laysOut 26 = .ok (.iload_n 1, 1) := by decide +kernel
theorem dX6_laysOut_27 : decode cX6_laysOut 27 = .ok (.aload_n 0, 1) := by decide +kernel
theorem dX6_laysOut_28 : decode cX6_laysOut 28 = .ok (.getfield 16, 3) := by decide +kernel
theorem dX6_laysOut_31 : decode cX6_laysOut 31 = .ok (.iload_n 1, 1) := by decide +kernel
theorem dX6_laysOut_32 : decode cX6_laysOut 32 = .ok (.iaload, 1) := by decide +kernel
theorem dX6_laysOut_33 : decode cX6_laysOut 33 = .ok (.iload_n 2, 1) := by decide +kernel
theorem dX6_laysOut_34 : decode cX6_laysOut 34 = .ok (.iconst (-1), 1) := by decide +kernel
theorem dX6_laysOut_35 : decode cX6_laysOut 35 = .ok (.if_icmp .eq 17, 3) := by decide +kernel
theorem dX6_laysOut_38 : decode cX6_laysOut 38 = .ok (.iconst 2, 1) := by decide +kernel
theorem dX6_laysOut_39 : decode cX6_laysOut 39 = .ok (.aload_n 0, 1) := by decide +kernel
theorem dX6_laysOut_40 : decode cX6_laysOut 40 = .ok (.getfield 75, 3) := by decide +kernel
theorem dX6_laysOut_43 : decode cX6_laysOut 43 = .ok (.bipush 48, 2) := by decide +kernel
theorem dX6_laysOut_45 : decode cX6_laysOut 45 = .ok (.iload_n 2, 1) := by decide +kernel
theorem dX6_laysOut_46 : decode cX6_laysOut 46 = .ok (.iadd, 1) := by decide +kernel
theorem dX6_laysOut_47 : decode cX6_laysOut 47 = .ok (.iaload, 1) := by decide +kernel
theorem dX6_laysOut_48 : decode cX6_laysOut 48 = .ok (.iadd, 1) := by decide +kernel
theorem dX6_laysOut_49 : decode cX6_laysOut 49 = .ok (.goto 21, 3) := by decide +kernel
theorem dX6_laysOut_52 : decode cX6_laysOut 52 = .ok (.iload_n 3, 1) := by decide +kernel
theorem dX6_laysOut_53 : decode cX6_laysOut 53 = .ok (.iconst (-1), 1) := by decide +kernel
theorem dX6_laysOut_54 : decode cX6_laysOut 54 = .ok (.if_icmp .eq 15, 3) := by decide +kernel
theorem dX6_laysOut_57 : decode cX6_laysOut 57 = .ok (.aload_n 0, 1) := by decide +kernel
theorem dX6_laysOut_58 : decode cX6_laysOut 58 = .ok (.getfield 75, 3) := by decide +kernel
theorem dX6_laysOut_61 : decode cX6_laysOut 61 = .ok (.bipush 12, 2) := by decide +kernel
theorem dX6_laysOut_63 : decode cX6_laysOut 63 = .ok (.iload_n 3, 1) := by decide +kernel
theorem dX6_laysOut_64 : decode cX6_laysOut 64 = .ok (.iadd, 1) := by decide +kernel
theorem dX6_laysOut_65 : decode cX6_laysOut 65 = .ok (.iaload, 1) := by decide +kernel
theorem dX6_laysOut_66 : decode cX6_laysOut 66 = .ok (.goto 4, 3) := by decide +kernel
theorem dX6_laysOut_69 : decode cX6_laysOut 69 = .ok (.iconst 0, 1) := by decide +kernel
theorem dX6_laysOut_70 : decode cX6_laysOut 70 = .ok (.iadd, 1) := by decide +kernel
theorem dX6_laysOut_71 : decode cX6_laysOut 71 = .ok (.iastore, 1) := by decide +kernel
theorem dX6_laysOut_72 : decode cX6_laysOut 72 = .ok (.iinc 1 1, 3) := by decide +kernel
theorem dX6_laysOut_75 : decode cX6_laysOut 75 = .ok (.goto (-73), 3) := by decide +kernel
theorem dX6_laysOut_78 : decode cX6_laysOut 78 = .ok (.aload_n 0, 1) := by decide +kernel
theorem dX6_laysOut_79 : decode cX6_laysOut 79 = .ok (.getfield 90, 3) := by decide +kernel
theorem dX6_laysOut_82 : decode cX6_laysOut 82 = .ok (.iconst (-1), 1) := by decide +kernel
theorem dX6_laysOut_83 : decode cX6_laysOut 83 = .ok (.if_icmp .eq 24, 3) := by decide +kernel
theorem dX6_laysOut_86 : decode cX6_laysOut 86 = .ok (.aload_n 0, 1) := by decide +kernel
theorem dX6_laysOut_87 : decode cX6_laysOut 87 = .ok (.getfield 84, 3) := by decide +kernel
theorem dX6_laysOut_90 : decode cX6_laysOut 90 = .ok (.aload_n 0, 1) := by decide +kernel
theorem dX6_laysOut_91 : decode cX6_laysOut 91 = .ok (.getfield 90, 3) := by decide +kernel
theorem dX6_laysOut_94 : decode cX6_laysOut 94 = .ok (.aload_n 0, 1) := by decide +kernel
theorem dX6_laysOut_95 : decode cX6_laysOut 95 = .ok (.getfield 16, 3) := by decide +kernel
theorem dX6_laysOut_98 : decode cX6_laysOut 98 = .ok (.aload_n 0, 1) := by decide +kernel
theorem dX6_laysOut_99 : decode cX6_laysOut 99 = .ok (.getfield 90, 3) := by decide +kernel
theorem dX6_laysOut_102 : decode cX6_laysOut 102 = .ok (.iaload, 1) := by decide +kernel
theorem dX6_laysOut_103 : decode cX6_laysOut 103 = .ok (.bipush 9, 2) := by decide +kernel
theorem dX6_laysOut_105 : decode cX6_laysOut 105 = .ok (.iadd, 1) := by decide +kernel
theorem dX6_laysOut_106 : decode cX6_laysOut 106 = .ok (.iastore, 1) := by decide +kernel
theorem dX6_laysOut_107 : decode cX6_laysOut 107 = .ok (.aload_n 0, 1) := by decide +kernel
theorem dX6_laysOut_108 : decode cX6_laysOut 108 = .ok (.getfield 93, 3) := by decide +kernel
theorem dX6_laysOut_111 : decode cX6_laysOut 111 = .ok (.iconst (-1), 1) := by decide +kernel
theorem dX6_laysOut_112 : decode cX6_laysOut 112 = .ok (.if_icmp .eq 24, 3) := by decide +kernel
theorem dX6_laysOut_115 : decode cX6_laysOut 115 = .ok (.aload_n 0, 1) := by decide +kernel
theorem dX6_laysOut_116 : decode cX6_laysOut 116 = .ok (.getfield 84, 3) := by decide +kernel
theorem dX6_laysOut_119 : decode cX6_laysOut 119 = .ok (.aload_n 0, 1) := by decide +kernel
theorem dX6_laysOut_120 : decode cX6_laysOut 120 = .ok (.getfield 93, 3) := by decide +kernel
theorem dX6_laysOut_123 : decode cX6_laysOut 123 = .ok (.aload_n 0, 1) := by decide +kernel
theorem dX6_laysOut_124 : decode cX6_laysOut 124 = .ok (.getfield 16, 3) := by decide +kernel
theorem dX6_laysOut_127 : decode cX6_laysOut 127 = .ok (.aload_n 0, 1) := by decide +kernel
theorem dX6_laysOut_128 : decode cX6_laysOut 128 = .ok (.getfield 93, 3) := by decide +kernel
theorem dX6_laysOut_131 : decode cX6_laysOut 131 = .ok (.iaload, 1) := by decide +kernel
theorem dX6_laysOut_132 : decode cX6_laysOut 132 = .ok (.bipush 9, 2) := by decide +kernel
theorem dX6_laysOut_134 : decode cX6_laysOut 134 = .ok (.iadd, 1) := by decide +kernel
theorem dX6_laysOut_135 : decode cX6_laysOut 135 = .ok (.iastore, 1) := by decide +kernel
theorem dX6_laysOut_136 : decode cX6_laysOut 136 = .ok (.return_, 1) := by decide +kernel
theorem dX6_fogNow_0 : decode cX6_fogNow 0 = .ok (.aload_n 0, 1) := by decide +kernel
theorem dX6_fogNow_1 : decode cX6_fogNow 1 = .ok (.getfield 87, 3) := by decide +kernel
theorem dX6_fogNow_4 : decode cX6_fogNow 4 = .ok (.iconst (-1), 1) := by decide +kernel
theorem dX6_fogNow_5 : decode cX6_fogNow 5 = .ok (.if_icmp .eq 10, 3) := by decide +kernel
theorem dX6_fogNow_8 : decode cX6_fogNow 8 = .ok (.aload_n 0, 1) := by decide +kernel
theorem dX6_fogNow_9 : decode cX6_fogNow 9 = .ok (.getfield 87, 3) := by decide +kernel
theorem dX6_fogNow_12 : decode cX6_fogNow 12 = .ok (.goto 32, 3) := by decide +kernel
theorem dX6_fogNow_15 : decode cX6_fogNow 15 = .ok (.aload_n 0, 1) := by decide +kernel
theorem dX6_fogNow_16 : decode cX6_fogNow 16 = .ok (.getfield 303, 3) := by decide +kernel
theorem dX6_fogNow_19 : decode cX6_fogNow 19 = .ok (.ifCond .ne 8, 3) := by decide +kernel
theorem dX6_fogNow_22 : decode cX6_fogNow 22 = .ok (.bipush 9, 2) := by decide +kernel
theorem dX6_fogNow_24 : decode cX6_fogNow 24 = .ok (.goto 20, 3) := by decide +kernel
theorem dX6_fogNow_27 : decode cX6_fogNow 27 = .ok (.aload_n 0, 1) := by decide +kernel
theorem dX6_fogNow_28 : decode cX6_fogNow 28 = .ok (.getfield 26, 3) := by decide +kernel
theorem dX6_fogNow_31 : decode cX6_fogNow 31 = .ok (.aload_n 0, 1) := by decide +kernel
theorem dX6_fogNow_32 : decode cX6_fogNow 32 = .ok (.getfield 75, 3) := by decide +kernel
theorem dX6_fogNow_35 : decode cX6_fogNow 35 = .ok (.bipush 61, 2) := by decide +kernel
theorem dX6_fogNow_37 : decode cX6_fogNow 37 = .ok (.iaload, 1) := by decide +kernel
theorem dX6_fogNow_38 : decode cX6_fogNow 38 = .ok (.aload_n 0, 1) := by decide +kernel
theorem dX6_fogNow_39 : decode cX6_fogNow 39 = .ok (.getfield 303, 3) := by decide +kernel
theorem dX6_fogNow_42 : decode cX6_fogNow 42 = .ok (.irem, 1) := by decide +kernel
theorem dX6_fogNow_43 : decode cX6_fogNow 43 = .ok (.iaload, 1) := by decide +kernel
theorem dX6_fogNow_44 : decode cX6_fogNow 44 = .ok (.ireturn, 1) := by decide +kernel
theorem dX6_across_0 : decode cX6_across 0 = .ok (.iload_n 0, 1) := by decide +kernel
theorem dX6_across_1 : decode cX6_across 1 = .ok (.ifCond .eq 8, 3) := by decide +kernel
theorem dX6_across_4 : decode cX6_across 4 = .ok (.iload_n 0, 1) := by decide +kernel
theorem dX6_across_5 : decode cX6_across 5 = .ok (.iconst 4, 1) := by decide +kernel
theorem dX6_across_6 : decode cX6_across 6 = .ok (.if_icmp .ne 7, 3) := by decide +kernel
theorem dX6_across_9 : decode cX6_across 9 = .ok (.iconst 0, 1) := by decide +kernel
theorem dX6_across_10 : decode cX6_across 10 = .ok (.goto 13, 3) := by decide +kernel
theorem dX6_across_13 : decode cX6_across 13 = .ok (.iload_n 0, 1) := by decide +kernel
theorem dX6_across_14 : decode cX6_across 14 = .ok (.iconst 4, 1) := by decide +kernel
theorem dX6_across_15 : decode cX6_across 15 = .ok (.if_icmp .ge 7, 3) := by decide +kernel
theorem dX6_across_18 : decode cX6_across 18 = .ok (.iconst 1, 1) := by decide +kernel
theorem dX6_across_19 : decode cX6_across 19 = .ok (.goto 4, 3) := by decide +kernel
theorem dX6_across_22 : decode cX6_across 22 = .ok (.iconst (-1), 1) := by decide +kernel
theorem dX6_across_23 : decode cX6_across 23 = .ok (.ireturn, 1) := by decide +kernel
theorem dX6_down_0 : decode cX6_down 0 = .ok (.iload_n 0, 1) := by decide +kernel
theorem dX6_down_1 : decode cX6_down 1 = .ok (.iconst 2, 1) := by decide +kernel
theorem dX6_down_2 : decode cX6_down 2 = .ok (.if_icmp .eq 9, 3) := by decide +kernel
theorem dX6_down_5 : decode cX6_down 5 = .ok (.iload_n 0, 1) := by decide +kernel
theorem dX6_down_6 : decode cX6_down 6 = .ok (.bipush 6, 2) := by decide +kernel
theorem dX6_down_8 : decode cX6_down 8 = .ok (.if_icmp .ne 7, 3) := by decide +kernel
theorem dX6_down_11 : decode cX6_down 11 = .ok (.iconst 0, 1) := by decide +kernel
theorem dX6_down_12 : decode cX6_down 12 = .ok (.goto 19, 3) := by decide +kernel
theorem dX6_down_15 : decode cX6_down 15 = .ok (.iload_n 0, 1) := by decide +kernel
theorem dX6_down_16 : decode cX6_down 16 = .ok (.iconst 2, 1) := by decide +kernel
theorem dX6_down_17 : decode cX6_down 17 = .ok (.if_icmp .le 13, 3) := by decide +kernel
theorem dX6_down_20 : decode cX6_down 20 = .ok (.iload_n 0, 1) := by decide +kernel
theorem dX6_down_21 : decode cX6_down 21 = .ok (.bipush 6, 2) := by decide +kernel
theorem dX6_down_23 : decode cX6_down 23 = .ok (.if_icmp .ge 7, 3) := by decide +kernel
theorem dX6_down_26 : decode cX6_down 26 = .ok (.iconst 1, 1) := by decide +kernel
theorem dX6_down_27 : decode cX6_down 27 = .ok (.goto 4, 3) := by decide +kernel
theorem dX6_down_30 : decode cX6_down 30 = .ok (.iconst (-1), 1) := by decide +kernel
theorem dX6_down_31 : decode cX6_down 31 = .ok (.ireturn, 1) := by decide +kernel
theorem dX6_looks_0 : decode cX6_looks 0 = .ok (.iload_n 1, 1) := by decide +kernel
theorem dX6_looks_1 : decode cX6_looks 1 = .ok (.aload_n 0, 1) := by decide +kernel
theorem dX6_looks_2 : decode cX6_looks 2 = .ok (.getfield 7, 3) := by decide +kernel
theorem dX6_looks_5 : decode cX6_looks 5 = .ok (.irem, 1) := by decide +kernel
theorem dX6_looks_6 : decode cX6_looks 6 = .ok (.iload_n 3, 1) := by decide +kernel
theorem dX6_looks_7 : decode cX6_looks 7 = .ok (.invokestatic 332, 3) := by decide +kernel
theorem dX6_looks_10 : decode cX6_looks 10 = .ok (.iadd, 1) := by decide +kernel
theorem dX6_looks_11 : decode cX6_looks 11 = .ok (.istore 5, 2) := by decide +kernel
theorem dX6_looks_13 : decode cX6_looks 13 = .ok (.iload_n 1, 1) := by decide +kernel
theorem dX6_looks_14 : decode cX6_looks 14 = .ok (.aload_n 0, 1) := by decide +kernel
theorem dX6_looks_15 : decode cX6_looks 15 = .ok (.getfield 7, 3) := by decide +kernel
theorem dX6_looks_18 : decode cX6_looks 18 = .ok (.idiv, 1) := by decide +kernel
theorem dX6_looks_19 : decode cX6_looks 19 = .ok (.iload_n 3, 1) := by decide +kernel
theorem dX6_looks_20 : decode cX6_looks 20 = .ok (.invokestatic 335, 3) := by decide +kernel
theorem dX6_looks_23 : decode cX6_looks 23 = .ok (.iadd, 1) := by decide +kernel
theorem dX6_looks_24 : decode cX6_looks 24 = .ok (.istore 6, 2) := by decide +kernel
theorem dX6_looks_26 : decode cX6_looks 26 = .ok (.iconst 0, 1) := by decide +kernel
theorem dX6_looks_27 : decode cX6_looks 27 = .ok (.istore 7, 2) := by decide +kernel
theorem dX6_looks_29 : decode cX6_looks 29 = .ok (.iconst 0, 1) := by decide +kernel
theorem dX6_looks_30 : decode cX6_looks 30 = .ok (.istore 8, 2) := by decide +kernel
theorem dX6_looks_32 : decode cX6_looks 32 = .ok (.iconst 0, 1) := by decide +kernel
theorem dX6_looks_33 : decode cX6_looks 33 = .ok (.istore 9, 2) := by decide +kernel
theorem dX6_looks_35 : decode cX6_looks 35 = .ok (.iconst 1, 1) := by decide +kernel
theorem dX6_looks_36 : decode cX6_looks 36 = .ok (.istore 10, 2) := by decide +kernel
theorem dX6_looks_38 : decode cX6_looks 38 = .ok (.iload 10, 2) := by decide +kernel
theorem dX6_looks_40 : decode cX6_looks 40 = .ok (.iload 4, 2) := by decide +kernel
theorem dX6_looks_42 : decode cX6_looks 42 = .ok (.if_icmp .gt 122, 3) := by decide +kernel
theorem dX6_looks_45 : decode cX6_looks 45 = .ok (.iload 5, 2) := by decide +kernel
theorem dX6_looks_47 : decode cX6_looks 47 = .ok (.ifCond .lt 117, 3) := by decide +kernel
theorem dX6_looks_50 : decode cX6_looks 50 = .ok (.iload 6, 2) := by decide +kernel
theorem dX6_looks_52 : decode cX6_looks 52 = .ok (.ifCond .lt 112, 3) := by decide +kernel
theorem dX6_looks_55 : decode cX6_looks 55 = .ok (.iload 5, 2) := by decide +kernel
theorem dX6_looks_57 : decode cX6_looks 57 = .ok (.aload_n 0, 1) := by decide +kernel
theorem dX6_looks_58 : decode cX6_looks 58 = .ok (.getfield 7, 3) := by decide +kernel
theorem dX6_looks_61 : decode cX6_looks 61 = .ok (.if_icmp .ge 103, 3) := by decide +kernel
theorem dX6_looks_64 : decode cX6_looks 64 = .ok (.iload 6, 2) := by decide +kernel
theorem dX6_looks_66 : decode cX6_looks 66 = .ok (.aload_n 0, 1) := by decide +kernel
theorem dX6_looks_67 : decode cX6_looks 67 = .ok (.getfield 13, 3) := by decide +kernel
theorem dX6_looks_70 : decode cX6_looks 70 = .ok (.if_icmp .ge 94, 3) := by decide +kernel
theorem dX6_looks_73 : decode cX6_looks 73 = .ok (.aload_n 0, 1) := by decide +kernel
theorem dX6_looks_74 : decode cX6_looks 74 = .ok (.getfield 7, 3) := by decide +kernel
theorem dX6_looks_77 : decode cX6_looks 77 = .ok (.iload 6, 2) := by decide +kernel
theorem dX6_looks_79 : decode cX6_looks 79 = .ok (.imul, 1) := by decide +kernel
theorem dX6_looks_80 : decode cX6_looks 80 = .ok (.iload 5, 2) := by decide +kernel
theorem dX6_looks_82 : decode cX6_looks 82 = .ok (.iadd, 1) := by decide +kernel
theorem dX6_looks_83 : decode cX6_looks 83 = .ok (.istore 11, 2) := by decide +kernel
theorem dX6_looks_85 : decode cX6_looks 85 = .ok (.aload_n 0, 1) := by decide +kernel
theorem dX6_looks_86 : decode cX6_looks 86 = .ok (.getfield 84, 3) := by decide +kernel
theorem dX6_looks_89 : decode cX6_looks 89 = .ok (.iload 11, 2) := by decide +kernel
theorem dX6_looks_91 : decode cX6_looks 91 = .ok (.iaload, 1) := by decide +kernel
theorem dX6_looks_92 : decode cX6_looks 92 = .ok (.iload_n 2, 1) := by decide +kernel
theorem dX6_looks_93 : decode cX6_looks 93 = .ok (.isub, 1) := by decide +kernel
theorem dX6_looks_94 : decode cX6_looks 94 = .ok (.istore 12, 2) := by decide +kernel
theorem dX6_looks_96 : decode cX6_looks 96 = .ok (.iload 10, 2) := by decide +kernel
theorem dX6_looks_98 : decode cX6_looks 98 = .ok (.iconst 1, 1) := by decide +kernel
theorem dX6_looks_99 : decode cX6_looks 99 = .ok (.if_icmp .eq 16, 3) := by decide +kernel
theorem dX6_looks_102 : decode cX6_looks 102 = .ok (.iload 12, 2) := by decide +kernel
theorem dX6_looks_104 : decode cX6_looks 104 = .ok (.iload 9, 2) := by decide +kernel
theorem dX6_looks_106 : decode cX6_looks 106 = .ok (.imul, 1) := by decide +kernel
theorem dX6_looks_107 : decode cX6_looks 107 = .ok (.iload 8, 2) := by decide +kernel
theorem dX6_looks_109 : decode cX6_looks 109 = .ok (.iload 10, 2) := by decide +kernel
theorem dX6_looks_111 : decode cX6_looks 111 = .ok (.imul, 1) := by decide +kernel
theorem dX6_looks_112 : decode cX6_looks 112 = .ok (.if_icmp .le 28, 3) := by decide +kernel
theorem dX6_looks_115 : decode cX6_looks 115 = .ok (.iload 10, 2) := by decide +kernel
theorem dX6_looks_117 : decode cX6_looks 117 = .ok (.istore 7, 2) := by decide +kernel
theorem dX6_looks_119 : decode cX6_looks 119 = .ok (.iload 12, 2) := by decide +kernel
theorem dX6_looks_121 : decode cX6_looks 121 = .ok (.istore 8, 2) := by decide +kernel
theorem dX6_looks_123 : decode cX6_looks 123 = .ok (.iload 10, 2) := by decide +kernel
theorem dX6_looks_125 : decode cX6_looks 125 = .ok (.istore 9, 2) := by decide +kernel
theorem dX6_looks_127 : decode cX6_looks 127 = .ok (.aload_n 0, 1) := by decide +kernel
theorem dX6_looks_128 : decode cX6_looks 128 = .ok (.dup, 1) := by decide +kernel
theorem dX6_looks_129 : decode cX6_looks 129 = .ok (.getfield 338, 3) := by decide +kernel
theorem dX6_looks_132 : decode cX6_looks 132 = .ok (.lconst 1, 1) := by decide +kernel
theorem dX6_looks_133 : decode cX6_looks 133 = .ok (.iload 11, 2) := by decide +kernel
theorem dX6_looks_135 : decode cX6_looks 135 = .ok (.lshl, 1) := by decide +kernel
theorem dX6_looks_136 : decode cX6_looks 136 = .ok (.lor, 1) := by decide +kernel
theorem dX6_looks_137 : decode cX6_looks 137 = .ok (.putfield 338, 3) := by decide +kernel
theorem dX6_looks_140 : decode cX6_looks 140 = .ok (.iload 5, 2) := by decide +kernel
theorem dX6_looks_142 : decode cX6_looks 142 = .ok (.iload_n 3, 1) := by decide +kernel
theorem dX6_looks_143 : decode cX6_looks 143 = .ok (.invokestatic 332, 3) := by decide +kernel
theorem dX6_looks_146 : decode cX6_looks 146 = .ok (.iadd, 1) := by decide +kernel
theorem dX6_looks_147 : decode cX6_looks 147 = .ok (.istore 5, 2) := by decide +kernel
theorem dX6_looks_149 : decode cX6_looks 149 = .ok (.iload 6, 2) := by decide +kernel
theorem dX6_looks_151 : decode cX6_looks 151 = .ok (.iload_n 3, 1) := by decide +kernel
theorem dX6_looks_152 : decode cX6_looks 152 = .ok (.invokestatic 335, 3) := by decide +kernel
theorem dX6_looks_155 : decode cX6_looks 155 = .ok (.iadd, 1) := by decide +kernel
theorem dX6_looks_156 : decode cX6_looks 156 = .ok (.istore 6, 2) := by decide +kernel
theorem dX6_looks_158 : decode cX6_looks 158 = .ok (.iinc 10 1, 3) := by decide +kernel
theorem dX6_looks_161 : decode cX6_looks 161 = .ok (.goto (-123), 3) := by decide +kernel
theorem dX6_looks_164 : decode cX6_looks 164 = .ok (.iload 7, 2) := by decide +kernel
theorem dX6_looks_166 : decode cX6_looks 166 = .ok (.ireturn, 1) := by decide +kernel
theorem dX6_eyeOf_0 : decode cX6_eyeOf 0 = .ok (.aload_n 0, 1) := by decide +kernel
theorem dX6_eyeOf_1 : decode cX6_eyeOf 1 = .ok (.getfield 16, 3) := by decide +kernel
theorem dX6_eyeOf_4 : decode cX6_eyeOf 4 = .ok (.aload_n 0, 1) := by decide +kernel
theorem dX6_eyeOf_5 : decode cX6_eyeOf 5 = .ok (.getfield 20, 3) := by decide +kernel
theorem dX6_eyeOf_8 : decode cX6_eyeOf 8 = .ok (.iload_n 1, 1) := by decide +kernel
theorem dX6_eyeOf_9 : decode cX6_eyeOf 9 = .ok (.iaload, 1) := by decide +kernel
theorem dX6_eyeOf_10 : decode cX6_eyeOf 10 = .ok (.iaload, 1) := by decide +kernel
theorem dX6_eyeOf_11 : decode cX6_eyeOf 11 = .ok (.iconst 2, 1) := by decide +kernel
theorem dX6_eyeOf_12 : decode cX6_eyeOf 12 = .ok (.iadd, 1) := by decide +kernel
theorem dX6_eyeOf_13 : decode cX6_eyeOf 13 = .ok (.aload_n 0, 1) := by decide +kernel
theorem dX6_eyeOf_14 : decode cX6_eyeOf 14 = .ok (.getfield 75, 3) := by decide +kernel
theorem dX6_eyeOf_17 : decode cX6_eyeOf 17 = .ok (.bipush 42, 2) := by decide +kernel
theorem dX6_eyeOf_19 : decode cX6_eyeOf 19 = .ok (.iload_n 1, 1) := by decide +kernel
theorem dX6_eyeOf_20 : decode cX6_eyeOf 20 = .ok (.iadd, 1) := by decide +kernel
theorem dX6_eyeOf_21 : decode cX6_eyeOf 21 = .ok (.iaload, 1) := by decide +kernel
theorem dX6_eyeOf_22 : decode cX6_eyeOf 22 = .ok (.iadd, 1) := by decide +kernel
theorem dX6_eyeOf_23 : decode cX6_eyeOf 23 = .ok (.ireturn, 1) := by decide +kernel
theorem dX6_milesIn_0 : decode cX6_milesIn 0 = .ok (.aload_n 0, 1) := by decide +kernel
theorem dX6_milesIn_1 : decode cX6_milesIn 1 = .ok (.getfield 23, 3) := by decide +kernel
theorem dX6_milesIn_4 : decode cX6_milesIn 4 = .ok (.iload_n 1, 1) := by decide +kernel
theorem dX6_milesIn_5 : decode cX6_milesIn 5 = .ok (.iaload, 1) := by decide +kernel
theorem dX6_milesIn_6 : decode cX6_milesIn 6 = .ok (.iconst 2, 1) := by decide +kernel
theorem dX6_milesIn_7 : decode cX6_milesIn 7 = .ok (.if_icmp .eq 20, 3) := by decide +kernel
theorem dX6_milesIn_10 : decode cX6_milesIn 10 = .ok (.aload_n 0, 1) := by decide +kernel
theorem dX6_milesIn_11 : decode cX6_milesIn 11 = .ok (.getfield 75, 3) := by decide +kernel
theorem dX6_milesIn_14 : decode cX6_milesIn 14 = .ok (.bipush 54, 2) := by decide +kernel
theorem dX6_milesIn_16 : decode cX6_milesIn 16 = .ok (.iload_n 1, 1) := by decide +kernel
theorem dX6_milesIn_17 : decode cX6_milesIn 17 = .ok (.iadd, 1) := by decide +kernel
theorem dX6_milesIn_18 : decode cX6_milesIn 18 = .ok (.iaload, 1) := by decide +kernel
theorem dX6_milesIn_19 : decode cX6_milesIn 19 = .ok (.iload_n 2, 1) := by decide +kernel
theorem dX6_milesIn_20 : decode cX6_milesIn 20 = .ok (.ishr, 1) := by decide +kernel
theorem dX6_milesIn_21 : decode cX6_milesIn 21 = .ok (.iconst 1, 1) := by decide +kernel
theorem dX6_milesIn_22 : decode cX6_milesIn 22 = .ok (.iand, 1) := by decide +kernel
theorem dX6_milesIn_23 : decode cX6_milesIn 23 = .ok (.iconst 1, 1) := by decide +kernel
theorem dX6_milesIn_24 : decode cX6_milesIn 24 = .ok (.if_icmp .ne 5, 3) := by decide +kernel
theorem dX6_milesIn_27 : decode cX6_milesIn 27 = .ok (.iconst 0, 1) := by decide +kernel
theorem dX6_milesIn_28 : decode cX6_milesIn 28 = .ok (.ireturn, 1) := by decide +kernel
theorem dX6_milesIn_29 : decode cX6_milesIn 29 = .ok (.aload_n 0, 1) := by decide +kernel
theorem dX6_milesIn_30 : decode cX6_milesIn 30 = .ok (.aload_n 0, 1) := by decide +kernel
theorem dX6_milesIn_31 : decode cX6_milesIn 31 = .ok (.getfield 20, 3) := by decide +kernel
theorem dX6_milesIn_34 : decode cX6_milesIn 34 = .ok (.iload_n 1, 1) := by decide +kernel
theorem dX6_milesIn_35 : decode cX6_milesIn 35 = .ok (.iaload, 1) := by decide +kernel
theorem dX6_milesIn_36 : decode cX6_milesIn 36 = .ok (.aload_n 0, 1) := by decide +kernel
theorem dX6_milesIn_37 : decode cX6_milesIn 37 = .ok (.iload_n 1, 1) := by decide +kernel
theorem dX6_milesIn_38 : decode cX6_milesIn 38 = .ok (.invokevirtual 341, 3) := by decide +kernel
theorem dX6_milesIn_41 : decode cX6_milesIn 41 = .ok (.iload_n 2, 1) := by decide +kernel
theorem dX6_milesIn_42 : decode cX6_milesIn 42 = .ok (.aload_n 0, 1) := by decide +kernel
theorem dX6_milesIn_43 : decode cX6_milesIn 43 = .ok (.invokevirtual 344, 3) := by decide +kernel
theorem dX6_milesIn_46 : decode cX6_milesIn 46 = .ok (.invokevirtual 347, 3) := by decide +kernel
theorem dX6_milesIn_49 : decode cX6_milesIn 49 = .ok (.ireturn, 1) := by decide +kernel
theorem dX6_sees_0 : decode cX6_sees 0 = .ok (.aload_n 0, 1) := by decide +kernel
theorem dX6_sees_1 : decode cX6_sees 1 = .ok (.lconst 0, 1) := by decide +kernel
theorem dX6_sees_2 : decode cX6_sees 2 = .ok (.putfield 338, 3) := by decide +kernel
theorem dX6_sees_5 : decode cX6_sees 5 = .ok (.aload_n 0, 1) := by decide +kernel
theorem dX6_sees_6 : decode cX6_sees 6 = .ok (.iconst 0, 1) := by decide +kernel
theorem dX6_sees_7 : decode cX6_sees 7 = .ok (.putfield 351, 3) := by decide +kernel
theorem dX6_sees_10 : decode cX6_sees 10 = .ok (.aload_n 0, 1) := by decide +kernel
theorem dX6_sees_11 : decode cX6_sees 11 = .ok (.iconst 0, 1) := by decide +kernel
theorem dX6_sees_12 : decode cX6_sees 12 = .ok (.putfield 354, 3) := by decide +kernel
theorem dX6_sees_15 : decode cX6_sees 15 = .ok (.iconst 0, 1) := by decide +kernel
theorem dX6_sees_16 : decode cX6_sees 16 = .ok (.istore_n 2, 1) := by decide +kernel
theorem dX6_sees_17 : decode cX6_sees 17 = .ok (.iload_n 2, 1) := by decide +kernel
theorem dX6_sees_18 : decode cX6_sees 18 = .ok (.bipush 8, 2) := by decide +kernel
theorem dX6_sees_20 : decode cX6_sees 20 = .ok (.if_icmp .ge 46, 3) := by decide +kernel
theorem dX6_sees_23 : decode cX6_sees 23 = .ok (.aload_n 0, 1) := by decide +kernel
theorem dX6_sees_24 : decode cX6_sees 24 = .ok (.iload_n 1, 1) := by decide +kernel
theorem dX6_sees_25 : decode cX6_sees 25 = .ok (.iload_n 2, 1) := by decide +kernel
theorem dX6_sees_26 : decode cX6_sees 26 = .ok (.invokevirtual 357, 3) := by decide +kernel
theorem dX6_sees_29 : decode cX6_sees 29 = .ok (.istore_n 3, 1) := by decide +kernel
theorem dX6_sees_30 : decode cX6_sees 30 = .ok (.aload_n 0, 1) := by decide +kernel
theorem dX6_sees_31 : decode cX6_sees 31 = .ok (.dup, 1) := by decide +kernel
theorem dX6_sees_32 : decode cX6_sees 32 = .ok (.getfield 354, 3) := by decide +kernel
theorem dX6_sees_35 : decode cX6_sees 35 = .ok (.iload_n 3, 1) := by decide +kernel
theorem dX6_sees_36 : decode cX6_sees 36 = .ok (.iadd, 1) := by decide +kernel
theorem dX6_sees_37 : decode cX6_sees 37 = .ok (.putfield 354, 3) := by decide +kernel
theorem dX6_sees_40 : decode cX6_sees 40 = .ok (.aload_n 0, 1) := by decide +kernel
theorem dX6_sees_41 : decode cX6_sees 41 = .ok (.iload_n 3, 1) := by decide +kernel
theorem dX6_sees_42 : decode cX6_sees 42 = .ok (.aload_n 0, 1) := by decide +kernel
theorem dX6_sees_43 : decode cX6_sees 43 = .ok (.getfield 351, 3) := by decide +kernel
theorem dX6_sees_46 : decode cX6_sees 46 = .ok (.if_icmp .le 7, 3) := by decide +kernel
theorem dX6_sees_49 : decode cX6_sees 49 = .ok (.iload_n 3, 1) := by decide +kernel
theorem dX6_sees_50 : decode cX6_sees 50 = .ok (.goto 7, 3) := by decide +kernel
theorem dX6_sees_53 : decode cX6_sees 53 = .ok (.aload_n 0, 1) := by decide +kernel
theorem dX6_sees_54 : decode cX6_sees 54 = .ok (.getfield 351, 3) := by decide +kernel
theorem dX6_sees_57 : decode cX6_sees 57 = .ok (.putfield 351, 3) := by decide +kernel
theorem dX6_sees_60 : decode cX6_sees 60 = .ok (.iinc 2 1, 3) := by decide +kernel
theorem dX6_sees_63 : decode cX6_sees 63 = .ok (.goto (-46), 3) := by decide +kernel
theorem dX6_sees_66 : decode cX6_sees 66 = .ok (.return_, 1) := by decide +kernel
theorem dX6_housesSeen_0 : decode cX6_housesSeen 0 = .ok (.iconst 0, 1) := by decide +kernel
theorem dX6_housesSeen_1 : decode cX6_housesSeen 1 = .ok (.istore_n 2, 1) := by decide +kernel
theorem dX6_housesSeen_2 : decode cX6_housesSeen 2 = .ok (.iconst 0, 1) := by decide +kernel
theorem dX6_housesSeen_3 : decode cX6_housesSeen 3 = .ok (.istore_n 3, 1) := by decide +kernel
theorem dX6_housesSeen_4 : decode cX6_housesSeen 4 = .ok (.iload_n 3, 1) := by decide +kernel
theorem dX6_housesSeen_5 : decode cX6_housesSeen 5 = .ok (.aload_n 0, 1) := by decide +kernel
theorem dX6_housesSeen_6 : decode cX6_housesSeen 6 = .ok (.getfield 297, 3) := by decide +kernel
theorem dX6_housesSeen_9 : decode cX6_housesSeen 9 = .ok (.if_icmp .ge 42, 3) := by decide +kernel
theorem dX6_housesSeen_12 : decode cX6_housesSeen 12 = .ok (.iload_n 2, 1) := by decide +kernel
theorem dX6_housesSeen_13 : decode cX6_housesSeen 13 = .ok (.iload_n 3, 1) := by decide +kernel
theorem dX6_housesSeen_14 : decode cX6_housesSeen 14 = .ok (.iload_n 1, 1) := by decide +kernel
theorem dX6_housesSeen_15 : decode cX6_housesSeen 15 = .ok (.if_icmp .eq 27, 3) := by decide +kernel
theorem dX6_housesSeen_18 : decode cX6_housesSeen 18 = .ok (.aload_n 0, 1) := by decide +kernel
theorem dX6_housesSeen_19 : decode cX6_housesSeen 19 = .ok (.getfield 338, 3) := by decide +kernel
theorem dX6_housesSeen_22 : decode cX6_housesSeen 22 = .ok (.aload_n 0, 1) := by decide +kernel
theorem dX6_housesSeen_23 : decode cX6_housesSeen 23 = .ok (.getfield 20, 3) := by decide +kernel
theorem dX6_housesSeen_26 : decode cX6_housesSeen 26 = .ok (.iload_n 3, 1) := by decide +kernel
theorem dX6_housesSeen_27 : decode cX6_housesSeen 27 = .ok (.iaload, 1) := by decide +kernel
theorem dX6_housesSeen_28 : decode cX6_housesSeen 28 = .ok (.lshr, 1) := by decide +kernel
theorem dX6_housesSeen_29 : decode cX6_housesSeen 29 = .ok (.lconst 1, 1) := by decide +kernel
theorem dX6_housesSeen_30 : decode cX6_housesSeen 30 = .ok (.land, 1) := by decide +kernel
theorem dX6_housesSeen_31 : decode cX6_housesSeen 31 = .ok (.lconst 1, 1) := by decide +kernel
theorem dX6_housesSeen_32 : decode cX6_housesSeen 32 = .ok (.lcmp, 1) := by decide +kernel
theorem dX6_housesSeen_33 : decode cX6_housesSeen 33 = .ok (.ifCond .ne 9, 3) := by decide +kernel
theorem dX6_housesSeen_36 : decode cX6_housesSeen 36 = .ok (.iconst 1, 1) := by decide +kernel
theorem dX6_housesSeen_37 : decode cX6_housesSeen 37 = .ok (.iload_n 3, 1) := by decide +kernel
theorem dX6_housesSeen_38 : decode cX6_housesSeen 38 = .ok (.ishl, 1) := by decide +kernel
theorem dX6_housesSeen_39 : decode cX6_housesSeen 39 = .ok (.goto 4, 3) := by decide +kernel
theorem dX6_housesSeen_42 : decode cX6_housesSeen 42 = .ok (.iconst 0, 1) := by decide +kernel
theorem dX6_housesSeen_43 : decode cX6_housesSeen 43 = .ok (.ior, 1) := by decide +kernel
theorem dX6_housesSeen_44 : decode cX6_housesSeen 44 = .ok (.istore_n 2, 1) := by decide +kernel
theorem dX6_housesSeen_45 : decode cX6_housesSeen 45 = .ok (.iinc 3 1, 3) := by decide +kernel
theorem dX6_housesSeen_48 : decode cX6_housesSeen 48 = .ok (.goto (-44), 3) := by decide +kernel
theorem dX6_housesSeen_51 : decode cX6_housesSeen 51 = .ok (.iload_n 2, 1) := by decide +kernel
theorem dX6_housesSeen_52 : decode cX6_housesSeen 52 = .ok (.ireturn, 1) := by decide +kernel
theorem dX6_works_0 : decode cX6_works 0 = .ok (.iload_n 0, 1) := by decide +kernel
theorem dX6_works_1 : decode cX6_works 1 = .ok (.tableswitch 105 4 10 #[43, 57, 71, 82, 93, 97, 101], 43) := by decide +kernel
theorem dX6_works_44 : decode cX6_works 44 = .ok (.iload_n 1, 1) := by decide +kernel
theorem dX6_works_45 : decode cX6_works 45 = .ok (.ifCond .eq 11, 3) := by decide +kernel
theorem dX6_works_48 : decode cX6_works 48 = .ok (.iload_n 2, 1) := by decide +kernel
theorem dX6_works_49 : decode cX6_works 49 = .ok (.ifCond .eq 7, 3) := by decide +kernel
theorem dX6_works_52 : decode cX6_works 52 = .ok (.iconst 1, 1) := by decide +kernel
theorem dX6_works_53 : decode cX6_works 53 = .ok (.goto 4, 3) := by decide +kernel
theorem dX6_works_56 : decode cX6_works 56 = .ok (.iconst 0, 1) := by decide +kernel
theorem dX6_works_57 : decode cX6_works 57 = .ok (.ireturn, 1) := by decide +kernel
theorem dX6_works_58 : decode cX6_works 58 = .ok (.iload_n 1, 1) := by decide +kernel
theorem dX6_works_59 : decode cX6_works 59 = .ok (.ifCond .ne 7, 3) := by decide +kernel
theorem dX6_works_62 : decode cX6_works 62 = .ok (.iload_n 2, 1) := by decide +kernel
theorem dX6_works_63 : decode cX6_works 63 = .ok (.ifCond .eq 7, 3) := by decide +kernel
theorem dX6_works_66 : decode cX6_works 66 = .ok (.iconst 1, 1) := by decide +kernel
theorem dX6_works_67 : decode cX6_works 67 = .ok (.goto 4, 3) := by decide +kernel
theorem dX6_works_70 : decode cX6_works 70 = .ok (.iconst 0, 1) := by decide +kernel
theorem dX6_works_71 : decode cX6_works 71 = .ok (.ireturn, 1) := by decide +kernel
theorem dX6_works_72 : decode cX6_works 72 = .ok (.iload_n 1, 1) := by decide +kernel
theorem dX6_works_73 : decode cX6_works 73 = .ok (.iload_n 2, 1) := by decide +kernel
theorem dX6_works_74 : decode cX6_works 74 = .ok (.if_icmp .ge 7, 3) := by decide +kernel
theorem dX6_works_77 : decode cX6_works 77 = .ok (.iconst 1, 1) := by decide +kernel
theorem dX6_works_78 : decode cX6_works 78 = .ok (.goto 4, 3) := by decide +kernel
theorem dX6_works_81 : decode cX6_works 81 = .ok (.iconst 0, 1) := by decide +kernel
theorem dX6_works_82 : decode cX6_works 82 = .ok (.ireturn, 1) := by decide +kernel
theorem dX6_works_83 : decode cX6_works 83 = .ok (.iload_n 1, 1) := by decide +kernel
theorem dX6_works_84 : decode cX6_works 84 = .ok (.iload_n 2, 1) := by decide +kernel
theorem dX6_works_85 : decode cX6_works 85 = .ok (.if_icmp .ne 7, 3) := by decide +kernel
theorem dX6_works_88 : decode cX6_works 88 = .ok (.iconst 1, 1) := by decide +kernel
theorem dX6_works_89 : decode cX6_works 89 = .ok (.goto 4, 3) := by decide +kernel
theorem dX6_works_92 : decode cX6_works 92 = .ok (.iconst 0, 1) := by decide +kernel
theorem dX6_works_93 : decode cX6_works 93 = .ok (.ireturn, 1) := by decide +kernel
theorem dX6_works_94 : decode cX6_works 94 = .ok (.iload_n 1, 1) := by decide +kernel
theorem dX6_works_95 : decode cX6_works 95 = .ok (.iload_n 2, 1) := by decide +kernel
theorem dX6_works_96 : decode cX6_works 96 = .ok (.iadd, 1) := by decide +kernel
theorem dX6_works_97 : decode cX6_works 97 = .ok (.ireturn, 1) := by decide +kernel
theorem dX6_works_98 : decode cX6_works 98 = .ok (.iload_n 1, 1) := by decide +kernel
theorem dX6_works_99 : decode cX6_works 99 = .ok (.iload_n 2, 1) := by decide +kernel
theorem dX6_works_100 : decode cX6_works 100 = .ok (.isub, 1) := by decide +kernel
theorem dX6_works_101 : decode cX6_works 101 = .ok (.ireturn, 1) := by decide +kernel
theorem dX6_works_102 : decode cX6_works 102 = .ok (.iload_n 1, 1) := by decide +kernel
theorem dX6_works_103 : decode cX6_works 103 = .ok (.iload_n 2, 1) := by decide +kernel
theorem dX6_works_104 : decode cX6_works 104 = .ok (.imul, 1) := by decide +kernel
theorem dX6_works_105 : decode cX6_works 105 = .ok (.ireturn, 1) := by decide +kernel
theorem dX6_works_106 : decode cX6_works 106 = .ok (.iload_n 2, 1) := by decide +kernel
theorem dX6_works_107 : decode cX6_works 107 = .ok (.ifCond .ne 7, 3) := by decide +kernel
theorem dX6_works_110 : decode cX6_works 110 = .ok (.iconst 0, 1) := by decide +kernel
theorem dX6_works_111 : decode cX6_works 111 = .ok (.goto 6, 3) := by decide +kernel
theorem dX6_works_114 : decode cX6_works 114 = .ok (.iload_n 1, 1) := by decide +kernel
theorem dX6_works_115 : decode cX6_works 115 = .ok (.iload_n 2, 1) := by decide +kernel
theorem dX6_works_116 : decode cX6_works 116 = .ok (.idiv, 1) := by decide +kernel
theorem dX6_works_117 : decode cX6_works 117 = .ok (.ireturn, 1) := by decide +kernel
theorem dX6_reckons_0 : decode cX6_reckons 0 = .ok (.iconst 0, 1) := by decide +kernel
theorem dX6_reckons_1 : decode cX6_reckons 1 = .ok (.istore_n 2, 1) := by decide +kernel
theorem dX6_reckons_2 : decode cX6_reckons 2 = .ok (.iload_n 1, 1) := by decide +kernel
theorem dX6_reckons_3 : decode cX6_reckons 3 = .ok (.istore_n 3, 1) := by decide +kernel
theorem dX6_reckons_4 : decode cX6_reckons 4 = .ok (.aload_n 0, 1) := by decide +kernel
theorem dX6_reckons_5 : decode cX6_reckons 5 = .ok (.getfield 32, 3) := by decide +kernel
theorem dX6_reckons_8 : decode cX6_reckons 8 = .ok (.iload_n 3, 1) := by decide +kernel
theorem dX6_reckons_9 : decode cX6_reckons 9 = .ok (.iaload, 1) := by decide +kernel
theorem dX6_reckons_10 : decode cX6_reckons 10 = .ok (.ifCond .eq 133, 3) := by decide +kernel
theorem dX6_reckons_13 : decode cX6_reckons 13 = .ok (.aload_n 0, 1) := by decide +kernel
theorem dX6_reckons_14 : decode cX6_reckons 14 = .ok (.getfield 32, 3) := by decide +kernel
theorem dX6_reckons_17 : decode cX6_reckons 17 = .ok (.iload_n 3, 1) := by decide +kernel
theorem dX6_reckons_18 : decode cX6_reckons 18 = .ok (.iaload, 1) := by decide +kernel
theorem dX6_reckons_19 : decode cX6_reckons 19 = .ok (.istore 4, 2) := by decide +kernel
theorem dX6_reckons_21 : decode cX6_reckons 21 = .ok (.iinc 3 1, 3) := by decide +kernel
theorem dX6_reckons_24 : decode cX6_reckons 24 = .ok (.iload 4, 2) := by decide +kernel
theorem dX6_reckons_26 : decode cX6_reckons 26 = .ok (.iconst 1, 1) := by decide +kernel
theorem dX6_reckons_27 : decode cX6_reckons 27 = .ok (.if_icmp .eq 9, 3) := by decide +kernel
theorem dX6_reckons_30 : decode cX6_reckons 30 = .ok (.iload 4, 2) := by decide +kernel
theorem dX6_reckons_32 : decode cX6_reckons 32 = .ok (.iconst 2, 1) := by decide +kernel
theorem dX6_reckons_33 : decode cX6_reckons 33 = .ok (.if_icmp .ne 44, 3) := by decide +kernel
theorem dX6_reckons_36 : decode cX6_reckons 36 = .ok (.aload_n 0, 1) := by decide +kernel
theorem dX6_reckons_37 : decode cX6_reckons 37 = .ok (.getfield 99, 3) := by decide +kernel
theorem dX6_reckons_40 : decode cX6_reckons 40 = .ok (.iload_n 2, 1) := by decide +kernel
theorem dX6_reckons_41 : decode cX6_reckons 41 = .ok (.iload 4, 2) := by decide +kernel
theorem dX6_reckons_43 : decode cX6_reckons 43 = .ok (.iconst 1, 1) := by decide +kernel
theorem dX6_reckons_44 : decode cX6_reckons 44 = .ok (.if_icmp .ne 12, 3) := by decide +kernel
theorem dX6_reckons_47 : decode cX6_reckons 47 = .ok (.aload_n 0, 1) := by decide +kernel
theorem dX6_reckons_48 : decode cX6_reckons 48 = .ok (.getfield 32, 3) := by decide +kernel
theorem dX6_reckons_51 : decode cX6_reckons 51 = .ok (.iload_n 3, 1) := by decide +kernel
theorem dX6_reckons_52 : decode cX6_reckons 52 = .ok (.iaload, 1) := by decide +kernel
theorem dX6_reckons_53 : decode cX6_reckons 53 = .ok (.goto 14, 3) := by decide +kernel
theorem dX6_reckons_56 : decode cX6_reckons 56 = .ok (.aload_n 0, 1) := by decide +kernel
theorem dX6_reckons_57 : decode cX6_reckons 57 = .ok (.getfield 96, 3) := by decide +kernel
theorem dX6_reckons_60 : decode cX6_reckons 60 = .ok (.aload_n 0, 1) := by decide +kernel
theorem dX6_reckons_61 : decode cX6_reckons 61 = .ok (.getfield 32, 3) := by decide +kernel
theorem dX6_reckons_64 : decode cX6_reckons 64 = .ok (.iload_n 3, 1) := by decide +kernel
theorem dX6_reckons_65 : decode cX6_reckons 65 = .ok (.iaload, 1) := by decide +kernel
theorem dX6_reckons_66 : decode cX6_reckons 66 = .ok (.iaload, 1) := by decide +kernel
theorem dX6_reckons_67 : decode cX6_reckons 67 = .ok (.iastore, 1) := by decide +kernel
theorem dX6_reckons_68 : decode cX6_reckons 68 = .ok (.iinc 3 1, 3) := by decide +kernel
theorem dX6_reckons_71 : decode cX6_reckons 71 = .ok (.iinc 2 1, 3) := by decide +kernel
theorem dX6_reckons_74 : decode cX6_reckons 74 = .ok (.goto 66, 3) := by decide +kernel
theorem dX6_reckons_77 : decode cX6_reckons 77 = .ok (.iload 4, 2) := by decide +kernel
theorem dX6_reckons_79 : decode cX6_reckons 79 = .ok (.iconst 3, 1) := by decide +kernel
theorem dX6_reckons_80 : decode cX6_reckons 80 = .ok (.if_icmp .ne 30, 3) := by decide +kernel
theorem dX6_reckons_83 : decode cX6_reckons 83 = .ok (.aload_n 0, 1) := by decide +kernel
theorem dX6_reckons_84 : decode cX6_reckons 84 = .ok (.getfield 99, 3) := by decide +kernel
theorem dX6_reckons_87 : decode cX6_reckons 87 = .ok (.iload_n 2, 1) := by decide +kernel
theorem dX6_reckons_88 : decode cX6_reckons 88 = .ok (.iconst 1, 1) := by decide +kernel
theorem dX6_reckons_89 : decode cX6_reckons 89 = .ok (.isub, 1) := by decide +kernel
theorem dX6_reckons_90 : decode cX6_reckons 90 = .ok (.aload_n 0, 1) := by decide +kernel
theorem dX6_reckons_91 : decode cX6_reckons 91 = .ok (.getfield 99, 3) := by decide +kernel
theorem dX6_reckons_94 : decode cX6_reckons 94 = .ok (.iload_n 2, 1) := by decide +kernel
theorem dX6_reckons_95 : decode cX6_reckons 95 = .ok (.iconst 1, 1) := by decide +kernel
theorem dX6_reckons_96 : decode cX6_reckons 96 = .ok (.isub, 1) := by decide +kernel
theorem dX6_reckons_97 : decode cX6_reckons 97 = .ok (.iaload, 1) := by decide +kernel
theorem dX6_reckons_98 : decode cX6_reckons 98 = .ok (.ifCond .ne 7, 3) := by decide +kernel
theorem dX6_reckons_101 : decode cX6_reckons 101 = .ok (.iconst 1, 1) := by decide +kernel
theorem dX6_reckons_102 : decode cX6_reckons 102 = .ok (.goto 4, 3) := by decide +kernel
theorem dX6_reckons_105 : decode cX6_reckons 105 = .ok (.iconst 0, 1) := by decide +kernel
theorem dX6_reckons_106 : decode cX6_reckons 106 = .ok (.iastore, 1) := by decide +kernel
theorem dX6_reckons_107 : decode cX6_reckons 107 = .ok (.goto 33, 3) := by decide +kernel
theorem dX6_reckons_110 : decode cX6_reckons 110 = .ok (.iinc 2 (-1), 3) := by decide +kernel
theorem dX6_reckons_113 : decode cX6_reckons 113 = .ok (.aload_n 0, 1) := by decide +kernel
theorem dX6_reckons_114 : decode cX6_reckons 114 = .ok (.getfield 99, 3) := by decide +kernel
theorem dX6_reckons_117 : decode cX6_reckons 117 = .ok (.iload_n 2, 1) := by decide +kernel
theorem dX6_reckons_118 : decode cX6_reckons 118 = .ok (.iconst 1, 1) := by decide +kernel
theorem dX6_reckons_119 : decode cX6_reckons 119 = .ok (.isub, 1) := by decide +kernel
theorem dX6_reckons_120 : decode cX6_reckons 120 = .ok (.iload 4, 2) := by decide +kernel
theorem dX6_reckons_122 : decode cX6_reckons 122 = .ok (.aload_n 0, 1) := by decide +kernel
theorem dX6_reckons_123 : decode cX6_reckons 123 = .ok (.getfield 99, 3) := by decide +kernel
theorem dX6_reckons_126 : decode cX6_reckons 126 = .ok (.iload_n 2, 1) := by decide +kernel
theorem dX6_reckons_127 : decode cX6_reckons 127 = .ok (.iconst 1, 1) := by decide +kernel
theorem dX6_reckons_128 : decode cX6_reckons 128 = .ok (.isub, 1) := by decide +kernel
theorem dX6_reckons_129 : decode cX6_reckons 129 = .ok (.iaload, 1) := by decide +kernel
theorem dX6_reckons_130 : decode cX6_reckons 130 = .ok (.aload_n 0, 1) := by decide +kernel
theorem dX6_reckons_131 : decode cX6_reckons 131 = .ok (.getfield 99, 3) := by decide +kernel
theorem dX6_reckons_134 : decode cX6_reckons 134 = .ok (.iload_n 2, 1) := by decide +kernel
theorem dX6_reckons_135 : decode cX6_reckons 135 = .ok (.iaload, 1) := by decide +kernel
theorem dX6_reckons_136 : decode cX6_reckons 136 = .ok (.invokestatic 360, 3) := by decide +kernel
theorem dX6_reckons_139 : decode cX6_reckons 139 = .ok (.iastore, 1) := by decide +kernel
theorem dX6_reckons_140 : decode cX6_reckons 140 = .ok (.goto (-136), 3) := by decide +kernel
theorem dX6_reckons_143 : decode cX6_reckons 143 = .ok (.aload_n 0, 1) := by decide +kernel
theorem dX6_reckons_144 : decode cX6_reckons 144 = .ok (.getfield 99, 3) := by decide +kernel
theorem dX6_reckons_147 : decode cX6_reckons 147 = .ok (.iconst 0, 1) := by decide +kernel
theorem dX6_reckons_148 : decode cX6_reckons 148 = .ok (.iaload, 1) := by decide +kernel
theorem dX6_reckons_149 : decode cX6_reckons 149 = .ok (.ireturn, 1) := by decide +kernel
theorem dX6_taxBy_0 : decode cX6_taxBy 0 = .ok (.aload_n 0, 1) := by decide +kernel
theorem dX6_taxBy_1 : decode cX6_taxBy 1 = .ok (.iload_n 1, 1) := by decide +kernel
theorem dX6_taxBy_2 : decode cX6_taxBy 2 = .ok (.invokevirtual 364, 3) := by decide +kernel
theorem dX6_taxBy_5 : decode cX6_taxBy 5 = .ok (.iload_n 2, 1) := by decide +kernel
theorem dX6_taxBy_6 : decode cX6_taxBy 6 = .ok (.iconst (-1), 1) := by decide +kernel
theorem dX6_taxBy_7 : decode cX6_taxBy 7 = .ok (.if_icmp .ne 8, 3) := by decide +kernel
theorem dX6_taxBy_10 : decode cX6_taxBy 10 = .ok (.aload_n 0, 1) := by decide +kernel
theorem dX6_taxBy_11 : decode cX6_taxBy 11 = .ok (.getfield 354, 3) := by decide +kernel
theorem dX6_taxBy_14 : decode cX6_taxBy 14 = .ok (.ireturn, 1) := by decide +kernel
theorem dX6_taxBy_15 : decode cX6_taxBy 15 = .ok (.aload_n 0, 1) := by decide +kernel
theorem dX6_taxBy_16 : decode cX6_taxBy 16 = .ok (.getfield 96, 3) := by decide +kernel
theorem dX6_taxBy_19 : decode cX6_taxBy 19 = .ok (.iconst 0, 1) := by decide +kernel
theorem dX6_taxBy_20 : decode cX6_taxBy 20 = .ok (.aload_n 0, 1) := by decide +kernel
theorem dX6_taxBy_21 : decode cX6_taxBy 21 = .ok (.getfield 354, 3) := by decide +kernel
theorem dX6_taxBy_24 : decode cX6_taxBy 24 = .ok (.iastore, 1) := by decide +kernel
theorem dX6_taxBy_25 : decode cX6_taxBy 25 = .ok (.aload_n 0, 1) := by decide +kernel
theorem dX6_taxBy_26 : decode cX6_taxBy 26 = .ok (.getfield 96, 3) := by decide +kernel
theorem dX6_taxBy_29 : decode cX6_taxBy 29 = .ok (.iconst 1, 1) := by decide +kernel
theorem dX6_taxBy_30 : decode cX6_taxBy 30 = .ok (.aload_n 0, 1) := by decide +kernel
theorem dX6_taxBy_31 : decode cX6_taxBy 31 = .ok (.getfield 351, 3) := by decide +kernel
theorem dX6_taxBy_34 : decode cX6_taxBy 34 = .ok (.iastore, 1) := by decide +kernel
theorem dX6_taxBy_35 : decode cX6_taxBy 35 = .ok (.aload_n 0, 1) := by decide +kernel
theorem dX6_taxBy_36 : decode cX6_taxBy 36 = .ok (.getfield 96, 3) := by decide +kernel
theorem dX6_taxBy_39 : decode cX6_taxBy 39 = .ok (.iconst 2, 1) := by decide +kernel
theorem dX6_taxBy_40 : decode cX6_taxBy 40 = .ok (.aload_n 0, 1) := by decide +kernel
theorem dX6_taxBy_41 : decode cX6_taxBy 41 = .ok (.getfield 16, 3) := by decide +kernel
theorem dX6_taxBy_44 : decode cX6_taxBy 44 = .ok (.aload_n 0, 1) := by decide +kernel
theorem dX6_taxBy_45 : decode cX6_taxBy 45 = .ok (.getfield 20, 3) := by decide +kernel
theorem dX6_taxBy_48 : decode cX6_taxBy 48 = .ok (.iload_n 1, 1) := by decide +kernel
theorem dX6_taxBy_49 : decode cX6_taxBy 49 = .ok (.iaload, 1) := by decide +kernel
theorem dX6_taxBy_50 : decode cX6_taxBy 50 = .ok (.iaload, 1) := by decide +kernel
theorem dX6_taxBy_51 : decode cX6_taxBy 51 = .ok (.iastore, 1) := by decide +kernel
theorem dX6_taxBy_52 : decode cX6_taxBy 52 = .ok (.aload_n 0, 1) := by decide +kernel
theorem dX6_taxBy_53 : decode cX6_taxBy 53 = .ok (.getfield 96, 3) := by decide +kernel
theorem dX6_taxBy_56 : decode cX6_taxBy 56 = .ok (.iconst 3, 1) := by decide +kernel
theorem dX6_taxBy_57 : decode cX6_taxBy 57 = .ok (.aload_n 0, 1) := by decide +kernel
theorem dX6_taxBy_58 : decode cX6_taxBy 58 = .ok (.getfield 23, 3) := by decide +kernel
theorem dX6_taxBy_61 : decode cX6_taxBy 61 = .ok (.iload_n 1, 1) := by decide +kernel
theorem dX6_taxBy_62 : decode cX6_taxBy 62 = .ok (.iaload, 1) := by decide +kernel
theorem dX6_taxBy_63 : decode cX6_taxBy 63 = .ok (.iastore, 1) := by decide +kernel
theorem dX6_taxBy_64 : decode cX6_taxBy 64 = .ok (.aload_n 0, 1) := by decide +kernel
theorem dX6_taxBy_65 : decode cX6_taxBy 65 = .ok (.getfield 96, 3) := by decide +kernel
theorem dX6_taxBy_68 : decode cX6_taxBy 68 = .ok (.iconst 4, 1) := by decide +kernel
theorem dX6_taxBy_69 : decode cX6_taxBy 69 = .ok (.aload_n 0, 1) := by decide +kernel
theorem dX6_taxBy_70 : decode cX6_taxBy 70 = .ok (.getfield 75, 3) := by decide +kernel
theorem dX6_taxBy_73 : decode cX6_taxBy 73 = .ok (.bipush 61, 2) := by decide +kernel
theorem dX6_taxBy_75 : decode cX6_taxBy 75 = .ok (.iaload, 1) := by decide +kernel
theorem dX6_taxBy_76 : decode cX6_taxBy 76 = .ok (.iastore, 1) := by decide +kernel
theorem dX6_taxBy_77 : decode cX6_taxBy 77 = .ok (.aload_n 0, 1) := by decide +kernel
theorem dX6_taxBy_78 : decode cX6_taxBy 78 = .ok (.getfield 96, 3) := by decide +kernel
theorem dX6_taxBy_81 : decode cX6_taxBy 81 = .ok (.iconst 5, 1) := by decide +kernel
theorem dX6_taxBy_82 : decode cX6_taxBy 82 = .ok (.aload_n 0, 1) := by decide +kernel
theorem dX6_taxBy_83 : decode cX6_taxBy 83 = .ok (.iload_n 1, 1) := by decide +kernel
theorem dX6_taxBy_84 : decode cX6_taxBy 84 = .ok (.invokevirtual 367, 3) := by decide +kernel
theorem dX6_taxBy_87 : decode cX6_taxBy 87 = .ok (.invokestatic 370, 3) := by decide +kernel
theorem dX6_taxBy_90 : decode cX6_taxBy 90 = .ok (.iastore, 1) := by decide +kernel
theorem dX6_taxBy_91 : decode cX6_taxBy 91 = .ok (.aload_n 0, 1) := by decide +kernel
theorem dX6_taxBy_92 : decode cX6_taxBy 92 = .ok (.getfield 96, 3) := by decide +kernel
theorem dX6_taxBy_95 : decode cX6_taxBy 95 = .ok (.bipush 6, 2) := by decide +kernel
theorem dX6_taxBy_97 : decode cX6_taxBy 97 = .ok (.aload_n 0, 1) := by decide +kernel
theorem dX6_taxBy_98 : decode cX6_taxBy 98 = .ok (.getfield 75, 3) := by decide +kernel
theorem dX6_taxBy_101 : decode cX6_taxBy 101 = .ok (.bipush 42, 2) := by decide +kernel
theorem dX6_taxBy_103 : decode cX6_taxBy 103 = .ok (.iload_n 1, 1) := by decide +kernel
theorem dX6_taxBy_104 : decode cX6_taxBy 104 = .ok (.iadd, 1) := by decide +kernel
theorem dX6_taxBy_105 : decode cX6_taxBy 105 = .ok (.iaload, 1) := by decide +kernel
theorem dX6_taxBy_106 : decode cX6_taxBy 106 = .ok (.iastore, 1) := by decide +kernel
theorem dX6_taxBy_107 : decode cX6_taxBy 107 = .ok (.aload_n 0, 1) := by decide +kernel
theorem dX6_taxBy_108 : decode cX6_taxBy 108 = .ok (.aload_n 0, 1) := by decide +kernel
theorem dX6_taxBy_109 : decode cX6_taxBy 109 = .ok (.getfield 29, 3) := by decide +kernel
theorem dX6_taxBy_112 : decode cX6_taxBy 112 = .ok (.iload_n 2, 1) := by decide +kernel
theorem dX6_taxBy_113 : decode cX6_taxBy 113 = .ok (.iaload, 1) := by decide +kernel
theorem dX6_taxBy_114 : decode cX6_taxBy 114 = .ok (.invokevirtual 373, 3) := by decide +kernel
theorem dX6_taxBy_117 : decode cX6_taxBy 117 = .ok (.istore_n 3, 1) := by decide +kernel
theorem dX6_taxBy_118 : decode cX6_taxBy 118 = .ok (.iload_n 3, 1) := by decide +kernel
theorem dX6_taxBy_119 : decode cX6_taxBy 119 = .ok (.ifCond .ge 7, 3) := by decide +kernel
theorem dX6_taxBy_122 : decode cX6_taxBy 122 = .ok (.iconst 0, 1) := by decide +kernel
theorem dX6_taxBy_123 : decode cX6_taxBy 123 = .ok (.goto 17, 3) := by decide +kernel
theorem dX6_taxBy_126 : decode cX6_taxBy 126 = .ok (.iload_n 3, 1) := by decide +kernel
theorem dX6_taxBy_127 : decode cX6_taxBy 127 = .ok (.sipush 999, 3) := by decide +kernel
theorem dX6_taxBy_130 : decode cX6_taxBy 130 = .ok (.if_icmp .le 9, 3) := by decide +kernel
theorem dX6_taxBy_133 : decode cX6_taxBy 133 = .ok (.sipush 999, 3) := by decide +kernel
theorem dX6_taxBy_136 : decode cX6_taxBy 136 = .ok (.goto 4, 3) := by decide +kernel
theorem dX6_taxBy_139 : decode cX6_taxBy 139 = .ok (.iload_n 3, 1) := by decide +kernel
theorem dX6_taxBy_140 : decode cX6_taxBy 140 = .ok (.ireturn, 1) := by decide +kernel
theorem dX6_taxOf_0 : decode cX6_taxOf 0 = .ok (.aload_n 0, 1) := by decide +kernel
theorem dX6_taxOf_1 : decode cX6_taxOf 1 = .ok (.iload_n 1, 1) := by decide +kernel
theorem dX6_taxOf_2 : decode cX6_taxOf 2 = .ok (.aload_n 0, 1) := by decide +kernel
theorem dX6_taxOf_3 : decode cX6_taxOf 3 = .ok (.getfield 75, 3) := by decide +kernel
theorem dX6_taxOf_6 : decode cX6_taxOf 6 = .ok (.bipush 60, 2) := by decide +kernel
theorem dX6_taxOf_8 : decode cX6_taxOf 8 = .ok (.iaload, 1) := by decide +kernel
theorem dX6_taxOf_9 : decode cX6_taxOf 9 = .ok (.invokevirtual 376, 3) := by decide +kernel
theorem dX6_taxOf_12 : decode cX6_taxOf 12 = .ok (.ireturn, 1) := by decide +kernel
theorem dX6_sumBy_0 : decode cX6_sumBy 0 = .ok (.aload_n 0, 1) := by decide +kernel
theorem dX6_sumBy_1 : decode cX6_sumBy 1 = .ok (.invokevirtual 379, 3) := by decide +kernel
theorem dX6_sumBy_4 : decode cX6_sumBy 4 = .ok (.iconst 0, 1) := by decide +kernel
theorem dX6_sumBy_5 : decode cX6_sumBy 5 = .ok (.istore_n 2, 1) := by decide +kernel
theorem dX6_sumBy_6 : decode cX6_sumBy 6 = .ok (.iconst 0, 1) := by decide +kernel
theorem dX6_sumBy_7 : decode cX6_sumBy 7 = .ok (.istore_n 3, 1) := by decide +kernel
theorem dX6_sumBy_8 : decode cX6_sumBy 8 = .ok (.iload_n 3, 1) := by decide +kernel
theorem dX6_sumBy_9 : decode cX6_sumBy 9 = .ok (.aload_n 0, 1) := by decide +kernel
theorem dX6_sumBy_10 : decode cX6_sumBy 10 = .ok (.getfield 297, 3) := by decide +kernel
theorem dX6_sumBy_13 : decode cX6_sumBy 13 = .ok (.if_icmp .ge 18, 3) := by decide +kernel
theorem dX6_sumBy_16 : decode cX6_sumBy 16 = .ok (.iload_n 2, 1) := by decide +kernel
theorem dX6_sumBy_17 : decode cX6_sumBy 17 = .ok (.aload_n 0, 1) := by decide +kernel
theorem dX6_sumBy_18 : decode cX6_sumBy 18 = .ok (.iload_n 3, 1) := by decide +kernel
theorem dX6_sumBy_19 : decode cX6_sumBy 19 = .ok (.iload_n 1, 1) := by decide +kernel
theorem dX6_sumBy_20 : decode cX6_sumBy 20 = .ok (.invokevirtual 376, 3) := by decide +kernel
theorem dX6_sumBy_23 : decode cX6_sumBy 23 = .ok (.iadd, 1) := by decide +kernel
theorem dX6_sumBy_24 : decode cX6_sumBy 24 = .ok (.istore_n 2, 1) := by decide +kernel
theorem dX6_sumBy_25 : decode cX6_sumBy 25 = .ok (.iinc 3 1, 3) := by decide +kernel
theorem dX6_sumBy_28 : decode cX6_sumBy 28 = .ok (.goto (-20), 3) := by decide +kernel
theorem dX6_sumBy_31 : decode cX6_sumBy 31 = .ok (.iload_n 2, 1) := by decide +kernel
theorem dX6_sumBy_32 : decode cX6_sumBy 32 = .ok (.ireturn, 1) := by decide +kernel
theorem dX6_sum_0 : decode cX6_sum 0 = .ok (.aload_n 0, 1) := by decide +kernel
theorem dX6_sum_1 : decode cX6_sum 1 = .ok (.aload_n 0, 1) := by decide +kernel
theorem dX6_sum_2 : decode cX6_sum 2 = .ok (.getfield 75, 3) := by decide +kernel
theorem dX6_sum_5 : decode cX6_sum 5 = .ok (.bipush 60, 2) := by decide +kernel
theorem dX6_sum_7 : decode cX6_sum 7 = .ok (.iaload, 1) := by decide +kernel
theorem dX6_sum_8 : decode cX6_sum 8 = .ok (.invokevirtual 382, 3) := by decide +kernel
theorem dX6_sum_11 : decode cX6_sum 11 = .ok (.ireturn, 1) := by decide +kernel
theorem dX6_treesStand_0 : decode cX6_treesStand 0 = .ok (.iconst 0, 1) := by decide +kernel
theorem dX6_treesStand_1 : decode cX6_treesStand 1 = .ok (.istore_n 1, 1) := by decide +kernel
theorem dX6_treesStand_2 : decode cX6_treesStand 2 = .ok (.iconst 0, 1) := by decide +kernel
theorem dX6_treesStand_3 : decode cX6_treesStand 3 = .ok (.istore_n 2, 1) := by decide +kernel
theorem dX6_treesStand_4 : decode cX6_treesStand 4 = .ok (.iload_n 2, 1) := by decide +kernel
theorem dX6_treesStand_5 : decode cX6_treesStand 5 = .ok (.bipush 12, 2) := by decide +kernel
theorem dX6_treesStand_7 : decode cX6_treesStand 7 = .ok (.if_icmp .ge 29, 3) := by decide +kernel
theorem dX6_treesStand_10 : decode cX6_treesStand 10 = .ok (.iload_n 1, 1) := by decide +kernel
theorem dX6_treesStand_11 : decode cX6_treesStand 11 = .ok (.aload_n 0, 1) := by decide +kernel
theorem dX6_treesStand_12 : decode cX6_treesStand 12 = .ok (.getfield 75, 3) := by decide +kernel
theorem dX6_treesStand_15 : decode cX6_treesStand 15 = .ok (.iconst 0, 1) := by decide +kernel
theorem dX6_treesStand_16 : decode cX6_treesStand 16 = .ok (.iload_n 2, 1) := by decide +kernel
theorem dX6_treesStand_17 : decode cX6_treesStand 17 = .ok (.iadd, 1) := by decide +kernel
theorem dX6_treesStand_18 : decode cX6_treesStand 18 = .ok (.iaload, 1) := by decide +kernel
theorem dX6_treesStand_19 : decode cX6_treesStand 19 = .ok (.iconst (-1), 1) := by decide +kernel
theorem dX6_treesStand_20 : decode cX6_treesStand 20 = .ok (.if_icmp .eq 7, 3) := by decide +kernel
theorem dX6_treesStand_23 : decode cX6_treesStand 23 = .ok (.iconst 1, 1) := by decide +kernel
theorem dX6_treesStand_24 : decode cX6_treesStand 24 = .ok (.goto 4, 3) := by decide +kernel
theorem dX6_treesStand_27 : decode cX6_treesStand 27 = .ok (.iconst 0, 1) := by decide +kernel
theorem dX6_treesStand_28 : decode cX6_treesStand 28 = .ok (.iadd, 1) := by decide +kernel
theorem dX6_treesStand_29 : decode cX6_treesStand 29 = .ok (.istore_n 1, 1) := by decide +kernel
theorem dX6_treesStand_30 : decode cX6_treesStand 30 = .ok (.iinc 2 1, 3) := by decide +kernel
theorem dX6_treesStand_33 : decode cX6_treesStand 33 = .ok (.goto (-29), 3) := by decide +kernel
theorem dX6_treesStand_36 : decode cX6_treesStand 36 = .ok (.iload_n 1, 1) := by decide +kernel
theorem dX6_treesStand_37 : decode cX6_treesStand 37 = .ok (.ireturn, 1) := by decide +kernel
theorem dX6_count_0 : decode cX6_count 0 = .ok (.aload_n 0, 1) := by decide +kernel
theorem dX6_count_1 : decode cX6_count 1 = .ok (.iconst 0, 1) := by decide +kernel
theorem dX6_count_2 : decode cX6_count 2 = .ok (.putfield 129, 3) := by decide +kernel
theorem dX6_count_5 : decode cX6_count 5 = .ok (.aload_n 0, 1) := by decide +kernel
theorem dX6_count_6 : decode cX6_count 6 = .ok (.iload_n 1, 1) := by decide +kernel
theorem dX6_count_7 : decode cX6_count 7 = .ok (.iconst 0, 1) := by decide +kernel
theorem dX6_count_8 : decode cX6_count 8 = .ok (.bipush 14, 2) := by decide +kernel
theorem dX6_count_10 : decode cX6_count 10 = .ok (.invokestatic 385, 3) := by decide +kernel
theorem dX6_count_13 : decode cX6_count 13 = .ok (.iconst 1, 1) := by decide +kernel
theorem dX6_count_14 : decode cX6_count 14 = .ok (.invokevirtual 290, 3) := by decide +kernel
theorem dX6_count_17 : decode cX6_count 17 = .ok (.ifCond .ne 5, 3) := by decide +kernel
theorem dX6_count_20 : decode cX6_count 20 = .ok (.iconst 0, 1) := by decide +kernel
theorem dX6_count_21 : decode cX6_count 21 = .ok (.ireturn, 1) := by decide +kernel
theorem dX6_count_22 : decode cX6_count 22 = .ok (.iload_n 1, 1) := by decide +kernel
theorem dX6_count_23 : decode cX6_count 23 = .ok (.tableswitch 127 0 11 #[61, 66, 71, 76, 81, 86, 94, 102, 107, 112, 117, 122], 61) := by decide +kernel
theorem dX6_count_84 : decode cX6_count 84 = .ok (.aload_n 0, 1) := by decide +kernel
theorem dX6_count_85 : decode cX6_count 85 = .ok (.getfield 7, 3) := by decide +kernel
theorem dX6_count_88 : decode cX6_count 88 = .ok (.ireturn, 1) := by decide +kernel
theorem dX6_count_89 : decode cX6_count 89 = .ok (.aload_n 0, 1) := by decide +kernel
theorem dX6_count_90 : decode cX6_count 90 = .ok (.getfield 13, 3) := by decide +kernel
theorem dX6_count_93 : decode cX6_count 93 = .ok (.ireturn, 1) := by decide +kernel
theorem dX6_count_94 : decode cX6_count 94 = .ok (.aload_n 0, 1) := by decide +kernel
theorem dX6_count_95 : decode cX6_count 95 = .ok (.invokevirtual 389, 3) := by decide +kernel
theorem dX6_count_98 : decode cX6_count 98 = .ok (.ireturn, 1) := by decide +kernel
theorem dX6_count_99 : decode cX6_count 99 = .ok (.aload_n 0, 1) := by decide +kernel
theorem dX6_count_100 : decode cX6_count 100 = .ok (.getfield 297, 3) := by decide +kernel
theorem dX6_count_103 : decode cX6_count 103 = .ok (.ireturn, 1) := by decide +kernel
theorem dX6_count_104 : decode cX6_count 104 = .ok (.aload_n 0, 1) := by decide +kernel
theorem dX6_count_105 : decode cX6_count 105 = .ok (.getfield 300, 3) := by decide +kernel
theorem dX6_count_108 : decode cX6_count 108 = .ok (.ireturn, 1) := by decide +kernel
theorem dX6_count_109 : decode cX6_count 109 = .ok (.aload_n 0, 1) := by decide +kernel
theorem dX6_count_110 : decode cX6_count 110 = .ok (.getfield 75, 3) := by decide +kernel
theorem dX6_count_113 : decode cX6_count 113 = .ok (.bipush 60, 2) := by decide +kernel
theorem dX6_count_115 : decode cX6_count 115 = .ok (.iaload, 1) := by decide +kernel
theorem dX6_count_116 : decode cX6_count 116 = .ok (.ireturn, 1) := by decide +kernel
theorem dX6_count_117 : decode cX6_count 117 = .ok (.aload_n 0, 1) := by decide +kernel
theorem dX6_count_118 : decode cX6_count 118 = .ok (.getfield 75, 3) := by decide +kernel
theorem dX6_count_121 : decode cX6_count 121 = .ok (.bipush 61, 2) := by decide +kernel
theorem dX6_count_123 : decode cX6_count 123 = .ok (.iaload, 1) := by decide +kernel
theorem dX6_count_124 : decode cX6_count 124 = .ok (.ireturn, 1) := by decide +kernel
theorem dX6_count_125 : decode cX6_count 125 = .ok (.aload_n 0, 1) := by decide +kernel
theorem dX6_count_126 : decode cX6_count 126 = .ok (.invokevirtual 344, 3) := by decide +kernel
theorem dX6_count_129 : decode cX6_count 129 = .ok (.ireturn, 1) := by decide +kernel
theorem dX6_count_130 : decode cX6_count 130 = .ok (.aload_n 0, 1) := by decide +kernel
theorem dX6_count_131 : decode cX6_count 131 = .ok (.invokevirtual 392, 3) := by decide +kernel
theorem dX6_count_134 : decode cX6_count 134 = .ok (.ireturn, 1) := by decide +kernel
theorem dX6_count_135 : decode cX6_count 135 = .ok (.aload_n 0, 1) := by decide +kernel
theorem dX6_count_136 : decode cX6_count 136 = .ok (.getfield 310, 3) := by decide +kernel
theorem dX6_count_139 : decode cX6_count 139 = .ok (.ireturn, 1) := by decide +kernel
theorem dX6_count_140 : decode cX6_count 140 = .ok (.aload_n 0, 1) := by decide +kernel
theorem dX6_count_141 : decode cX6_count 141 = .ok (.getfield 313, 3) := by decide +kernel
theorem dX6_count_144 : decode cX6_count 144 = .ok (.ireturn, 1) := by decide +kernel
theorem dX6_count_145 : decode cX6_count 145 = .ok (.aload_n 0, 1) := by decide +kernel
theorem dX6_count_146 : decode cX6_count 146 = .ok (.getfield 132, 3) := by decide +kernel
theorem dX6_count_149 : decode cX6_count 149 = .ok (.ireturn, 1) := by decide +kernel
theorem dX6_count_150 : decode cX6_count 150 = .ok (.aload_n 0, 1) := by decide +kernel
theorem dX6_count_151 : decode cX6_count 151 = .ok (.getfield 41, 3) := by decide +kernel
theorem dX6_count_154 : decode cX6_count 154 = .ok (.iload_n 1, 1) := by decide +kernel
theorem dX6_count_155 : decode cX6_count 155 = .ok (.bipush 12, 2) := by decide +kernel
theorem dX6_count_157 : decode cX6_count 157 = .ok (.isub, 1) := by decide +kernel
theorem dX6_count_158 : decode cX6_count 158 = .ok (.iaload, 1) := by decide +kernel
theorem dX6_count_159 : decode cX6_count 159 = .ok (.ireturn, 1) := by decide +kernel
theorem dX6_isCell_0 : decode cX6_isCell 0 = .ok (.aload_n 0, 1) := by decide +kernel
theorem dX6_isCell_1 : decode cX6_isCell 1 = .ok (.iload_n 1, 1) := by decide +kernel
theorem dX6_isCell_2 : decode cX6_isCell 2 = .ok (.ifCond .lt 15, 3) := by decide +kernel
theorem dX6_isCell_5 : decode cX6_isCell 5 = .ok (.iload_n 1, 1) := by decide +kernel
theorem dX6_isCell_6 : decode cX6_isCell 6 = .ok (.aload_n 0, 1) := by decide +kernel
theorem dX6_isCell_7 : decode cX6_isCell 7 = .ok (.invokevirtual 323, 3) := by decide +kernel
theorem dX6_isCell_10 : decode cX6_isCell 10 = .ok (.if_icmp .ge 7, 3) := by decide +kernel
theorem dX6_isCell_13 : decode cX6_isCell 13 = .ok (.iconst 1, 1) := by decide +kernel
theorem dX6_isCell_14 : decode cX6_isCell 14 = .ok (.goto 4, 3) := by decide +kernel
theorem dX6_isCell_17 : decode cX6_isCell 17 = .ok (.iconst 0, 1) := by decide +kernel
theorem dX6_isCell_18 : decode cX6_isCell 18 = .ok (.iconst 1, 1) := by decide +kernel
theorem dX6_isCell_19 : decode cX6_isCell 19 = .ok (.invokevirtual 290, 3) := by decide +kernel
theorem dX6_isCell_22 : decode cX6_isCell 22 = .ok (.ireturn, 1) := by decide +kernel
theorem dX6_isTree_0 : decode cX6_isTree 0 = .ok (.aload_n 0, 1) := by decide +kernel
theorem dX6_isTree_1 : decode cX6_isTree 1 = .ok (.iload_n 1, 1) := by decide +kernel
theorem dX6_isTree_2 : decode cX6_isTree 2 = .ok (.ifCond .lt 25, 3) := by decide +kernel
theorem dX6_isTree_5 : decode cX6_isTree 5 = .ok (.iload_n 1, 1) := by decide +kernel
theorem dX6_isTree_6 : decode cX6_isTree 6 = .ok (.bipush 12, 2) := by decide +kernel
theorem dX6_isTree_8 : decode cX6_isTree 8 = .ok (.if_icmp .ge 19, 3) := by decide +kernel
theorem dX6_isTree_11 : decode cX6_isTree 11 = .ok (.aload_n 0, 1) := by decide +kernel
theorem dX6_isTree_12 : decode cX6_isTree 12 = .ok (.getfield 75, 3) := by decide +kernel
theorem dX6_isTree_15 : decode cX6_isTree 15 = .ok (.iconst 0, 1) := by decide +kernel
theorem dX6_isTree_16 : decode cX6_isTree 16 = .ok (.iload_n 1, 1) := by decide +kernel
theorem dX6_isTree_17 : decode cX6_isTree 17 = .ok (.iadd, 1) := by decide +kernel
theorem dX6_isTree_18 : decode cX6_isTree 18 = .ok (.iaload, 1) := by decide +kernel
theorem dX6_isTree_19 : decode cX6_isTree 19 = .ok (.iconst (-1), 1) := by decide +kernel
theorem dX6_isTree_20 : decode cX6_isTree 20 = .ok (.if_icmp .eq 7, 3) := by decide +kernel
theorem dX6_isTree_23 : decode cX6_isTree 23 = .ok (.iconst 1, 1) := by decide +kernel
theorem dX6_isTree_24 : decode cX6_isTree 24 = .ok (.goto 4, 3) := by decide +kernel
theorem dX6_isTree_27 : decode cX6_isTree 27 = .ok (.iconst 0, 1) := by decide +kernel
theorem dX6_isTree_28 : decode cX6_isTree 28 = .ok (.iconst 1, 1) := by decide +kernel
theorem dX6_isTree_29 : decode cX6_isTree 29 = .ok (.invokevirtual 290, 3) := by decide +kernel
theorem dX6_isTree_32 : decode cX6_isTree 32 = .ok (.ireturn, 1) := by decide +kernel
theorem dX6_isHouse_0 : decode cX6_isHouse 0 = .ok (.aload_n 0, 1) := by decide +kernel
theorem dX6_isHouse_1 : decode cX6_isHouse 1 = .ok (.iload_n 1, 1) := by decide +kernel
theorem dX6_isHouse_2 : decode cX6_isHouse 2 = .ok (.ifCond .lt 15, 3) := by decide +kernel
theorem dX6_isHouse_5 : decode cX6_isHouse 5 = .ok (.iload_n 1, 1) := by decide +kernel
theorem dX6_isHouse_6 : decode cX6_isHouse 6 = .ok (.aload_n 0, 1) := by decide +kernel
theorem dX6_isHouse_7 : decode cX6_isHouse 7 = .ok (.getfield 297, 3) := by decide +kernel
theorem dX6_isHouse_10 : decode cX6_isHouse 10 = .ok (.if_icmp .ge 7, 3) := by decide +kernel
theorem dX6_isHouse_13 : decode cX6_isHouse 13 = .ok (.iconst 1, 1) := by decide +kernel
theorem dX6_isHouse_14 : decode cX6_isHouse 14 = .ok (.goto 4, 3) := by decide +kernel
theorem dX6_isHouse_17 : decode cX6_isHouse 17 = .ok (.iconst 0, 1) := by decide +kernel
theorem dX6_isHouse_18 : decode cX6_isHouse 18 = .ok (.iconst 1, 1) := by decide +kernel
theorem dX6_isHouse_19 : decode cX6_isHouse 19 = .ok (.invokevirtual 290, 3) := by decide +kernel
theorem dX6_isHouse_22 : decode cX6_isHouse 22 = .ok (.ireturn, 1) := by decide +kernel
theorem dX6_isWhat_0 : decode cX6_isWhat 0 = .ok (.aload_n 0, 1) := by decide +kernel
theorem dX6_isWhat_1 : decode cX6_isWhat 1 = .ok (.iload_n 1, 1) := by decide +kernel
theorem dX6_isWhat_2 : decode cX6_isWhat 2 = .ok (.iconst 0, 1) := by decide +kernel
theorem dX6_isWhat_3 : decode cX6_isWhat 3 = .ok (.iload_n 2, 1) := by decide +kernel
theorem dX6_isWhat_4 : decode cX6_isWhat 4 = .ok (.invokestatic 385, 3) := by decide +kernel
theorem dX6_isWhat_7 : decode cX6_isWhat 7 = .ok (.iconst 1, 1) := by decide +kernel
theorem dX6_isWhat_8 : decode cX6_isWhat 8 = .ok (.invokevirtual 290, 3) := by decide +kernel
theorem dX6_isWhat_11 : decode cX6_isWhat 11 = .ok (.ireturn, 1) := by decide +kernel
theorem dX6_seenFrom_0 : decode cX6_seenFrom 0 = .ok (.iconst 0, 1) := by decide +kernel
theorem dX6_seenFrom_1 : decode cX6_seenFrom 1 = .ok (.istore_n 2, 1) := by decide +kernel
theorem dX6_seenFrom_2 : decode cX6_seenFrom 2 = .ok (.iconst 0, 1) := by decide +kernel
theorem dX6_seenFrom_3 : decode cX6_seenFrom 3 = .ok (.istore_n 3, 1) := by decide +kernel
theorem dX6_seenFrom_4 : decode cX6_seenFrom 4 = .ok (.iload_n 3, 1) := by decide +kernel
theorem dX6_seenFrom_5 : decode cX6_seenFrom 5 = .ok (.aload_n 0, 1) := by decide +kernel
theorem dX6_seenFrom_6 : decode cX6_seenFrom 6 = .ok (.getfield 297, 3) := by decide +kernel
theorem dX6_seenFrom_9 : decode cX6_seenFrom 9 = .ok (.if_icmp .ge 37, 3) := by decide +kernel
theorem dX6_seenFrom_12 : decode cX6_seenFrom 12 = .ok (.aload_n 0, 1) := by decide +kernel
theorem dX6_seenFrom_13 : decode cX6_seenFrom 13 = .ok (.iload_n 3, 1) := by decide +kernel
theorem dX6_seenFrom_14 : decode cX6_seenFrom 14 = .ok (.invokevirtual 364, 3) := by decide +kernel
theorem dX6_seenFrom_17 : decode cX6_seenFrom 17 = .ok (.iload_n 2, 1) := by decide +kernel
theorem dX6_seenFrom_18 : decode cX6_seenFrom 18 = .ok (.aload_n 0, 1) := by decide +kernel
theorem dX6_seenFrom_19 : decode cX6_seenFrom 19 = .ok (.getfield 338, 3) := by decide +kernel
theorem dX6_seenFrom_22 : decode cX6_seenFrom 22 = .ok (.iload_n 1, 1) := by decide +kernel
theorem dX6_seenFrom_23 : decode cX6_seenFrom 23 = .ok (.lshr, 1) := by decide +kernel
theorem dX6_seenFrom_24 : decode cX6_seenFrom 24 = .ok (.lconst 1, 1) := by decide +kernel
theorem dX6_seenFrom_25 : decode cX6_seenFrom 25 = .ok (.land, 1) := by decide +kernel
theorem dX6_seenFrom_26 : decode cX6_seenFrom 26 = .ok (.lconst 1, 1) := by decide +kernel
theorem dX6_seenFrom_27 : decode cX6_seenFrom 27 = .ok (.lcmp, 1) := by decide +kernel
theorem dX6_seenFrom_28 : decode cX6_seenFrom 28 = .ok (.ifCond .ne 9, 3) := by decide +kernel
theorem dX6_seenFrom_31 : decode cX6_seenFrom 31 = .ok (.iconst 1, 1) := by decide +kernel
theorem dX6_seenFrom_32 : decode cX6_seenFrom 32 = .ok (.iload_n 3, 1) := by decide +kernel
theorem dX6_seenFrom_33 : decode cX6_seenFrom 33 = .ok (.ishl, 1) := by decide +kernel
theorem dX6_seenFrom_34 : decode cX6_seenFrom 34 = .ok (.goto 4, 3) := by decide +kernel
theorem dX6_seenFrom_37 : decode cX6_seenFrom 37 = .ok (.iconst 0, 1) := by decide +kernel
theorem dX6_seenFrom_38 : decode cX6_seenFrom 38 = .ok (.ior, 1) := by decide +kernel
theorem dX6_seenFrom_39 : decode cX6_seenFrom 39 = .ok (.istore_n 2, 1) := by decide +kernel
theorem dX6_seenFrom_40 : decode cX6_seenFrom 40 = .ok (.iinc 3 1, 3) := by decide +kernel
theorem dX6_seenFrom_43 : decode cX6_seenFrom 43 = .ok (.goto (-39), 3) := by decide +kernel
theorem dX6_seenFrom_46 : decode cX6_seenFrom 46 = .ok (.iload_n 2, 1) := by decide +kernel
theorem dX6_seenFrom_47 : decode cX6_seenFrom 47 = .ok (.ireturn, 1) := by decide +kernel
theorem dX6_cell_0 : decode cX6_cell 0 = .ok (.aload_n 0, 1) := by decide +kernel
theorem dX6_cell_1 : decode cX6_cell 1 = .ok (.iconst 0, 1) := by decide +kernel
theorem dX6_cell_2 : decode cX6_cell 2 = .ok (.putfield 129, 3) := by decide +kernel
theorem dX6_cell_5 : decode cX6_cell 5 = .ok (.aload_n 0, 1) := by decide +kernel
theorem dX6_cell_6 : decode cX6_cell 6 = .ok (.iload_n 1, 1) := by decide +kernel
theorem dX6_cell_7 : decode cX6_cell 7 = .ok (.invokevirtual 395, 3) := by decide +kernel
theorem dX6_cell_10 : decode cX6_cell 10 = .ok (.ifCond .eq 12, 3) := by decide +kernel
theorem dX6_cell_13 : decode cX6_cell 13 = .ok (.aload_n 0, 1) := by decide +kernel
theorem dX6_cell_14 : decode cX6_cell 14 = .ok (.iload_n 2, 1) := by decide +kernel
theorem dX6_cell_15 : decode cX6_cell 15 = .ok (.iconst 4, 1) := by decide +kernel
theorem dX6_cell_16 : decode cX6_cell 16 = .ok (.invokevirtual 398, 3) := by decide +kernel
theorem dX6_cell_19 : decode cX6_cell 19 = .ok (.ifCond .ne 5, 3) := by decide +kernel
theorem dX6_cell_22 : decode cX6_cell 22 = .ok (.iconst 0, 1) := by decide +kernel
theorem dX6_cell_23 : decode cX6_cell 23 = .ok (.ireturn, 1) := by decide +kernel
theorem dX6_cell_24 : decode cX6_cell 24 = .ok (.aload_n 0, 1) := by decide +kernel
theorem dX6_cell_25 : decode cX6_cell 25 = .ok (.invokevirtual 379, 3) := by decide +kernel
theorem dX6_cell_28 : decode cX6_cell 28 = .ok (.iload_n 2, 1) := by decide +kernel
theorem dX6_cell_29 : decode cX6_cell 29 = .ok (.ifCond .ne 12, 3) := by decide +kernel
theorem dX6_cell_32 : decode cX6_cell 32 = .ok (.aload_n 0, 1) := by decide +kernel
theorem dX6_cell_33 : decode cX6_cell 33 = .ok (.getfield 16, 3) := by decide +kernel
theorem dX6_cell_36 : decode cX6_cell 36 = .ok (.iload_n 1, 1) := by decide +kernel
theorem dX6_cell_37 : decode cX6_cell 37 = .ok (.iaload, 1) := by decide +kernel
theorem dX6_cell_38 : decode cX6_cell 38 = .ok (.goto 48, 3) := by decide +kernel
theorem dX6_cell_41 : decode cX6_cell 41 = .ok (.iload_n 2, 1) := by decide +kernel
theorem dX6_cell_42 : decode cX6_cell 42 = .ok (.iconst 1, 1) := by decide +kernel
theorem dX6_cell_43 : decode cX6_cell 43 = .ok (.if_icmp .ne 12, 3) := by decide +kernel
theorem dX6_cell_46 : decode cX6_cell 46 = .ok (.aload_n 0, 1) := by decide +kernel
theorem dX6_cell_47 : decode cX6_cell 47 = .ok (.getfield 84, 3) := by decide +kernel
theorem dX6_cell_50 : decode cX6_cell 50 = .ok (.iload_n 1, 1) := by decide +kernel
theorem dX6_cell_51 : decode cX6_cell 51 = .ok (.iaload, 1) := by decide +kernel
theorem dX6_cell_52 : decode cX6_cell 52 = .ok (.goto 34, 3) := by decide +kernel
theorem dX6_cell_55 : decode cX6_cell 55 = .ok (.iload_n 2, 1) := by decide +kernel
theorem dX6_cell_56 : decode cX6_cell 56 = .ok (.iconst 2, 1) := by decide +kernel
theorem dX6_cell_57 : decode cX6_cell 57 = .ok (.if_icmp .ne 11, 3) := by decide +kernel
theorem dX6_cell_60 : decode cX6_cell 60 = .ok (.aload_n 0, 1) := by decide +kernel
theorem dX6_cell_61 : decode cX6_cell 61 = .ok (.iload_n 1, 1) := by decide +kernel
theorem dX6_cell_62 : decode cX6_cell 62 = .ok (.invokevirtual 329, 3) := by decide +kernel
theorem dX6_cell_65 : decode cX6_cell 65 = .ok (.goto 21, 3) := by decide +kernel
theorem dX6_cell_68 : decode cX6_cell 68 = .ok (.iload_n 2, 1) := by decide +kernel
theorem dX6_cell_69 : decode cX6_cell 69 = .ok (.iconst 3, 1) := by decide +kernel
theorem dX6_cell_70 : decode cX6_cell 70 = .ok (.if_icmp .ne 11, 3) := by decide +kernel
theorem dX6_cell_73 : decode cX6_cell 73 = .ok (.aload_n 0, 1) := by decide +kernel
theorem dX6_cell_74 : decode cX6_cell 74 = .ok (.iload_n 1, 1) := by decide +kernel
theorem dX6_cell_75 : decode cX6_cell 75 = .ok (.invokevirtual 326, 3) := by decide +kernel
theorem dX6_cell_78 : decode cX6_cell 78 = .ok (.goto 8, 3) := by decide +kernel
theorem dX6_cell_81 : decode cX6_cell 81 = .ok (.aload_n 0, 1) := by decide +kernel
theorem dX6_cell_82 : decode cX6_cell 82 = .ok (.iload_n 1, 1) := by decide +kernel
theorem dX6_cell_83 : decode cX6_cell 83 = .ok (.invokevirtual 401, 3) := by decide +kernel
theorem dX6_cell_86 : decode cX6_cell 86 = .ok (.ireturn, 1) := by decide +kernel
theorem dX6_tree_0 : decode cX6_tree 0 = .ok (.aload_n 0, 1) := by decide +kernel
theorem dX6_tree_1 : decode cX6_tree 1 = .ok (.iconst 0, 1) := by decide +kernel
theorem dX6_tree_2 : decode cX6_tree 2 = .ok (.putfield 129, 3) := by decide +kernel
theorem dX6_tree_5 : decode cX6_tree 5 = .ok (.aload_n 0, 1) := by decide +kernel
theorem dX6_tree_6 : decode cX6_tree 6 = .ok (.iload_n 1, 1) := by decide +kernel
theorem dX6_tree_7 : decode cX6_tree 7 = .ok (.invokevirtual 404, 3) := by decide +kernel
theorem dX6_tree_10 : decode cX6_tree 10 = .ok (.ifCond .eq 26, 3) := by decide +kernel
theorem dX6_tree_13 : decode cX6_tree 13 = .ok (.aload_n 0, 1) := by decide +kernel
theorem dX6_tree_14 : decode cX6_tree 14 = .ok (.iload_n 2, 1) := by decide +kernel
theorem dX6_tree_15 : decode cX6_tree 15 = .ok (.iconst 2, 1) := by decide +kernel
theorem dX6_tree_16 : decode cX6_tree 16 = .ok (.invokevirtual 398, 3) := by decide +kernel
theorem dX6_tree_19 : decode cX6_tree 19 = .ok (.ifCond .eq 17, 3) := by decide +kernel
theorem dX6_tree_22 : decode cX6_tree 22 = .ok (.aload_n 0, 1) := by decide +kernel
theorem dX6_tree_23 : decode cX6_tree 23 = .ok (.getfield 75, 3) := by decide +kernel
theorem dX6_tree_26 : decode cX6_tree 26 = .ok (.bipush 12, 2) := by decide +kernel
theorem dX6_tree_28 : decode cX6_tree 28 = .ok (.iload_n 2, 1) := by decide +kernel
theorem dX6_tree_29 : decode cX6_tree 29 = .ok (.imul, 1) := by decide +kernel
theorem dX6_tree_30 : decode cX6_tree 30 = .ok (.iload_n 1, 1) := by decide +kernel
theorem dX6_tree_31 : decode cX6_tree 31 = .ok (.iadd, 1) := by decide +kernel
theorem dX6_tree_32 : decode cX6_tree 32 = .ok (.iaload, 1) := by decide +kernel
theorem dX6_tree_33 : decode cX6_tree 33 = .ok (.goto 4, 3) := by decide +kernel
theorem dX6_tree_36 : decode cX6_tree 36 = .ok (.iconst 0, 1) := by decide +kernel
theorem dX6_tree_37 : decode cX6_tree 37 = .ok (.ireturn, 1) := by decide +kernel
theorem dX6_house_0 : decode cX6_house 0 = .ok (.aload_n 0, 1) := by decide +kernel
theorem dX6_house_1 : decode cX6_house 1 = .ok (.iconst 0, 1) := by decide +kernel
theorem dX6_house_2 : decode cX6_house 2 = .ok (.putfield 129, 3) := by decide +kernel
theorem dX6_house_5 : decode cX6_house 5 = .ok (.aload_n 0, 1) := by decide +kernel
theorem dX6_house_6 : decode cX6_house 6 = .ok (.iload_n 1, 1) := by decide +kernel
theorem dX6_house_7 : decode cX6_house 7 = .ok (.invokevirtual 407, 3) := by decide +kernel
theorem dX6_house_10 : decode cX6_house 10 = .ok (.ifCond .eq 13, 3) := by decide +kernel
theorem dX6_house_13 : decode cX6_house 13 = .ok (.aload_n 0, 1) := by decide +kernel
theorem dX6_house_14 : decode cX6_house 14 = .ok (.iload_n 2, 1) := by decide +kernel
theorem dX6_house_15 : decode cX6_house 15 = .ok (.bipush 8, 2) := by decide +kernel
theorem dX6_house_17 : decode cX6_house 17 = .ok (.invokevirtual 398, 3) := by decide +kernel
theorem dX6_house_20 : decode cX6_house 20 = .ok (.ifCond .ne 5, 3) := by decide +kernel
theorem dX6_house_23 : decode cX6_house 23 = .ok (.iconst 0, 1) := by decide +kernel
theorem dX6_house_24 : decode cX6_house 24 = .ok (.ireturn, 1) := by decide +kernel
theorem dX6_house_25 : decode cX6_house 25 = .ok (.aload_n 0, 1) := by decide +kernel
theorem dX6_house_26 : decode cX6_house 26 = .ok (.invokevirtual 379, 3) := by decide +kernel
theorem dX6_house_29 : decode cX6_house 29 = .ok (.aload_n 0, 1) := by decide +kernel
theorem dX6_house_30 : decode cX6_house 30 = .ok (.iload_n 1, 1) := by decide +kernel
theorem dX6_house_31 : decode cX6_house 31 = .ok (.invokevirtual 364, 3) := by decide +kernel
theorem dX6_house_34 : decode cX6_house 34 = .ok (.iload_n 2, 1) := by decide +kernel
theorem dX6_house_35 : decode cX6_house 35 = .ok (.tableswitch 80 0 8 #[49, 56, 80, 80, 80, 80, 63, 68, 74], 49) := by decide +kernel
theorem dX6_house_84 : decode cX6_house 84 = .ok (.aload_n 0, 1) := by decide +kernel
theorem dX6_house_85 : decode cX6_house 85 = .ok (.getfield 20, 3) := by decide +kernel
theorem dX6_house_88 : decode cX6_house 88 = .ok (.iload_n 1, 1) := by decide +kernel
theorem dX6_house_89 : decode cX6_house 89 = .ok (.iaload, 1) := by decide +kernel
theorem dX6_house_90 : decode cX6_house 90 = .ok (.ireturn, 1) := by decide +kernel
theorem dX6_house_91 : decode cX6_house 91 = .ok (.aload_n 0, 1) := by decide +kernel
theorem dX6_house_92 : decode cX6_house 92 = .ok (.getfield 23, 3) := by decide +kernel
theorem dX6_house_95 : decode cX6_house 95 = .ok (.iload_n 1, 1) := by decide +kernel
theorem dX6_house_96 : decode cX6_house 96 = .ok (.iaload, 1) := by decide +kernel
theorem dX6_house_97 : decode cX6_house 97 = .ok (.ireturn, 1) := by decide +kernel
theorem dX6_house_98 : decode cX6_house 98 = .ok (.aload_n 0, 1) := by decide +kernel
theorem dX6_house_99 : decode cX6_house 99 = .ok (.getfield 354, 3) := by decide +kernel
theorem dX6_house_102 : decode cX6_house 102 = .ok (.ireturn, 1) := by decide +kernel
theorem dX6_house_103 : decode cX6_house 103 = .ok (.aload_n 0, 1) := by decide +kernel
theorem dX6_house_104 : decode cX6_house 104 = .ok (.iload_n 1, 1) := by decide +kernel
theorem dX6_house_105 : decode cX6_house 105 = .ok (.invokevirtual 410, 3) := by decide +kernel
theorem dX6_house_108 : decode cX6_house 108 = .ok (.ireturn, 1) := by decide +kernel
theorem dX6_house_109 : decode cX6_house 109 = .ok (.aload_n 0, 1) := by decide +kernel
theorem dX6_house_110 : decode cX6_house 110 = .ok (.iload_n 1, 1) := by decide +kernel
theorem dX6_house_111 : decode cX6_house 111 = .ok (.invokevirtual 367, 3) := by decide +kernel
theorem dX6_house_114 : decode cX6_house 114 = .ok (.ireturn, 1) := by decide +kernel
theorem dX6_house_115 : decode cX6_house 115 = .ok (.aload_n 0, 1) := by decide +kernel
theorem dX6_house_116 : decode cX6_house 116 = .ok (.getfield 75, 3) := by decide +kernel
theorem dX6_house_119 : decode cX6_house 119 = .ok (.bipush 36, 2) := by decide +kernel
theorem dX6_house_121 : decode cX6_house 121 = .ok (.bipush 6, 2) := by decide +kernel
theorem dX6_house_123 : decode cX6_house 123 = .ok (.iload_n 2, 1) := by decide +kernel
theorem dX6_house_124 : decode cX6_house 124 = .ok (.iconst 2, 1) := by decide +kernel
theorem dX6_house_125 : decode cX6_house 125 = .ok (.isub, 1) := by decide +kernel
