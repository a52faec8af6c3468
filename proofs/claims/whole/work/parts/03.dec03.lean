theorem dX5_treesStanding_5 : decode cX5_treesStanding 5 = .ok (.bipush 12, 2) := by decide +kernel
theorem dX5_treesStanding_7 : decode cX5_treesStanding 7 = .ok (.if_icmp .ge 21, 3) := by decide +kernel
theorem dX5_treesStanding_10 : decode cX5_treesStanding 10 = .ok (.aload_n 0, 1) := by decide +kernel
theorem dX5_treesStanding_11 : decode cX5_treesStanding 11 = .ok (.iconst 0, 1) := by decide +kernel
theorem dX5_treesStanding_12 : decode cX5_treesStanding 12 = .ok (.iload_n 2, 1) := by decide +kernel
theorem dX5_treesStanding_13 : decode cX5_treesStanding 13 = .ok (.iadd, 1) := by decide +kernel
theorem dX5_treesStanding_14 : decode cX5_treesStanding 14 = .ok (.iaload, 1) := by decide +kernel
theorem dX5_treesStanding_15 : decode cX5_treesStanding 15 = .ok (.iconst (-1), 1) := by decide +kernel
theorem dX5_treesStanding_16 : decode cX5_treesStanding 16 = .ok (.if_icmp .eq 6, 3) := by decide +kernel
theorem dX5_treesStanding_19 : decode cX5_treesStanding 19 = .ok (.iinc 1 1, 3) := by decide +kernel
theorem dX5_treesStanding_22 : decode cX5_treesStanding 22 = .ok (.iinc 2 1, 3) := by decide +kernel
theorem dX5_treesStanding_25 : decode cX5_treesStanding 25 = .ok (.goto (-21), 3) := by decide +kernel
theorem dX5_treesStanding_28 : decode cX5_treesStanding 28 = .ok (.iload_n 1, 1) := by decide +kernel
theorem dX5_treesStanding_29 : decode cX5_treesStanding 29 = .ok (.ireturn, 1) := by decide +kernel
theorem dX6_init_0 : decode cX6_init 0 = .ok (.aload_n 0, 1) := by decide +kernel
theorem dX6_init_1 : decode cX6_init 1 = .ok (.invokespecial 1, 3) := by decide +kernel
theorem dX6_init_4 : decode cX6_init 4 = .ok (.aload_n 0, 1) := by decide +kernel
theorem dX6_init_5 : decode cX6_init 5 = .ok (.bipush 8, 2) := by decide +kernel
theorem dX6_init_7 : decode cX6_init 7 = .ok (.putfield 7, 3) := by decide +kernel
theorem dX6_init_10 : decode cX6_init 10 = .ok (.aload_n 0, 1) := by decide +kernel
theorem dX6_init_11 : decode cX6_init 11 = .ok (.bipush 8, 2) := by decide +kernel
theorem dX6_init_13 : decode cX6_init 13 = .ok (.putfield 13, 3) := by decide +kernel
theorem dX6_init_16 : decode cX6_init 16 = .ok (.aload_n 0, 1) := by decide +kernel
theorem dX6_init_17 : decode cX6_init 17 = .ok (.bipush 64, 2) := by decide +kernel
theorem dX6_init_19 : decode cX6_init 19 = .ok (.newarray .int, 2) := by decide +kernel
theorem dX6_init_21 : decode cX6_init 21 = .ok (.putfield 16, 3) := by decide +kernel
theorem dX6_init_24 : decode cX6_init 24 = .ok (.aload_n 0, 1) := by decide +kernel
theorem dX6_init_25 : decode cX6_init 25 = .ok (.bipush 7, 2) := by decide +kernel
theorem dX6_init_27 : decode cX6_init 27 = .ok (.newarray .int, 2) := by decide +kernel
theorem dX6_init_29 : decode cX6_init 29 = .ok (.putfield 20, 3) := by decide +kernel
theorem dX6_init_32 : decode cX6_init 32 = .ok (.aload_n 0, 1) := by decide +kernel
theorem dX6_init_33 : decode cX6_init 33 = .ok (.bipush 7, 2) := by decide +kernel
theorem dX6_init_35 : decode cX6_init 35 = .ok (.newarray .int, 2) := by decide +kernel
theorem dX6_init_37 : decode cX6_init 37 = .ok (.putfield 23, 3) := by decide +kernel
theorem dX6_init_40 : decode cX6_init 40 = .ok (.aload_n 0, 1) := by decide +kernel
theorem dX6_init_41 : decode cX6_init 41 = .ok (.bipush 8, 2) := by decide +kernel
theorem dX6_init_43 : decode cX6_init 43 = .ok (.newarray .int, 2) := by decide +kernel
theorem dX6_init_45 : decode cX6_init 45 = .ok (.putfield 26, 3) := by decide +kernel
theorem dX6_init_48 : decode cX6_init 48 = .ok (.aload_n 0, 1) := by decide +kernel
theorem dX6_init_49 : decode cX6_init 49 = .ok (.iconst 4, 1) := by decide +kernel
theorem dX6_init_50 : decode cX6_init 50 = .ok (.newarray .int, 2) := by decide +kernel
theorem dX6_init_52 : decode cX6_init 52 = .ok (.putfield 29, 3) := by decide +kernel
theorem dX6_init_55 : decode cX6_init 55 = .ok (.aload_n 0, 1) := by decide +kernel
theorem dX6_init_56 : decode cX6_init 56 = .ok (.sipush 2800, 3) := by decide +kernel
theorem dX6_init_59 : decode cX6_init 59 = .ok (.newarray .int, 2) := by decide +kernel
theorem dX6_init_61 : decode cX6_init 61 = .ok (.putfield 32, 3) := by decide +kernel
theorem dX6_init_64 : decode cX6_init 64 = .ok (.aload_n 0, 1) := by decide +kernel
theorem dX6_init_65 : decode cX6_init 65 = .ok (.sipush 700, 3) := by decide +kernel
theorem dX6_init_68 : decode cX6_init 68 = .ok (.newarray .int, 2) := by decide +kernel
theorem dX6_init_70 : decode cX6_init 70 = .ok (.putfield 35, 3) := by decide +kernel
theorem dX6_init_73 : decode cX6_init 73 = .ok (.aload_n 0, 1) := by decide +kernel
theorem dX6_init_74 : decode cX6_init 74 = .ok (.iconst (-1), 1) := by decide +kernel
theorem dX6_init_75 : decode cX6_init 75 = .ok (.putfield 38, 3) := by decide +kernel
theorem dX6_init_78 : decode cX6_init 78 = .ok (.aload_n 0, 1) := by decide +kernel
theorem dX6_init_79 : decode cX6_init 79 = .ok (.iconst 3, 1) := by decide +kernel
theorem dX6_init_80 : decode cX6_init 80 = .ok (.newarray .int, 2) := by decide +kernel
theorem dX6_init_82 : decode cX6_init 82 = .ok (.putfield 41, 3) := by decide +kernel
theorem dX6_init_85 : decode cX6_init 85 = .ok (.aload_n 0, 1) := by decide +kernel
theorem dX6_init_86 : decode cX6_init 86 = .ok (.bipush 64, 2) := by decide +kernel
theorem dX6_init_88 : decode cX6_init 88 = .ok (.newarray .int, 2) := by decide +kernel
theorem dX6_init_90 : decode cX6_init 90 = .ok (.putfield 44, 3) := by decide +kernel
theorem dX6_init_93 : decode cX6_init 93 = .ok (.aload_n 0, 1) := by decide +kernel
theorem dX6_init_94 : decode cX6_init 94 = .ok (.bipush 36, 2) := by decide +kernel
theorem dX6_init_96 : decode cX6_init 96 = .ok (.newarray .int, 2) := by decide +kernel
theorem dX6_init_98 : decode cX6_init 98 = .ok (.putfield 47, 3) := by decide +kernel
theorem dX6_init_101 : decode cX6_init 101 = .ok (.aload_n 0, 1) := by decide +kernel
theorem dX6_init_102 : decode cX6_init 102 = .ok (.bipush 6, 2) := by decide +kernel
theorem dX6_init_104 : decode cX6_init 104 = .ok (.newarray .int, 2) := by decide +kernel
theorem dX6_init_106 : decode cX6_init 106 = .ok (.putfield 50, 3) := by decide +kernel
theorem dX6_init_109 : decode cX6_init 109 = .ok (.aload_n 0, 1) := by decide +kernel
theorem dX6_init_110 : decode cX6_init 110 = .ok (.bipush 6, 2) := by decide +kernel
theorem dX6_init_112 : decode cX6_init 112 = .ok (.newarray .int, 2) := by decide +kernel
theorem dX6_init_114 : decode cX6_init 114 = .ok (.putfield 53, 3) := by decide +kernel
theorem dX6_init_117 : decode cX6_init 117 = .ok (.aload_n 0, 1) := by decide +kernel
theorem dX6_init_118 : decode cX6_init 118 = .ok (.bipush 6, 2) := by decide +kernel
theorem dX6_init_120 : decode cX6_init 120 = .ok (.newarray .int, 2) := by decide +kernel
theorem dX6_init_122 : decode cX6_init 122 = .ok (.putfield 56, 3) := by decide +kernel
theorem dX6_init_125 : decode cX6_init 125 = .ok (.aload_n 0, 1) := by decide +kernel
theorem dX6_init_126 : decode cX6_init 126 = .ok (.bipush 8, 2) := by decide +kernel
theorem dX6_init_128 : decode cX6_init 128 = .ok (.newarray .int, 2) := by decide +kernel
theorem dX6_init_130 : decode cX6_init 130 = .ok (.putfield 59, 3) := by decide +kernel
theorem dX6_init_133 : decode cX6_init 133 = .ok (.aload_n 0, 1) := by decide +kernel
theorem dX6_init_134 : decode cX6_init 134 = .ok (.iconst 4, 1) := by decide +kernel
theorem dX6_init_135 : decode cX6_init 135 = .ok (.newarray .int, 2) := by decide +kernel
theorem dX6_init_137 : decode cX6_init 137 = .ok (.putfield 62, 3) := by decide +kernel
theorem dX6_init_140 : decode cX6_init 140 = .ok (.aload_n 0, 1) := by decide +kernel
theorem dX6_init_141 : decode cX6_init 141 = .ok (.sipush 2800, 3) := by decide +kernel
theorem dX6_init_144 : decode cX6_init 144 = .ok (.newarray .int, 2) := by decide +kernel
theorem dX6_init_146 : decode cX6_init 146 = .ok (.putfield 65, 3) := by decide +kernel
theorem dX6_init_149 : decode cX6_init 149 = .ok (.aload_n 0, 1) := by decide +kernel
theorem dX6_init_150 : decode cX6_init 150 = .ok (.sipush 950, 3) := by decide +kernel
theorem dX6_init_153 : decode cX6_init 153 = .ok (.newarray .int, 2) := by decide +kernel
theorem dX6_init_155 : decode cX6_init 155 = .ok (.putfield 68, 3) := by decide +kernel
theorem dX6_init_158 : decode cX6_init 158 = .ok (.aload_n 0, 1) := by decide +kernel
theorem dX6_init_159 : decode cX6_init 159 = .ok (.bipush 9, 2) := by decide +kernel
theorem dX6_init_161 : decode cX6_init 161 = .ok (.newarray .boolean, 2) := by decide +kernel
theorem dX6_init_163 : decode cX6_init 163 = .ok (.putfield 71, 3) := by decide +kernel
theorem dX6_init_166 : decode cX6_init 166 = .ok (.aload_n 0, 1) := by decide +kernel
theorem dX6_init_167 : decode cX6_init 167 = .ok (.bipush 62, 2) := by decide +kernel
theorem dX6_init_169 : decode cX6_init 169 = .ok (.newarray .int, 2) := by decide +kernel
theorem dX6_init_171 : decode cX6_init 171 = .ok (.putfield 75, 3) := by decide +kernel
theorem dX6_init_174 : decode cX6_init 174 = .ok (.aload_n 0, 1) := by decide +kernel
theorem dX6_init_175 : decode cX6_init 175 = .ok (.bipush 62, 2) := by decide +kernel
theorem dX6_init_177 : decode cX6_init 177 = .ok (.newarray .int, 2) := by decide +kernel
theorem dX6_init_179 : decode cX6_init 179 = .ok (.putfield 78, 3) := by decide +kernel
theorem dX6_init_182 : decode cX6_init 182 = .ok (.aload_n 0, 1) := by decide +kernel
theorem dX6_init_183 : decode cX6_init 183 = .ok (.sipush 2480, 3) := by decide +kernel
theorem dX6_init_186 : decode cX6_init 186 = .ok (.newarray .int, 2) := by decide +kernel
theorem dX6_init_188 : decode cX6_init 188 = .ok (.putfield 81, 3) := by decide +kernel
theorem dX6_init_191 : decode cX6_init 191 = .ok (.aload_n 0, 1) := by decide +kernel
theorem dX6_init_192 : decode cX6_init 192 = .ok (.bipush 64, 2) := by decide +kernel
theorem dX6_init_194 : decode cX6_init 194 = .ok (.newarray .int, 2) := by decide +kernel
theorem dX6_init_196 : decode cX6_init 196 = .ok (.putfield 84, 3) := by decide +kernel
theorem dX6_init_199 : decode cX6_init 199 = .ok (.aload_n 0, 1) := by decide +kernel
theorem dX6_init_200 : decode cX6_init 200 = .ok (.iconst (-1), 1) := by decide +kernel
theorem dX6_init_201 : decode cX6_init 201 = .ok (.putfield 87, 3) := by decide +kernel
theorem dX6_init_204 : decode cX6_init 204 = .ok (.aload_n 0, 1) := by decide +kernel
theorem dX6_init_205 : decode cX6_init 205 = .ok (.iconst (-1), 1) := by decide +kernel
theorem dX6_init_206 : decode cX6_init 206 = .ok (.putfield 90, 3) := by decide +kernel
theorem dX6_init_209 : decode cX6_init 209 = .ok (.aload_n 0, 1) := by decide +kernel
theorem dX6_init_210 : decode cX6_init 210 = .ok (.iconst (-1), 1) := by decide +kernel
theorem dX6_init_211 : decode cX6_init 211 = .ok (.putfield 93, 3) := by decide +kernel
theorem dX6_init_214 : decode cX6_init 214 = .ok (.aload_n 0, 1) := by decide +kernel
theorem dX6_init_215 : decode cX6_init 215 = .ok (.bipush 7, 2) := by decide +kernel
theorem dX6_init_217 : decode cX6_init 217 = .ok (.newarray .int, 2) := by decide +kernel
theorem dX6_init_219 : decode cX6_init 219 = .ok (.putfield 96, 3) := by decide +kernel
theorem dX6_init_222 : decode cX6_init 222 = .ok (.aload_n 0, 1) := by decide +kernel
theorem dX6_init_223 : decode cX6_init 223 = .ok (.sipush 950, 3) := by decide +kernel
theorem dX6_init_226 : decode cX6_init 226 = .ok (.newarray .int, 2) := by decide +kernel
theorem dX6_init_228 : decode cX6_init 228 = .ok (.putfield 99, 3) := by decide +kernel
theorem dX6_init_231 : decode cX6_init 231 = .ok (.aload_n 0, 1) := by decide +kernel
theorem dX6_init_232 : decode cX6_init 232 = .ok (.iconst (-1), 1) := by decide +kernel
theorem dX6_init_233 : decode cX6_init 233 = .ok (.putfield 102, 3) := by decide +kernel
theorem dX6_init_236 : decode cX6_init 236 = .ok (.aload_n 0, 1) := by decide +kernel
theorem dX6_init_237 : decode cX6_init 237 = .ok (.iconst 2, 1) := by decide +kernel
theorem dX6_init_238 : decode cX6_init 238 = .ok (.newarray .int, 2) := by decide +kernel
theorem dX6_init_240 : decode cX6_init 240 = .ok (.putfield 105, 3) := by decide +kernel
theorem dX6_init_243 : decode cX6_init 243 = .ok (.aload_n 0, 1) := by decide +kernel
theorem dX6_init_244 : decode cX6_init 244 = .ok (.bipush 6, 2) := by decide +kernel
theorem dX6_init_246 : decode cX6_init 246 = .ok (.newarray .int, 2) := by decide +kernel
theorem dX6_init_248 : decode cX6_init 248 = .ok (.putfield 108, 3) := by decide +kernel
theorem dX6_init_251 : decode cX6_init 251 = .ok (.aload_n 0, 1) := by decide +kernel
theorem dX6_init_252 : decode cX6_init 252 = .ok (.bipush 6, 2) := by decide +kernel
theorem dX6_init_254 : decode cX6_init 254 = .ok (.newarray .int, 2) := by decide +kernel
theorem dX6_init_256 : decode cX6_init 256 = .ok (.putfield 111, 3) := by decide +kernel
theorem dX6_init_259 : decode cX6_init 259 = .ok (.aload_n 0, 1) := by decide +kernel
theorem dX6_init_260 : decode cX6_init 260 = .ok (.bipush 8, 2) := by decide +kernel
theorem dX6_init_262 : decode cX6_init 262 = .ok (.newarray .int, 2) := by decide +kernel
theorem dX6_init_264 : decode cX6_init 264 = .ok (.putfield 114, 3) := by decide +kernel
theorem dX6_init_267 : decode cX6_init 267 = .ok (.aload_n 0, 1) := by decide +kernel
theorem dX6_init_268 : decode cX6_init 268 = .ok (.bipush 12, 2) := by decide +kernel
theorem dX6_init_270 : decode cX6_init 270 = .ok (.newarray .int, 2) := by decide +kernel
theorem dX6_init_272 : decode cX6_init 272 = .ok (.putfield 117, 3) := by decide +kernel
theorem dX6_init_275 : decode cX6_init 275 = .ok (.aload_n 0, 1) := by decide +kernel
theorem dX6_init_276 : decode cX6_init 276 = .ok (.bipush 62, 2) := by decide +kernel
theorem dX6_init_278 : decode cX6_init 278 = .ok (.newarray .int, 2) := by decide +kernel
theorem dX6_init_280 : decode cX6_init 280 = .ok (.putfield 120, 3) := by decide +kernel
theorem dX6_init_283 : decode cX6_init 283 = .ok (.aload_n 0, 1) := by decide +kernel
theorem dX6_init_284 : decode cX6_init 284 = .ok (.sipush 2480, 3) := by decide +kernel
theorem dX6_init_287 : decode cX6_init 287 = .ok (.newarray .int, 2) := by decide +kernel
theorem dX6_init_289 : decode cX6_init 289 = .ok (.putfield 123, 3) := by decide +kernel
theorem dX6_init_292 : decode cX6_init 292 = .ok (.aload_n 0, 1) := by decide +kernel
theorem dX6_init_293 : decode cX6_init 293 = .ok (.bipush 12, 2) := by decide +kernel
theorem dX6_init_295 : decode cX6_init 295 = .ok (.newarray .int, 2) := by decide +kernel
theorem dX6_init_297 : decode cX6_init 297 = .ok (.putfield 126, 3) := by decide +kernel
theorem dX6_init_300 : decode cX6_init 300 = .ok (.iconst 0, 1) := by decide +kernel
theorem dX6_init_301 : decode cX6_init 301 = .ok (.istore_n 1, 1) := by decide +kernel
theorem dX6_init_302 : decode cX6_init 302 = .ok (.iload_n 1, 1) := by decide +kernel
theorem dX6_init_303 : decode cX6_init 303 = .ok (.bipush 12, 2) := by decide +kernel
theorem dX6_init_305 : decode cX6_init 305 = .ok (.if_icmp .ge 18, 3) := by decide +kernel
theorem dX6_init_308 : decode cX6_init 308 = .ok (.aload_n 0, 1) := by decide +kernel
theorem dX6_init_309 : decode cX6_init 309 = .ok (.getfield 75, 3) := by decide +kernel
theorem dX6_init_312 : decode cX6_init 312 = .ok (.iconst 0, 1) := by decide +kernel
theorem dX6_init_313 : decode cX6_init 313 = .ok (.iload_n 1, 1) := by decide +kernel
theorem dX6_init_314 : decode cX6_init 314 = .ok (.iadd, 1) := by decide +kernel
theorem dX6_init_315 : decode cX6_init 315 = .ok (.iconst (-1), 1) := by decide +kernel
theorem dX6_init_316 : decode cX6_init 316 = .ok (.iastore, 1) := by decide +kernel
theorem dX6_init_317 : decode cX6_init 317 = .ok (.iinc 1 1, 3) := by decide +kernel
theorem dX6_init_320 : decode cX6_init 320 = .ok (.goto (-18), 3) := by decide +kernel
theorem dX6_init_323 : decode cX6_init 323 = .ok (.aload_n 0, 1) := by decide +kernel
theorem dX6_init_324 : decode cX6_init 324 = .ok (.getfield 75, 3) := by decide +kernel
theorem dX6_init_327 : decode cX6_init 327 = .ok (.bipush 60, 2) := by decide +kernel
theorem dX6_init_329 : decode cX6_init 329 = .ok (.iconst (-1), 1) := by decide +kernel
theorem dX6_init_330 : decode cX6_init 330 = .ok (.iastore, 1) := by decide +kernel
theorem dX6_init_331 : decode cX6_init 331 = .ok (.return_, 1) := by decide +kernel
theorem dX6_thrown_0 : decode cX6_thrown 0 = .ok (.aload_n 0, 1) := by decide +kernel
theorem dX6_thrown_1 : decode cX6_thrown 1 = .ok (.getfield 129, 3) := by decide +kernel
theorem dX6_thrown_4 : decode cX6_thrown 4 = .ok (.ireturn, 1) := by decide +kernel
theorem dX6_right_0 : decode cX6_right 0 = .ok (.aload_n 0, 1) := by decide +kernel
theorem dX6_right_1 : decode cX6_right 1 = .ok (.getfield 129, 3) := by decide +kernel
theorem dX6_right_4 : decode cX6_right 4 = .ok (.ifCond .ne 12, 3) := by decide +kernel
theorem dX6_right_7 : decode cX6_right 7 = .ok (.iload_n 1, 1) := by decide +kernel
theorem dX6_right_8 : decode cX6_right 8 = .ok (.ifCond .ne 8, 3) := by decide +kernel
theorem dX6_right_11 : decode cX6_right 11 = .ok (.aload_n 0, 1) := by decide +kernel
theorem dX6_right_12 : decode cX6_right 12 = .ok (.iload_n 2, 1) := by decide +kernel
theorem dX6_right_13 : decode cX6_right 13 = .ok (.putfield 129, 3) := by decide +kernel
theorem dX6_right_16 : decode cX6_right 16 = .ok (.aload_n 0, 1) := by decide +kernel
theorem dX6_right_17 : decode cX6_right 17 = .ok (.getfield 129, 3) := by decide +kernel
theorem dX6_right_20 : decode cX6_right 20 = .ok (.ifCond .ne 7, 3) := by decide +kernel
theorem dX6_right_23 : decode cX6_right 23 = .ok (.iconst 1, 1) := by decide +kernel
theorem dX6_right_24 : decode cX6_right 24 = .ok (.goto 4, 3) := by decide +kernel
theorem dX6_right_27 : decode cX6_right 27 = .ok (.iconst 0, 1) := by decide +kernel
theorem dX6_right_28 : decode cX6_right 28 = .ok (.ireturn, 1) := by decide +kernel
theorem dX6_within_0 : decode cX6_within 0 = .ok (.iload_n 0, 1) := by decide +kernel
theorem dX6_within_1 : decode cX6_within 1 = .ok (.iload_n 1, 1) := by decide +kernel
theorem dX6_within_2 : decode cX6_within 2 = .ok (.if_icmp .lt 12, 3) := by decide +kernel
theorem dX6_within_5 : decode cX6_within 5 = .ok (.iload_n 0, 1) := by decide +kernel
theorem dX6_within_6 : decode cX6_within 6 = .ok (.iload_n 2, 1) := by decide +kernel
theorem dX6_within_7 : decode cX6_within 7 = .ok (.if_icmp .gt 7, 3) := by decide +kernel
theorem dX6_within_10 : decode cX6_within 10 = .ok (.iconst 1, 1) := by decide +kernel
theorem dX6_within_11 : decode cX6_within 11 = .ok (.goto 4, 3) := by decide +kernel
theorem dX6_within_14 : decode cX6_within 14 = .ok (.iconst 0, 1) := by decide +kernel
theorem dX6_within_15 : decode cX6_within 15 = .ok (.ireturn, 1) := by decide +kernel
theorem dX6_off_0 : decode cX6_off 0 = .ok (.iload_n 0, 1) := by decide +kernel
theorem dX6_off_1 : decode cX6_off 1 = .ok (.iload_n 1, 1) := by decide +kernel
theorem dX6_off_2 : decode cX6_off 2 = .ok (.if_icmp .ge 9, 3) := by decide +kernel
theorem dX6_off_5 : decode cX6_off 5 = .ok (.iload_n 1, 1) := by decide +kernel
theorem dX6_off_6 : decode cX6_off 6 = .ok (.iload_n 0, 1) := by decide +kernel
theorem dX6_off_7 : decode cX6_off 7 = .ok (.isub, 1) := by decide +kernel
theorem dX6_off_8 : decode cX6_off 8 = .ok (.goto 6, 3) := by decide +kernel
theorem dX6_off_11 : decode cX6_off 11 = .ok (.iload_n 0, 1) := by decide +kernel
theorem dX6_off_12 : decode cX6_off 12 = .ok (.iload_n 1, 1) := by decide +kernel
theorem dX6_off_13 : decode cX6_off 13 = .ok (.isub, 1) := by decide +kernel
theorem dX6_off_14 : decode cX6_off 14 = .ok (.ireturn, 1) := by decide +kernel
theorem dX6_copies_0 : decode cX6_copies 0 = .ok (.iconst 0, 1) := by decide +kernel
theorem dX6_copies_1 : decode cX6_copies 1 = .ok (.istore_n 3, 1) := by decide +kernel
theorem dX6_copies_2 : decode cX6_copies 2 = .ok (.iload_n 3, 1) := by decide +kernel
theorem dX6_copies_3 : decode cX6_copies 3 = .ok (.aload_n 1, 1) := by decide +kernel
theorem dX6_copies_4 : decode cX6_copies 4 = .ok (.arraylength, 1) := by decide +kernel
theorem dX6_copies_5 : decode cX6_copies 5 = .ok (.if_icmp .ge 15, 3) := by decide +kernel
theorem dX6_copies_8 : decode cX6_copies 8 = .ok (.aload_n 2, 1) := by decide +kernel
theorem dX6_copies_9 : decode cX6_copies 9 = .ok (.iload_n 3, 1) := by decide +kernel
theorem dX6_copies_10 : decode cX6_copies 10 = .ok (.aload_n 1, 1) := by decide +kernel
theorem dX6_copies_11 : decode cX6_copies 11 = .ok (.iload_n 3, 1) := by decide +kernel
theorem dX6_copies_12 : decode cX6_copies 12 = .ok (.iaload, 1) := by decide +kernel
theorem dX6_copies_13 : decode cX6_copies 13 = .ok (.iastore, 1) := by decide +kernel
theorem dX6_copies_14 : decode cX6_copies 14 = .ok (.iinc 3 1, 3) := by decide +kernel
theorem dX6_copies_17 : decode cX6_copies 17 = .ok (.goto (-15), 3) := by decide +kernel
theorem dX6_copies_20 : decode cX6_copies 20 = .ok (.return_, 1) := by decide +kernel
theorem dX6_bits_0 : decode cX6_bits 0 = .ok (.iconst 0, 1) := by decide +kernel
theorem dX6_bits_1 : decode cX6_bits 1 = .ok (.istore_n 1, 1) := by decide +kernel
theorem dX6_bits_2 : decode cX6_bits 2 = .ok (.iconst 0, 1) := by decide +kernel
theorem dX6_bits_3 : decode cX6_bits 3 = .ok (.istore_n 2, 1) := by decide +kernel
theorem dX6_bits_4 : decode cX6_bits 4 = .ok (.iload_n 2, 1) := by decide +kernel
theorem dX6_bits_5 : decode cX6_bits 5 = .ok (.bipush 12, 2) := by decide +kernel
theorem dX6_bits_7 : decode cX6_bits 7 = .ok (.if_icmp .ge 17, 3) := by decide +kernel
theorem dX6_bits_10 : decode cX6_bits 10 = .ok (.iload_n 1, 1) := by decide +kernel
theorem dX6_bits_11 : decode cX6_bits 11 = .ok (.iload_n 0, 1) := by decide +kernel
theorem dX6_bits_12 : decode cX6_bits 12 = .ok (.iload_n 2, 1) := by decide +kernel
theorem dX6_bits_13 : decode cX6_bits 13 = .ok (.ishr, 1) := by decide +kernel
theorem dX6_bits_14 : decode cX6_bits 14 = .ok (.iconst 1, 1) := by decide +kernel
theorem dX6_bits_15 : decode cX6_bits 15 = .ok (.iand, 1) := by decide +kernel
theorem dX6_bits_16 : decode cX6_bits 16 = .ok (.iadd, 1) := by decide +kernel
theorem dX6_bits_17 : decode cX6_bits 17 = .ok (.istore_n 1, 1) := by decide +kernel
theorem dX6_bits_18 : decode cX6_bits 18 = .ok (.iinc 2 1, 3) := by decide +kernel
theorem dX6_bits_21 : decode cX6_bits 21 = .ok (.goto (-17), 3) := by decide +kernel
theorem dX6_bits_24 : decode cX6_bits 24 = .ok (.iload_n 1, 1) := by decide +kernel
theorem dX6_bits_25 : decode cX6_bits 25 = .ok (.ireturn, 1) := by decide +kernel
theorem dX6_feed_0 : decode cX6_feed 0 = .ok (.aload_n 0, 1) := by decide +kernel
theorem dX6_feed_1 : decode cX6_feed 1 = .ok (.iconst 0, 1) := by decide +kernel
theorem dX6_feed_2 : decode cX6_feed 2 = .ok (.putfield 129, 3) := by decide +kernel
theorem dX6_feed_5 : decode cX6_feed 5 = .ok (.aload_n 0, 1) := by decide +kernel
theorem dX6_feed_6 : decode cX6_feed 6 = .ok (.getfield 132, 3) := by decide +kernel
theorem dX6_feed_9 : decode cX6_feed 9 = .ok (.bipush 20, 2) := by decide +kernel
theorem dX6_feed_11 : decode cX6_feed 11 = .ok (.iadd, 1) := by decide +kernel
theorem dX6_feed_12 : decode cX6_feed 12 = .ok (.sipush 700, 3) := by decide +kernel
theorem dX6_feed_15 : decode cX6_feed 15 = .ok (.if_icmp .le 5, 3) := by decide +kernel
theorem dX6_feed_18 : decode cX6_feed 18 = .ok (.iconst (-1), 1) := by decide +kernel
theorem dX6_feed_19 : decode cX6_feed 19 = .ok (.ireturn, 1) := by decide +kernel
theorem dX6_feed_20 : decode cX6_feed 20 = .ok (.aload_n 0, 1) := by decide +kernel
theorem dX6_feed_21 : decode cX6_feed 21 = .ok (.iload_n 1, 1) := by decide +kernel
theorem dX6_feed_22 : decode cX6_feed 22 = .ok (.invokevirtual 135, 3) := by decide +kernel
theorem dX6_feed_25 : decode cX6_feed 25 = .ok (.aload_n 0, 1) := by decide +kernel
theorem dX6_feed_26 : decode cX6_feed 26 = .ok (.iload_n 2, 1) := by decide +kernel
theorem dX6_feed_27 : decode cX6_feed 27 = .ok (.invokevirtual 135, 3) := by decide +kernel
theorem dX6_feed_30 : decode cX6_feed 30 = .ok (.aload_n 0, 1) := by decide +kernel
theorem dX6_feed_31 : decode cX6_feed 31 = .ok (.iload_n 3, 1) := by decide +kernel
theorem dX6_feed_32 : decode cX6_feed 32 = .ok (.invokevirtual 135, 3) := by decide +kernel
theorem dX6_feed_35 : decode cX6_feed 35 = .ok (.aload_n 0, 1) := by decide +kernel
theorem dX6_feed_36 : decode cX6_feed 36 = .ok (.iload 4, 2) := by decide +kernel
theorem dX6_feed_38 : decode cX6_feed 38 = .ok (.invokevirtual 135, 3) := by decide +kernel
theorem dX6_feed_41 : decode cX6_feed 41 = .ok (.aload_n 0, 1) := by decide +kernel
theorem dX6_feed_42 : decode cX6_feed 42 = .ok (.iload 5, 2) := by decide +kernel
theorem dX6_feed_44 : decode cX6_feed 44 = .ok (.invokevirtual 135, 3) := by decide +kernel
theorem dX6_feed_47 : decode cX6_feed 47 = .ok (.aload_n 0, 1) := by decide +kernel
theorem dX6_feed_48 : decode cX6_feed 48 = .ok (.getfield 132, 3) := by decide +kernel
theorem dX6_feed_51 : decode cX6_feed 51 = .ok (.ireturn, 1) := by decide +kernel
theorem dX6_lays_0 : decode cX6_lays 0 = .ok (.bipush 24, 2) := by decide +kernel
theorem dX6_lays_2 : decode cX6_lays 2 = .ok (.istore_n 2, 1) := by decide +kernel
theorem dX6_lays_3 : decode cX6_lays 3 = .ok (.iload_n 2, 1) := by decide +kernel
theorem dX6_lays_4 : decode cX6_lays 4 = .ok (.ifCond .lt 35, 3) := by decide +kernel
theorem dX6_lays_7 : decode cX6_lays 7 = .ok (.aload_n 0, 1) := by decide +kernel
theorem dX6_lays_8 : decode cX6_lays 8 = .ok (.getfield 35, 3) := by decide +kernel
theorem dX6_lays_11 : decode cX6_lays 11 = .ok (.aload_n 0, 1) := by decide +kernel
theorem dX6_lays_12 : decode cX6_lays 12 = .ok (.getfield 132, 3) := by decide +kernel
theorem dX6_lays_15 : decode cX6_lays 15 = .ok (.iload_n 1, 1) := by decide +kernel
theorem dX6_lays_16 : decode cX6_lays 16 = .ok (.iload_n 2, 1) := by decide +kernel
theorem dX6_lays_17 : decode cX6_lays 17 = .ok (.ishr, 1) := by decide +kernel
theorem dX6_lays_18 : decode cX6_lays 18 = .ok (.sipush 255, 3) := by decide +kernel
theorem dX6_lays_21 : decode cX6_lays 21 = .ok (.iand, 1) := by decide +kernel
theorem dX6_lays_22 : decode cX6_lays 22 = .ok (.iastore, 1) := by decide +kernel
theorem dX6_lays_23 : decode cX6_lays 23 = .ok (.aload_n 0, 1) := by decide +kernel
theorem dX6_lays_24 : decode cX6_lays 24 = .ok (.dup, 1) := by decide +kernel
theorem dX6_lays_25 : decode cX6_lays 25 = .ok (.getfield 132, 3) := by decide +kernel
theorem dX6_lays_28 : decode cX6_lays 28 = .ok (.iconst 1, 1) := by decide +kernel
theorem dX6_lays_29 : decode cX6_lays 29 = .ok (.iadd, 1) := by decide +kernel
theorem dX6_lays_30 : decode cX6_lays 30 = .ok (.putfield 132, 3) := by decide +kernel
theorem dX6_lays_33 : decode cX6_lays 33 = .ok (.iinc 2 (-8), 3) := by decide +kernel
theorem dX6_lays_36 : decode cX6_lays 36 = .ok (.goto (-33), 3) := by decide +kernel
theorem dX6_lays_39 : decode cX6_lays 39 = .ok (.return_, 1) := by decide +kernel
theorem dX6_byteAt_0 : decode cX6_byteAt 0 = .ok (.iload_n 1, 1) := by decide +kernel
theorem dX6_byteAt_1 : decode cX6_byteAt 1 = .ok (.aload_n 0, 1) := by decide +kernel
theorem dX6_byteAt_2 : decode cX6_byteAt 2 = .ok (.getfield 139, 3) := by decide +kernel
theorem dX6_byteAt_5 : decode cX6_byteAt 5 = .ok (.if_icmp .ge 12, 3) := by decide +kernel
theorem dX6_byteAt_8 : decode cX6_byteAt 8 = .ok (.aload_n 0, 1) := by decide +kernel
theorem dX6_byteAt_9 : decode cX6_byteAt 9 = .ok (.getfield 35, 3) := by decide +kernel
theorem dX6_byteAt_12 : decode cX6_byteAt 12 = .ok (.iload_n 1, 1) := by decide +kernel
theorem dX6_byteAt_13 : decode cX6_byteAt 13 = .ok (.iaload, 1) := by decide +kernel
theorem dX6_byteAt_14 : decode cX6_byteAt 14 = .ok (.goto 4, 3) := by decide +kernel
theorem dX6_byteAt_17 : decode cX6_byteAt 17 = .ok (.iconst 0, 1) := by decide +kernel
theorem dX6_byteAt_18 : decode cX6_byteAt 18 = .ok (.ireturn, 1) := by decide +kernel
theorem dX6_isLetter_0 : decode cX6_isLetter 0 = .ok (.iload_n 0, 1) := by decide +kernel
theorem dX6_isLetter_1 : decode cX6_isLetter 1 = .ok (.bipush 97, 2) := by decide +kernel
theorem dX6_isLetter_3 : decode cX6_isLetter 3 = .ok (.if_icmp .lt 13, 3) := by decide +kernel
theorem dX6_isLetter_6 : decode cX6_isLetter 6 = .ok (.iload_n 0, 1) := by decide +kernel
theorem dX6_isLetter_7 : decode cX6_isLetter 7 = .ok (.bipush 122, 2) := by decide +kernel
theorem dX6_isLetter_9 : decode cX6_isLetter 9 = .ok (.if_icmp .gt 7, 3) := by decide +kernel
theorem dX6_isLetter_12 : decode cX6_isLetter 12 = .ok (.iconst 1, 1) := by decide +kernel
theorem dX6_isLetter_13 : decode cX6_isLetter 13 = .ok (.goto 4, 3) := by decide +kernel
theorem dX6_isLetter_16 : decode cX6_isLetter 16 = .ok (.iconst 0, 1) := by decide +kernel
theorem dX6_isLetter_17 : decode cX6_isLetter 17 = .ok (.ireturn, 1) := by decide +kernel
theorem dX6_isDigit_0 : decode cX6_isDigit 0 = .ok (.iload_n 0, 1) := by decide +kernel
theorem dX6_isDigit_1 : decode cX6_isDigit 1 = .ok (.bipush 48, 2) := by decide +kernel
theorem dX6_isDigit_3 : decode cX6_isDigit 3 = .ok (.if_icmp .lt 13, 3) := by decide +kernel
theorem dX6_isDigit_6 : decode cX6_isDigit 6 = .ok (.iload_n 0, 1) := by decide +kernel
theorem dX6_isDigit_7 : decode cX6_isDigit 7 = .ok (.bipush 57, 2) := by decide +kernel
theorem dX6_isDigit_9 : decode cX6_isDigit 9 = .ok (.if_icmp .gt 7, 3) := by decide +kernel
theorem dX6_isDigit_12 : decode cX6_isDigit 12 = .ok (.iconst 1, 1) := by decide +kernel
theorem dX6_isDigit_13 : decode cX6_isDigit 13 = .ok (.goto 4, 3) := by decide +kernel
theorem dX6_isDigit_16 : decode cX6_isDigit 16 = .ok (.iconst 0, 1) := by decide +kernel
theorem dX6_isDigit_17 : decode cX6_isDigit 17 = .ok (.ireturn, 1) := by decide +kernel
theorem dX6_goes_0 : decode cX6_goes 0 = .ok (.aload_n 0, 1) := by decide +kernel
theorem dX6_goes_1 : decode cX6_goes 1 = .ok (.getfield 142, 3) := by decide +kernel
theorem dX6_goes_4 : decode cX6_goes 4 = .ok (.aload_n 0, 1) := by decide +kernel
theorem dX6_goes_5 : decode cX6_goes 5 = .ok (.getfield 139, 3) := by decide +kernel
theorem dX6_goes_8 : decode cX6_goes 8 = .ok (.if_icmp .ge 42, 3) := by decide +kernel
theorem dX6_goes_11 : decode cX6_goes 11 = .ok (.aload_n 0, 1) := by decide +kernel
theorem dX6_goes_12 : decode cX6_goes 12 = .ok (.aload_n 0, 1) := by decide +kernel
theorem dX6_goes_13 : decode cX6_goes 13 = .ok (.getfield 142, 3) := by decide +kernel
theorem dX6_goes_16 : decode cX6_goes 16 = .ok (.invokevirtual 145, 3) := by decide +kernel
theorem dX6_goes_19 : decode cX6_goes 19 = .ok (.bipush 32, 2) := by decide +kernel
theorem dX6_goes_21 : decode cX6_goes 21 = .ok (.if_icmp .eq 16, 3) := by decide +kernel
theorem dX6_goes_24 : decode cX6_goes 24 = .ok (.aload_n 0, 1) := by decide +kernel
theorem dX6_goes_25 : decode cX6_goes 25 = .ok (.aload_n 0, 1) := by decide +kernel
theorem dX6_goes_26 : decode cX6_goes 26 = .ok (.getfield 142, 3) := by decide +kernel
theorem dX6_goes_29 : decode cX6_goes 29 = .ok (.invokevirtual 145, 3) := by decide +kernel
theorem dX6_goes_32 : decode cX6_goes 32 = .ok (.bipush 10, 2) := by decide +kernel
theorem dX6_goes_34 : decode cX6_goes 34 = .ok (.if_icmp .ne 16, 3) := by decide +kernel
theorem dX6_goes_37 : decode cX6_goes 37 = .ok (.aload_n 0, 1) := by decide +kernel
theorem dX6_goes_38 : decode cX6_goes 38 = .ok (.dup, 1) := by decide +kernel
theorem dX6_goes_39 : decode cX6_goes 39 = .ok (.getfield 142, 3) := by decide +kernel
theorem dX6_goes_42 : decode cX6_goes 42 = .ok (.iconst 1, 1) := by decide +kernel
theorem dX6_goes_43 : decode cX6_goes 43 = .ok (.iadd, 1) := by decide +kernel
theorem dX6_goes_44 : decode cX6_goes 44 = .ok (.putfield 142, 3) := by decide +kernel
theorem dX6_goes_47 : decode cX6_goes 47 = .ok (.goto (-47), 3) := by decide +kernel
theorem dX6_goes_50 : decode cX6_goes 50 = .ok (.aload_n 0, 1) := by decide +kernel
theorem dX6_goes_51 : decode cX6_goes 51 = .ok (.aload_n 0, 1) := by decide +kernel
theorem dX6_goes_52 : decode cX6_goes 52 = .ok (.getfield 142, 3) := by decide +kernel
theorem dX6_goes_55 : decode cX6_goes 55 = .ok (.putfield 149, 3) := by decide +kernel
theorem dX6_goes_58 : decode cX6_goes 58 = .ok (.aload_n 0, 1) := by decide +kernel
theorem dX6_goes_59 : decode cX6_goes 59 = .ok (.lconst 0, 1) := by decide +kernel
theorem dX6_goes_60 : decode cX6_goes 60 = .ok (.putfield 152, 3) := by decide +kernel
theorem dX6_goes_63 : decode cX6_goes 63 = .ok (.aload_n 0, 1) := by decide +kernel
theorem dX6_goes_64 : decode cX6_goes 64 = .ok (.iconst 0, 1) := by decide +kernel
theorem dX6_goes_65 : decode cX6_goes 65 = .ok (.putfield 156, 3) := by decide +kernel
theorem dX6_goes_68 : decode cX6_goes 68 = .ok (.aload_n 0, 1) := by decide +kernel
theorem dX6_goes_69 : decode cX6_goes 69 = .ok (.aload_n 0, 1) := by decide +kernel
theorem dX6_goes_70 : decode cX6_goes 70 = .ok (.getfield 142, 3) := by decide +kernel
theorem dX6_goes_73 : decode cX6_goes 73 = .ok (.invokevirtual 145, 3) := by decide +kernel
theorem dX6_goes_76 : decode cX6_goes 76 = .ok (.istore_n 1, 1) := by decide +kernel
theorem dX6_goes_77 : decode cX6_goes 77 = .ok (.aload_n 0, 1) := by decide +kernel
theorem dX6_goes_78 : decode cX6_goes 78 = .ok (.iload_n 1, 1) := by decide +kernel
theorem dX6_goes_79 : decode cX6_goes 79 = .ok (.putfield 159, 3) := by decide +kernel
theorem dX6_goes_82 : decode cX6_goes 82 = .ok (.aload_n 0, 1) := by decide +kernel
theorem dX6_goes_83 : decode cX6_goes 83 = .ok (.getfield 142, 3) := by decide +kernel
theorem dX6_goes_86 : decode cX6_goes 86 = .ok (.aload_n 0, 1) := by decide +kernel
theorem dX6_goes_87 : decode cX6_goes 87 = .ok (.getfield 139, 3) := by decide +kernel
theorem dX6_goes_90 : decode cX6_goes 90 = .ok (.if_icmp .lt 11, 3) := by decide +kernel
theorem dX6_goes_93 : decode cX6_goes 93 = .ok (.aload_n 0, 1) := by decide +kernel
theorem dX6_goes_94 : decode cX6_goes 94 = .ok (.iconst 0, 1) := by decide +kernel
theorem dX6_goes_95 : decode cX6_goes 95 = .ok (.putfield 162, 3) := by decide +kernel
theorem dX6_goes_98 : decode cX6_goes 98 = .ok (.goto 233, 3) := by decide +kernel
theorem dX6_goes_101 : decode cX6_goes 101 = .ok (.iload_n 1, 1) := by decide +kernel
theorem dX6_goes_102 : decode cX6_goes 102 = .ok (.invokestatic 165, 3) := by decide +kernel
theorem dX6_goes_105 : decode cX6_goes 105 = .ok (.ifCond .eq 75, 3) := by decide +kernel
theorem dX6_goes_108 : decode cX6_goes 108 = .ok (.aload_n 0, 1) := by decide +kernel
theorem dX6_goes_109 : decode cX6_goes 109 = .ok (.aload_n 0, 1) := by decide +kernel
theorem dX6_goes_110 : decode cX6_goes 110 = .ok (.getfield 142, 3) := by decide +kernel
theorem dX6_goes_113 : decode cX6_goes 113 = .ok (.invokevirtual 145, 3) := by decide +kernel
theorem dX6_goes_116 : decode cX6_goes 116 = .ok (.invokestatic 165, 3) := by decide +kernel
theorem dX6_goes_119 : decode cX6_goes 119 = .ok (.ifCond .eq 53, 3) := by decide +kernel
theorem dX6_goes_122 : decode cX6_goes 122 = .ok (.aload_n 0, 1) := by decide +kernel
theorem dX6_goes_123 : decode cX6_goes 123 = .ok (.getfield 142, 3) := by decide +kernel
theorem dX6_goes_126 : decode cX6_goes 126 = .ok (.aload_n 0, 1) := by decide +kernel
theorem dX6_goes_127 : decode cX6_goes 127 = .ok (.getfield 149, 3) := by decide +kernel
theorem dX6_goes_130 : decode cX6_goes 130 = .ok (.isub, 1) := by decide +kernel
theorem dX6_goes_131 : decode cX6_goes 131 = .ok (.bipush 6, 2) := by decide +kernel
theorem dX6_goes_133 : decode cX6_goes 133 = .ok (.if_icmp .ge 26, 3) := by decide +kernel
theorem dX6_goes_136 : decode cX6_goes 136 = .ok (.aload_n 0, 1) := by decide +kernel
theorem dX6_goes_137 : decode cX6_goes 137 = .ok (.aload_n 0, 1) := by decide +kernel
theorem dX6_goes_138 : decode cX6_goes 138 = .ok (.getfield 152, 3) := by decide +kernel
theorem dX6_goes_141 : decode cX6_goes 141 = .ok (.iconst 5, 1) := by decide +kernel
theorem dX6_goes_142 : decode cX6_goes 142 = .ok (.lshl, 1) := by decide +kernel
theorem dX6_goes_143 : decode cX6_goes 143 = .ok (.aload_n 0, 1) := by decide +kernel
theorem dX6_goes_144 : decode cX6_goes 144 = .ok (.aload_n 0, 1) := by decide +kernel
theorem dX6_goes_145 : decode cX6_goes 145 = .ok (.getfield 142, 3) := by decide +kernel
theorem dX6_goes_148 : decode cX6_goes 148 = .ok (.invokevirtual 145, 3) := by decide +kernel
theorem dX6_goes_151 : decode cX6_goes 151 = .ok (.bipush 96, 2) := by decide +kernel
theorem dX6_goes_153 : decode cX6_goes 153 = .ok (.isub, 1) := by decide +kernel
theorem dX6_goes_154 : decode cX6_goes 154 = .ok (.i2l, 1) := by decide +kernel
theorem dX6_goes_155 : decode cX6_goes 155 = .ok (.lor, 1) := by decide +kernel
theorem dX6_goes_156 : decode cX6_goes 156 = .ok (.putfield 152, 3) := by decide +kernel
theorem dX6_goes_159 : decode cX6_goes 159 = .ok (.aload_n 0, 1) := by decide +kernel
theorem dX6_goes_160 : decode cX6_goes 160 = .ok (.dup, 1) := by decide +kernel
theorem dX6_goes_161 : decode cX6_goes 161 = .ok (.getfield 142, 3) := by decide +kernel
theorem dX6_goes_164 : decode cX6_goes 164 = .ok (.iconst 1, 1) := by decide +kernel
theorem dX6_goes_165 : decode cX6_goes 165 = .ok (.iadd, 1) := by decide +kernel
theorem dX6_goes_166 : decode cX6_goes 166 = .ok (.putfield 142, 3) := by decide +kernel
theorem dX6_goes_169 : decode cX6_goes 169 = .ok (.goto (-61), 3) := by decide +kernel
theorem dX6_goes_172 : decode cX6_goes 172 = .ok (.aload_n 0, 1) := by decide +kernel
theorem dX6_goes_173 : decode cX6_goes 173 = .ok (.iconst 1, 1) := by decide +kernel
theorem dX6_goes_174 : decode cX6_goes 174 = .ok (.putfield 162, 3) := by decide +kernel
theorem dX6_goes_177 : decode cX6_goes 177 = .ok (.goto 154, 3) := by decide +kernel
theorem dX6_goes_180 : decode cX6_goes 180 = .ok (.iload_n 1, 1) := by decide +kernel
theorem dX6_goes_181 : decode cX6_goes 181 = .ok (.invokestatic 169, 3) := by decide +kernel
theorem dX6_goes_184 : decode cX6_goes 184 = .ok (.ifCond .eq 74, 3) := by decide +kernel
theorem dX6_goes_187 : decode cX6_goes 187 = .ok (.aload_n 0, 1) := by decide +kernel
theorem dX6_goes_188 : decode cX6_goes 188 = .ok (.aload_n 0, 1) := by decide +kernel
theorem dX6_goes_189 : decode cX6_goes 189 = .ok (.getfield 142, 3) := by decide +kernel
theorem dX6_goes_192 : decode cX6_goes 192 = .ok (.invokevirtual 145, 3) := by decide +kernel
theorem dX6_goes_195 : decode cX6_goes 195 = .ok (.invokestatic 169, 3) := by decide +kernel
theorem dX6_goes_198 : decode cX6_goes 198 = .ok (.ifCond .eq 52, 3) := by decide +kernel
theorem dX6_goes_201 : decode cX6_goes 201 = .ok (.aload_n 0, 1) := by decide +kernel
theorem dX6_goes_202 : decode cX6_goes 202 = .ok (.getfield 142, 3) := by decide +kernel
theorem dX6_goes_205 : decode cX6_goes 205 = .ok (.aload_n 0, 1) := by decide +kernel
theorem dX6_goes_206 : decode cX6_goes 206 = .ok (.getfield 149, 3) := by decide +kernel
theorem dX6_goes_209 : decode cX6_goes 209 = .ok (.isub, 1) := by decide +kernel
theorem dX6_goes_210 : decode cX6_goes 210 = .ok (.iconst 4, 1) := by decide +kernel
theorem dX6_goes_211 : decode cX6_goes 211 = .ok (.if_icmp .ge 26, 3) := by decide +kernel
theorem dX6_goes_214 : decode cX6_goes 214 = .ok (.aload_n 0, 1) := by decide +kernel
theorem dX6_goes_215 : decode cX6_goes 215 = .ok (.bipush 10, 2) := by decide +kernel
theorem dX6_goes_217 : decode cX6_goes 217 = .ok (.aload_n 0, 1) := by decide +kernel
theorem dX6_goes_218 : decode cX6_goes 218 = .ok (.getfield 156, 3) := by decide +kernel
theorem dX6_goes_221 : decode cX6_goes 221 = .ok (.imul, 1) := by decide +kernel
theorem dX6_goes_222 : decode cX6_goes 222 = .ok (.aload_n 0, 1) := by decide +kernel
theorem dX6_goes_223 : decode cX6_goes 223 = .ok (.aload_n 0, 1) := by decide +kernel
theorem dX6_goes_224 : decode cX6_goes 224 = .ok (.getfield 142, 3) := by decide +kernel
theorem dX6_goes_227 : decode cX6_goes 227 = .ok (.invokevirtual 145, 3) := by decide +kernel
theorem dX6_goes_230 : decode cX6_goes 230 = .ok (.iadd, 1) := by decide +kernel
theorem dX6_goes_231 : decode cX6_goes 231 = .ok (.bipush 48, 2) := by decide +kernel
theorem dX6_goes_233 : decode cX6_goes 233 = .ok (.isub, 1) := by decide +kernel
theorem dX6_goes_234 : decode cX6_goes 234 = .ok (.putfield 156, 3) := by decide +kernel
theorem dX6_goes_237 : decode cX6_goes 237 = .ok (.aload_n 0, 1) := by decide +kernel
theorem dX6_goes_238 : decode cX6_goes 238 = .ok (.dup, 1) := by decide +kernel
theorem dX6_goes_239 : decode cX6_goes 239 = .ok (.getfield 142, 3) := by decide +kernel
theorem dX6_goes_242 : decode cX6_goes 242 = .ok (.iconst 1, 1) := by decide +kernel
theorem dX6_goes_243 : decode cX6_goes 243 = .ok (.iadd, 1) := by decide +kernel
theorem dX6_goes_244 : decode cX6_goes 244 = .ok (.putfield 142, 3) := by decide +kernel
theorem dX6_goes_247 : decode cX6_goes 247 = .ok (.goto (-60), 3) := by decide +kernel
theorem dX6_goes_250 : decode cX6_goes 250 = .ok (.aload_n 0, 1) := by decide +kernel
theorem dX6_goes_251 : decode cX6_goes 251 = .ok (.iconst 2, 1) := by decide +kernel
theorem dX6_goes_252 : decode cX6_goes 252 = .ok (.putfield 162, 3) := by decide +kernel
theorem dX6_goes_255 : decode cX6_goes 255 = .ok (.goto 76, 3) := by decide +kernel
theorem dX6_goes_258 : decode cX6_goes 258 = .ok (.aload_n 0, 1) := by decide +kernel
theorem dX6_goes_259 : decode cX6_goes 259 = .ok (.dup, 1) := by decide +kernel
theorem dX6_goes_260 : decode cX6_goes 260 = .ok (.getfield 142, 3) := by decide +kernel
theorem dX6_goes_263 : decode cX6_goes 263 = .ok (.iconst 1, 1) := by decide +kernel
theorem dX6_goes_264 : decode cX6_goes 264 = .ok (.iadd, 1) := by decide +kernel
theorem dX6_goes_265 : decode cX6_goes 265 = .ok (.putfield 142, 3) := by decide +kernel
theorem dX6_goes_268 : decode cX6_goes 268 = .ok (.aload_n 0, 1) := by decide +kernel
theorem dX6_goes_269 : decode cX6_goes 269 = .ok (.iload_n 1, 1) := by decide +kernel
theorem dX6_goes_270 : decode cX6_goes 270 = .ok (.bipush 59, 2) := by decide +kernel
theorem dX6_goes_272 : decode cX6_goes 272 = .ok (.if_icmp .eq 51, 3) := by decide +kernel
theorem dX6_goes_275 : decode cX6_goes 275 = .ok (.iload_n 1, 1) := by decide +kernel
theorem dX6_goes_276 : decode cX6_goes 276 = .ok (.bipush 40, 2) := by decide +kernel
theorem dX6_goes_278 : decode cX6_goes 278 = .ok (.if_icmp .eq 45, 3) := by decide +kernel
theorem dX6_goes_281 : decode cX6_goes 281 = .ok (.iload_n 1, 1) := by decide +kernel
theorem dX6_goes_282 : decode cX6_goes 282 = .ok (.bipush 41, 2) := by decide +kernel
theorem dX6_goes_284 : decode cX6_goes 284 = .ok (.if_icmp .eq 39, 3) := by decide +kernel
theorem dX6_goes_287 : decode cX6_goes 287 = .ok (.iload_n 1, 1) := by decide +kernel
theorem dX6_goes_288 : decode cX6_goes 288 = .ok (.bipush 43, 2) := by decide +kernel
theorem dX6_goes_290 : decode cX6_goes 290 = .ok (.if_icmp .eq 33, 3) := by decide +kernel
theorem dX6_goes_293 : decode cX6_goes 293 = .ok (.iload_n 1, 1) := by decide +kernel
theorem dX6_goes_294 : decode cX6_goes 294 = .ok (.bipush 45, 2) := by decide +kernel
theorem dX6_goes_296 : decode cX6_goes 296 = .ok (.if_icmp .eq 27, 3) := by decide +kernel
theorem dX6_goes_299 : decode cX6_goes 299 = .ok (.iload_n 1, 1) := by decide +kernel
theorem dX6_goes_300 : decode cX6_goes 300 = .ok (.bipush 42, 2) := by decide +kernel
theorem dX6_goes_302 : decode cX6_goes 302 = .ok (.if_icmp .eq 21, 3) := by decide +kernel
theorem dX6_goes_305 : decode cX6_goes 305 = .ok (.iload_n 1, 1) := by decide +kernel
theorem dX6_goes_306 : decode cX6_goes 306 = .ok (.bipush 47, 2) := by decide +kernel
theorem dX6_goes_308 : decode cX6_goes 308 = .ok (.if_icmp .eq 15, 3) := by decide +kernel
theorem dX6_goes_311 : decode cX6_goes 311 = .ok (.iload_n 1, 1) := by decide +kernel
theorem dX6_goes_312 : decode cX6_goes 312 = .ok (.bipush 60, 2) := by decide +kernel
theorem dX6_goes_314 : decode cX6_goes 314 = .ok (.if_icmp .eq 9, 3) := by decide +kernel
theorem dX6_goes_317 : decode cX6_goes 317 = .ok (.iload_n 1, 1) := by decide +kernel
theorem dX6_goes_318 : decode cX6_goes 318 = .ok (.bipush 61, 2) := by decide +kernel
theorem dX6_goes_320 : decode cX6_goes 320 = .ok (.if_icmp .ne 7, 3) := by decide +kernel
theorem dX6_goes_323 : decode cX6_goes 323 = .ok (.iconst 3, 1) := by decide +kernel
theorem dX6_goes_324 : decode cX6_goes 324 = .ok (.goto 4, 3) := by decide +kernel
theorem dX6_goes_327 : decode cX6_goes 327 = .ok (.iconst 4, 1) := by decide +kernel
theorem dX6_goes_328 : decode cX6_goes 328 = .ok (.putfield 162, 3) := by decide +kernel
theorem dX6_goes_331 : decode cX6_goes 331 = .ok (.aload_n 0, 1) := by decide +kernel
theorem dX6_goes_332 : decode cX6_goes 332 = .ok (.aload_n 0, 1) := by decide +kernel
theorem dX6_goes_333 : decode cX6_goes 333 = .ok (.getfield 142, 3) := by decide +kernel
theorem dX6_goes_336 : decode cX6_goes 336 = .ok (.aload_n 0, 1) := by decide +kernel
theorem dX6_goes_337 : decode cX6_goes 337 = .ok (.getfield 149, 3) := by decide +kernel
theorem dX6_goes_340 : decode cX6_goes 340 = .ok (.isub, 1) := by decide +kernel
theorem dX6_goes_341 : decode cX6_goes 341 = .ok (.putfield 172, 3) := by decide +kernel
theorem dX6_goes_344 : decode cX6_goes 344 = .ok (.return_, 1) := by decide +kernel
theorem dX6_spelled_0 : decode cX6_spelled 0 = .ok (.iload_n 0, 1) := by decide +kernel
theorem dX6_spelled_1 : decode cX6_spelled 1 = .ok (.i2l, 1) := by decide +kernel
theorem dX6_spelled_2 : decode cX6_spelled 2 = .ok (.ldc2_w 175, 3) := by decide +kernel
theorem dX6_spelled_5 : decode cX6_spelled 5 = .ok (.lsub, 1) := by decide +kernel
theorem dX6_spelled_6 : decode cX6_spelled 6 = .ok (.iconst 5, 1) := by decide +kernel
theorem dX6_spelled_7 : decode cX6_spelled 7 = .ok (.lshl, 1) := by decide +kernel
theorem dX6_spelled_8 : decode cX6_spelled 8 = .ok (.iload_n 1, 1) := by decide +kernel
theorem dX6_spelled_9 : decode cX6_spelled 9 = .ok (.bipush 96, 2) := by decide +kernel
theorem dX6_spelled_11 : decode cX6_spelled 11 = .ok (.isub, 1) := by decide +kernel
theorem dX6_spelled_12 : decode cX6_spelled 12 = .ok (.i2l, 1) := by decide +kernel
theorem dX6_spelled_13 : decode cX6_spelled 13 = .ok (.lor, 1) := by decide +kernel
theorem dX6_spelled_14 : decode cX6_spelled 14 = .ok (.lstore 6, 2) := by decide +kernel
theorem dX6_spelled_16 : decode cX6_spelled 16 = .ok (.iload_n 2, 1) := by decide +kernel
theorem dX6_spelled_17 : decode cX6_spelled 17 = .ok (.ifCond .eq 15, 3) := by decide +kernel
theorem dX6_spelled_20 : decode cX6_spelled 20 = .ok (.lload 6, 2) := by decide +kernel
theorem dX6_spelled_22 : decode cX6_spelled 22 = .ok (.iconst 5, 1) := by decide +kernel
theorem dX6_spelled_23 : decode cX6_spelled 23 = .ok (.lshl, 1) := by decide +kernel
theorem dX6_spelled_24 : decode cX6_spelled 24 = .ok (.iload_n 2, 1) := by decide +kernel
theorem dX6_spelled_25 : decode cX6_spelled 25 = .ok (.bipush 96, 2) := by decide +kernel
theorem dX6_spelled_27 : decode cX6_spelled 27 = .ok (.isub, 1) := by decide +kernel
theorem dX6_spelled_28 : decode cX6_spelled 28 = .ok (.i2l, 1) := by decide +kernel
theorem dX6_spelled_29 : decode cX6_spelled 29 = .ok (.lor, 1) := by decide +kernel
theorem dX6_spelled_30 : decode cX6_spelled 30 = .ok (.lstore 6, 2) := by decide +kernel
theorem dX6_spelled_32 : decode cX6_spelled 32 = .ok (.iload_n 3, 1) := by decide +kernel
theorem dX6_spelled_33 : decode cX6_spelled 33 = .ok (.ifCond .eq 15, 3) := by decide +kernel
theorem dX6_spelled_36 : decode cX6_spelled 36 = .ok (.lload 6, 2) := by decide +kernel
theorem dX6_spelled_38 : decode cX6_spelled 38 = .ok (.iconst 5, 1) := by decide +kernel
theorem dX6_spelled_39 : decode cX6_spelled 39 = .ok (.lshl, 1) := by decide +kernel
theorem dX6_spelled_40 : decode cX6_spelled 40 = .ok (.iload_n 3, 1) := by decide +kernel
theorem dX6_spelled_41 : decode cX6_spelled 41 = .ok (.bipush 96, 2) := by decide +kernel
theorem dX6_spelled_43 : decode cX6_spelled 43 = .ok (.isub, 1) := by decide +kernel
theorem dX6_spelled_44 : decode cX6_spelled 44 = .ok (.i2l, 1) := by decide +kernel
theorem dX6_spelled_45 : decode cX6_spelled 45 = .ok (.lor, 1) := by decide +kernel
theorem dX6_spelled_46 : decode cX6_spelled 46 = .ok (.lstore 6, 2) := by decide +kernel
theorem dX6_spelled_48 : decode cX6_spelled 48 = .ok (.iload 4, 2) := by decide +kernel
theorem dX6_spelled_50 : decode cX6_spelled 50 = .ok (.ifCond .eq 16, 3) := by decide +kernel
theorem dX6_spelled_53 : decode cX6_spelled 53 = .ok (.lload 6, 2) := by decide +kernel
theorem dX6_spelled_55 : decode cX6_spelled 55 = .ok (.iconst 5, 1) := by decide +kernel
theorem dX6_spelled_56 : decode cX6_spelled 56 = .ok (.lshl, 1) := by decide +kernel
theorem dX6_spelled_57 : decode cX6_spelled 57 = .ok (.iload 4, 2) := by decide +kernel
theorem dX6_spelled_59 : decode cX6_spelled 59 = .ok (.bipush 96, 2) := by decide +kernel
theorem dX6_spelled_61 : decode cX6_spelled 61 = .ok (.isub, 1) := by decide +kernel
theorem dX6_spelled_62 : decode cX6_spelled 62 = .ok (.i2l, 1) := by decide +kernel
theorem dX6_spelled_63 : decode cX6_spelled 63 = .ok (.lor, 1) := by decide +kernel
theorem dX6_spelled_64 : decode cX6_spelled 64 = .ok (.lstore 6, 2) := by decide +kernel
theorem dX6_spelled_66 : decode cX6_spelled 66 = .ok (.iload 5, 2) := by decide +kernel
theorem dX6_spelled_68 : decode cX6_spelled 68 = .ok (.ifCond .eq 16, 3) := by decide +kernel
theorem dX6_spelled_71 : decode cX6_spelled 71 = .ok (.lload 6, 2) := by decide +kernel
theorem dX6_spelled_73 : decode cX6_spelled 73 = .ok (.iconst 5, 1) := by decide +kernel
theorem dX6_spelled_74 : decode cX6_spelled 74 = .ok (.lshl, 1) := by decide +kernel
theorem dX6_spelled_75 : decode cX6_spelled 75 = .ok (.iload 5, 2) := by decide +kernel
theorem dX6_spelled_77 : decode cX6_spelled 77 = .ok (.bipush 96, 2) := by decide +kernel
theorem dX6_spelled_79 : decode cX6_spelled 79 = .ok (.isub, 1) := by decide +kernel
theorem dX6_spelled_80 : decode cX6_spelled 80 = .ok (.i2l, 1) := by decide +kernel
theorem dX6_spelled_81 : decode cX6_spelled 81 = .ok (.lor, 1) := by decide +kernel
theorem dX6_spelled_82 : decode cX6_spelled 82 = .ok (.lstore 6, 2) := by decide +kernel
theorem dX6_spelled_84 : decode cX6_spelled 84 = .ok (.lload 6, 2) := by decide +kernel
theorem dX6_spelled_86 : decode cX6_spelled 86 = .ok (.lreturn, 1) := by decide +kernel
theorem dX6_letters_0 : decode cX6_letters 0 = .ok (.iload_n 0, 1) := by decide +kernel
theorem dX6_letters_1 : decode cX6_letters 1 = .ok (.tableswitch 302 0 15 #[79, 94, 107, 121, 135, 149, 165, 180, 195, 208, 223, 237, 251, 264, 277, 290], 79) := by decide +kernel
theorem dX6_letters_80 : decode cX6_letters 80 = .ok (.bipush 109, 2) := by decide +kernel
theorem dX6_letters_82 : decode cX6_letters 82 = .ok (.bipush 105, 2) := by decide +kernel
theorem dX6_letters_84 : decode cX6_letters 84 = .ok (.bipush 108, 2) := by decide +kernel
theorem dX6_letters_86 : decode cX6_letters 86 = .ok (.bipush 101, 2) := by decide +kernel
theorem dX6_letters_88 : decode cX6_letters 88 = .ok (.bipush 115, 2) := by decide +kernel
theorem dX6_letters_90 : decode cX6_letters 90 = .ok (.iconst 0, 1) := by decide +kernel
theorem dX6_letters_91 : decode cX6_letters 91 = .ok (.invokestatic 177, 3) := by decide +kernel
theorem dX6_letters_94 : decode cX6_letters 94 = .ok (.lreturn, 1) := by decide +kernel
theorem dX6_letters_95 : decode cX6_letters 95 = .ok (.bipush 102, 2) := by decide +kernel
theorem dX6_letters_97 : decode cX6_letters 97 = .ok (.bipush 97, 2) := by decide +kernel
theorem dX6_letters_99 : decode cX6_letters 99 = .ok (.bipush 114, 2) := by decide +kernel
theorem dX6_letters_101 : decode cX6_letters 101 = .ok (.iconst 0, 1) := by decide +kernel
theorem dX6_letters_102 : decode cX6_letters 102 = .ok (.iconst 0, 1) := by decide +kernel
theorem dX6_letters_103 : decode cX6_letters 103 = .ok (.iconst 0, 1) := by decide +kernel
theorem dX6_letters_104 : decode cX6_letters 104 = .ok (.invokestatic 177, 3) := by decide +kernel
theorem dX6_letters_107 : decode cX6_letters 107 = .ok (.lreturn, 1) := by decide +kernel
theorem dX6_letters_108 : decode cX6_letters 108 = .ok (.bipush 104, 2) := by decide +kernel
theorem dX6_letters_110 : decode cX6_letters 110 = .ok (.bipush 105, 2) := by decide +kernel
theorem dX6_letters_112 : decode cX6_letters 112 = .ok (.bipush 103, 2) := by decide +kernel
theorem dX6_letters_114 : decode cX6_letters 114 = .ok (.bipush 104, 2) := by decide +kernel
theorem dX6_letters_116 : decode cX6_letters 116 = .ok (.iconst 0, 1) := by decide +kernel
theorem dX6_letters_117 : decode cX6_letters 117 = .ok (.iconst 0, 1) := by decide +kernel
theorem dX6_letters_118 : decode cX6_letters 118 = .ok (.invokestatic 177, 3) := by decide +kernel
theorem dX6_letters_121 : decode cX6_letters 121 = .ok (.lreturn, 1) := by decide +kernel
theorem dX6_letters_122 : decode cX6_letters 122 = .ok (.bipush 107, 2) := by decide +kernel
theorem dX6_letters_124 : decode cX6_letters 124 = .ok (.bipush 105, 2) := by decide +kernel
theorem dX6_letters_126 : decode cX6_letters 126 = .ok (.bipush 110, 2) := by decide +kernel
theorem dX6_letters_128 : decode cX6_letters 128 = .ok (.bipush 100, 2) := by decide +kernel
theorem dX6_letters_130 : decode cX6_letters 130 = .ok (.iconst 0, 1) := by decide +kernel
theorem dX6_letters_131 : decode cX6_letters 131 = .ok (.iconst 0, 1) := by decide +kernel
theorem dX6_letters_132 : decode cX6_letters 132 = .ok (.invokestatic 177, 3) := by decide +kernel
theorem dX6_letters_135 : decode cX6_letters 135 = .ok (.lreturn, 1) := by decide +kernel
theorem dX6_letters_136 : decode cX6_letters 136 = .ok (.bipush 121, 2) := by decide +kernel
theorem dX6_letters_138 : decode cX6_letters 138 = .ok (.bipush 101, 2) := by decide +kernel
theorem dX6_letters_140 : decode cX6_letters 140 = .ok (.bipush 97, 2) := by decide +kernel
theorem dX6_letters_142 : decode cX6_letters 142 = .ok (.bipush 114, 2) := by decide +kernel
theorem dX6_letters_144 : decode cX6_letters 144 = .ok (.iconst 0, 1) := by decide +kernel
theorem dX6_letters_145 : decode cX6_letters 145 = .ok (.iconst 0, 1) := by decide +kernel
theorem dX6_letters_146 : decode cX6_letters 146 = .ok (.invokestatic 177, 3) := by decide +kernel
theorem dX6_letters_149 : decode cX6_letters 149 = .ok (.lreturn, 1) := by decide +kernel
theorem dX6_letters_150 : decode cX6_letters 150 = .ok (.bipush 104, 2) := by decide +kernel
theorem dX6_letters_152 : decode cX6_letters 152 = .ok (.bipush 111, 2) := by decide +kernel
theorem dX6_letters_154 : decode cX6_letters 154 = .ok (.bipush 117, 2) := by decide +kernel
theorem dX6_letters_156 : decode cX6_letters 156 = .ok (.bipush 115, 2) := by decide +kernel
theorem dX6_letters_158 : decode cX6_letters 158 = .ok (.bipush 101, 2) := by decide +kernel
theorem dX6_letters_160 : decode cX6_letters 160 = .ok (.bipush 115, 2) := by decide +kernel
theorem dX6_letters_162 : decode cX6_letters 162 = .ok (.invokestatic 177, 3) := by decide +kernel
theorem dX6_letters_165 : decode cX6_letters 165 = .ok (.lreturn, 1) := by decide +kernel
theorem dX6_letters_166 : decode cX6_letters 166 = .ok (.bipush 102, 2) := by decide +kernel
theorem dX6_letters_168 : decode cX6_letters 168 = .ok (.bipush 108, 2) := by decide +kernel
theorem dX6_letters_170 : decode cX6_letters 170 = .ok (.bipush 111, 2) := by decide +kernel
theorem dX6_letters_172 : decode cX6_letters 172 = .ok (.bipush 111, 2) := by decide +kernel
theorem dX6_letters_174 : decode cX6_letters 174 = .ok (.bipush 114, 2) := by decide +kernel
theorem dX6_letters_176 : decode cX6_letters 176 = .ok (.iconst 0, 1) := by decide +kernel
theorem dX6_letters_177 : decode cX6_letters 177 = .ok (.invokestatic 177, 3) := by decide +kernel
theorem dX6_letters_180 : decode cX6_letters 180 = .ok (.lreturn, 1) := by decide +kernel
theorem dX6_letters_181 : decode cX6_letters 181 = .ok (.bipush 118, 2) := by decide +kernel
theorem dX6_letters_183 : decode cX6_letters 183 = .ok (.bipush 105, 2) := by decide +kernel
theorem dX6_letters_185 : decode cX6_letters 185 = .ok (.bipush 108, 2) := by decide +kernel
theorem dX6_letters_187 : decode cX6_letters 187 = .ok (.bipush 108, 2) := by decide +kernel
theorem dX6_letters_189 : decode cX6_letters 189 = .ok (.bipush 97, 2) := by decide +kernel
theorem dX6_letters_191 : decode cX6_letters 191 = .ok (.iconst 0, 1) := by decide +kernel
theorem dX6_letters_192 : decode cX6_letters 192 = .ok (.invokestatic 177, 3) := by decide +kernel
theorem dX6_letters_195 : decode cX6_letters 195 = .ok (.lreturn, 1) := by decide +kernel
theorem dX6_letters_196 : decode cX6_letters 196 = .ok (.bipush 105, 2) := by decide +kernel
theorem dX6_letters_198 : decode cX6_letters 198 = .ok (.bipush 110, 2) := by decide +kernel
theorem dX6_letters_200 : decode cX6_letters 200 = .ok (.bipush 110, 2) := by decide +kernel
theorem dX6_letters_202 : decode cX6_letters 202 = .ok (.iconst 0, 1) := by decide +kernel
theorem dX6_letters_203 : decode cX6_letters 203 = .ok (.iconst 0, 1) := by decide +kernel
theorem dX6_letters_204 : decode cX6_letters 204 = .ok (.iconst 0, 1) := by decide +kernel
theorem dX6_letters_205 : decode cX6_letters 205 = .ok (.invokestatic 177, 3) := by decide +kernel
theorem dX6_letters_208 : decode cX6_letters 208 = .ok (.lreturn, 1) := by decide +kernel
theorem dX6_letters_209 : decode cX6_letters 209 = .ok (.bipush 98, 2) := by decide +kernel
theorem dX6_letters_211 : decode cX6_letters 211 = .ok (.bipush 108, 2) := by decide +kernel
theorem dX6_letters_213 : decode cX6_letters 213 = .ok (.bipush 105, 2) := by decide +kernel
theorem dX6_letters_215 : decode cX6_letters 215 = .ok (.bipush 110, 2) := by decide +kernel
theorem dX6_letters_217 : decode cX6_letters 217 = .ok (.bipush 100, 2) := by decide +kernel
theorem dX6_letters_219 : decode cX6_letters 219 = .ok (.iconst 0, 1) := by decide +kernel
theorem dX6_letters_220 : decode cX6_letters 220 = .ok (.invokestatic 177, 3) := by decide +kernel
theorem dX6_letters_223 : decode cX6_letters 223 = .ok (.lreturn, 1) := by decide +kernel
theorem dX6_letters_224 : decode cX6_letters 224 = .ok (.bipush 108, 2) := by decide +kernel
theorem dX6_letters_226 : decode cX6_letters 226 = .ok (.bipush 97, 2) := by decide +kernel
theorem dX6_letters_228 : decode cX6_letters 228 = .ok (.bipush 110, 2) := by decide +kernel
theorem dX6_letters_230 : decode cX6_letters 230 = .ok (.bipush 100, 2) := by decide +kernel
theorem dX6_letters_232 : decode cX6_letters 232 = .ok (.iconst 0, 1) := by decide +kernel
theorem dX6_letters_233 : decode cX6_letters 233 = .ok (.iconst 0, 1) := by decide +kernel
theorem dX6_letters_234 : decode cX6_letters 234 = .ok (.invokestatic 177, 3) := by decide +kernel
theorem dX6_letters_237 : decode cX6_letters 237 = .ok (.lreturn, 1) := by decide +kernel
theorem dX6_letters_238 : decode cX6_letters 238 = .ok (.bipush 116, 2) := by decide +kernel
theorem dX6_letters_240 : decode cX6_letters 240 = .ok (.bipush 114, 2) := by decide +kernel
theorem dX6_letters_242 : decode cX6_letters 242 = .ok (.bipush 101, 2) := by decide +kernel
theorem dX6_letters_244 : decode cX6_letters 244 = .ok (.bipush 101, 2) := by decide +kernel
theorem dX6_letters_246 : decode cX6_letters 246 = .ok (.iconst 0, 1) := by decide +kernel
theorem dX6_letters_247 : decode cX6_letters 247 = .ok (.iconst 0, 1) := by decide +kernel
theorem dX6_letters_248 : decode cX6_letters 248 = .ok (.invokestatic 177, 3) := by decide +kernel
theorem dX6_letters_251 : decode cX6_letters 251 = .ok (.lreturn, 1) := by decide +kernel
theorem dX6_letters_252 : decode cX6_letters 252 = .ok (.bipush 102, 2) := by decide +kernel
theorem dX6_letters_254 : decode cX6_letters 254 = .ok (.bipush 111, 2) := by decide +kernel
theorem dX6_letters_256 : decode cX6_letters 256 = .ok (.bipush 103, 2) := by decide +kernel
theorem dX6_letters_258 : decode cX6_letters 258 = .ok (.iconst 0, 1) := by decide +kernel
theorem dX6_letters_259 : decode cX6_letters 259 = .ok (.iconst 0, 1) := by decide +kernel
theorem dX6_letters_260 : decode cX6_letters 260 = .ok (.iconst 0, 1) := by decide +kernel
theorem dX6_letters_261 : decode cX6_letters 261 = .ok (.invokestatic 177, 3) := by decide +kernel
theorem dX6_letters_264 : decode cX6_letters 264 = .ok (.lreturn, 1) := by decide +kernel
theorem dX6_letters_265 : decode cX6_letters 265 = .ok (.bipush 116, 2) := by decide +kernel
theorem dX6_letters_267 : decode cX6_letters 267 = .ok (.bipush 97, 2) := by decide +kernel
theorem dX6_letters_269 : decode cX6_letters 269 = .ok (.bipush 120, 2) := by decide +kernel
theorem dX6_letters_271 : decode cX6_letters 271 = .ok (.iconst 0, 1) := by decide +kernel
theorem dX6_letters_272 : decode cX6_letters 272 = .ok (.iconst 0, 1) := by decide +kernel
theorem dX6_letters_273 : decode cX6_letters 273 = .ok (.iconst 0, 1) := by decide +kernel
theorem dX6_letters_274 : decode cX6_letters 274 = .ok (.invokestatic 177, 3) := by decide +kernel
theorem dX6_letters_277 : decode cX6_letters 277 = .ok (.lreturn, 1) := by decide +kernel
theorem dX6_letters_278 : decode cX6_letters 278 = .ok (.bipush 97, 2) := by decide +kernel
theorem dX6_letters_280 : decode cX6_letters 280 = .ok (.bipush 110, 2) := by decide +kernel
theorem dX6_letters_282 : decode cX6_letters 282 = .ok (.bipush 100, 2) := by decide +kernel
theorem dX6_letters_284 : decode cX6_letters 284 = .ok (.iconst 0, 1) := by decide +kernel
theorem dX6_letters_285 : decode cX6_letters 285 = .ok (.iconst 0, 1) := by decide +kernel
theorem dX6_letters_286 : decode cX6_letters 286 = .ok (.iconst 0, 1) := by decide +kernel
theorem dX6_letters_287 : decode cX6_letters 287 = .ok (.invokestatic 177, 3) := by decide +kernel
theorem dX6_letters_290 : decode cX6_letters 290 = .ok (.lreturn, 1) := by decide +kernel
theorem dX6_letters_291 : decode cX6_letters 291 = .ok (.bipush 111, 2) := by decide +kernel
theorem dX6_letters_293 : decode cX6_letters 293 = .ok (.bipush 114, 2) := by decide +kernel
theorem dX6_letters_295 : decode cX6_letters 295 = .ok (.iconst 0, 1) := by decide +kernel
theorem dX6_letters_296 : decode cX6_letters 296 = .ok (.iconst 0, 1) := by decide +kernel
theorem dX6_letters_297 : decode cX6_letters 297 = .ok (.iconst 0, 1) := by decide +kernel
theorem dX6_letters_298 : decode cX6_letters 298 = .ok (.iconst 0, 1) := by decide +kernel
theorem dX6_letters_299 : decode cX6_letters 299 = .ok (.invokestatic 177, 3) := by decide +kernel
theorem dX6_letters_302 : decode cX6_letters 302 = .ok (.lreturn, 1) := by decide +kernel
theorem dX6_letters_303 : decode cX6_letters 303 = .ok (.bipush 110, 2) := by decide +kernel
theorem dX6_letters_305 : decode cX6_letters 305 = .ok (.bipush 111, 2) := by decide +kernel
theorem dX6_letters_307 : decode cX6_letters 307 = .ok (.bipush 116, 2) := by decide +kernel
theorem dX6_letters_309 : decode cX6_letters 309 = .ok (.iconst 0, 1) := by decide +kernel
theorem dX6_letters_310 : decode cX6_letters 310 = .ok (.iconst 0, 1) := by decide +kernel
theorem dX6_letters_311 : decode cX6_letters 311 = .ok (.iconst 0, 1) := by decide +kernel
theorem dX6_letters_312 : decode cX6_letters 312 = .ok (.invokestatic 177, 3) := by decide +kernel
theorem dX6_letters_315 : decode cX6_letters 315 = .ok (.lreturn, 1) := by decide +kernel
theorem dX6_knownWord_0 : decode cX6_knownWord 0 = .ok (.aload_n 0, 1) := by decide +kernel
theorem dX6_knownWord_1 : decode cX6_knownWord 1 = .ok (.getfield 162, 3) := by decide +kernel
theorem dX6_knownWord_4 : decode cX6_knownWord 4 = .ok (.iconst 1, 1) := by decide +kernel
theorem dX6_knownWord_5 : decode cX6_knownWord 5 = .ok (.if_icmp .ne 12, 3) := by decide +kernel
theorem dX6_knownWord_8 : decode cX6_knownWord 8 = .ok (.aload_n 0, 1) := by decide +kernel
theorem dX6_knownWord_9 : decode cX6_knownWord 9 = .ok (.getfield 172, 3) := by decide +kernel
theorem dX6_knownWord_12 : decode cX6_knownWord 12 = .ok (.bipush 6, 2) := by decide +kernel
theorem dX6_knownWord_14 : decode cX6_knownWord 14 = .ok (.if_icmp .le 5, 3) := by decide +kernel
theorem dX6_knownWord_17 : decode cX6_knownWord 17 = .ok (.iconst (-1), 1) := by decide +kernel
theorem dX6_knownWord_18 : decode cX6_knownWord 18 = .ok (.ireturn, 1) := by decide +kernel
theorem dX6_knownWord_19 : decode cX6_knownWord 19 = .ok (.iconst 0, 1) := by decide +kernel
theorem dX6_knownWord_20 : decode cX6_knownWord 20 = .ok (.istore_n 1, 1) := by decide +kernel
theorem dX6_knownWord_21 : decode cX6_knownWord 21 = .ok (.iload_n 1, 1) := by decide +kernel
theorem dX6_knownWord_22 : decode cX6_knownWord 22 = .ok (.bipush 17, 2) := by decide +kernel
theorem dX6_knownWord_24 : decode cX6_knownWord 24 = .ok (.if_icmp .ge 23, 3) := by decide +kernel
theorem dX6_knownWord_27 : decode cX6_knownWord 27 = .ok (.iload_n 1, 1) := by decide +kernel
theorem dX6_knownWord_28 : decode cX6_knownWord 28 = .ok (.invokestatic 181, 3) := by decide +kernel
theorem dX6_knownWord_31 : decode cX6_knownWord 31 = .ok (.aload_n 0, 1) := by decide +kernel
theorem dX6_knownWord_32 : decode cX6_knownWord 32 = .ok (.getfield 152, 3) := by decide +kernel
theorem dX6_knownWord_35 : decode cX6_knownWord 35 = .ok (.lcmp, 1) := by decide +kernel
theorem dX6_knownWord_36 : decode cX6_knownWord 36 = .ok (.ifCond .ne 5, 3) := by decide +kernel
theorem dX6_knownWord_39 : decode cX6_knownWord 39 = .ok (.iload_n 1, 1) := by decide +kernel
theorem dX6_knownWord_40 : decode cX6_knownWord 40 = .ok (.ireturn, 1) := by decide +kernel
theorem dX6_knownWord_41 : decode cX6_knownWord 41 = .ok (.iinc 1 1, 3) := by decide +kernel
theorem dX6_knownWord_44 : decode cX6_knownWord 44 = .ok (.goto (-23), 3) := by decide +kernel
theorem dX6_knownWord_47 : decode cX6_knownWord 47 = .ok (.iconst (-1), 1) := by decide +kernel
theorem dX6_knownWord_48 : decode cX6_knownWord 48 = .ok (.ireturn, 1) := by decide +kernel
theorem dX6_wrong_0 : decode cX6_wrong 0 = .ok (.aload_n 0, 1) := by decide +kernel
theorem dX6_wrong_1 : decode cX6_wrong 1 = .ok (.getfield 185, 3) := by decide +kernel
theorem dX6_wrong_4 : decode cX6_wrong 4 = .ok (.ifCond .eq 4, 3) := by decide +kernel
theorem dX6_wrong_7 : decode cX6_wrong 7 = .ok (.return_, 1) := by decide +kernel
theorem dX6_wrong_8 : decode cX6_wrong 8 = .ok (.aload_n 0, 1) := by decide +kernel
theorem dX6_wrong_9 : decode cX6_wrong 9 = .ok (.iload_n 1, 1) := by decide +kernel
theorem dX6_wrong_10 : decode cX6_wrong 10 = .ok (.putfield 185, 3) := by decide +kernel
theorem dX6_wrong_13 : decode cX6_wrong 13 = .ok (.aload_n 0, 1) := by decide +kernel
theorem dX6_wrong_14 : decode cX6_wrong 14 = .ok (.aload_n 0, 1) := by decide +kernel
theorem dX6_wrong_15 : decode cX6_wrong 15 = .ok (.getfield 149, 3) := by decide +kernel
theorem dX6_wrong_18 : decode cX6_wrong 18 = .ok (.putfield 38, 3) := by decide +kernel
theorem dX6_wrong_21 : decode cX6_wrong 21 = .ok (.return_, 1) := by decide +kernel
theorem dX6_isGood_0 : decode cX6_isGood 0 = .ok (.aload_n 0, 1) := by decide +kernel
theorem dX6_isGood_1 : decode cX6_isGood 1 = .ok (.getfield 185, 3) := by decide +kernel
theorem dX6_isGood_4 : decode cX6_isGood 4 = .ok (.ifCond .ne 7, 3) := by decide +kernel
theorem dX6_isGood_7 : decode cX6_isGood 7 = .ok (.iconst 1, 1) := by decide +kernel
theorem dX6_isGood_8 : decode cX6_isGood 8 = .ok (.goto 4, 3) := by decide +kernel
theorem dX6_isGood_11 : decode cX6_isGood 11 = .ok (.iconst 0, 1) := by decide +kernel
theorem dX6_isGood_12 : decode cX6_isGood 12 = .ok (.ireturn, 1) := by decide +kernel
theorem dX6_isSign_0 : decode cX6_isSign 0 = .ok (.aload_n 0, 1) := by decide +kernel
theorem dX6_isSign_1 : decode cX6_isSign 1 = .ok (.getfield 162, 3) := by decide +kernel
theorem dX6_isSign_4 : decode cX6_isSign 4 = .ok (.iconst 3, 1) := by decide +kernel
theorem dX6_isSign_5 : decode cX6_isSign 5 = .ok (.if_icmp .ne 15, 3) := by decide +kernel
theorem dX6_isSign_8 : decode cX6_isSign 8 = .ok (.aload_n 0, 1) := by decide +kernel
theorem dX6_isSign_9 : decode cX6_isSign 9 = .ok (.getfield 159, 3) := by decide +kernel
theorem dX6_isSign_12 : decode cX6_isSign 12 = .ok (.iload_n 1, 1) := by decide +kernel
theorem dX6_isSign_13 : decode cX6_isSign 13 = .ok (.if_icmp .ne 7, 3) := by decide +kernel
theorem dX6_isSign_16 : decode cX6_isSign 16 = .ok (.iconst 1, 1) := by decide +kernel
theorem dX6_isSign_17 : decode cX6_isSign 17 = .ok (.goto 4, 3) := by decide +kernel
theorem dX6_isSign_20 : decode cX6_isSign 20 = .ok (.iconst 0, 1) := by decide +kernel
theorem dX6_isSign_21 : decode cX6_isSign 21 = .ok (.ireturn, 1) := by decide +kernel
theorem dX6_need_0 : decode cX6_need 0 = .ok (.aload_n 0, 1) := by decide +kernel
theorem dX6_need_1 : decode cX6_need 1 = .ok (.invokevirtual 188, 3) := by decide +kernel
theorem dX6_need_4 : decode cX6_need 4 = .ok (.ifCond .ne 4, 3) := by decide +kernel
theorem dX6_need_7 : decode cX6_need 7 = .ok (.return_, 1) := by decide +kernel
theorem dX6_need_8 : decode cX6_need 8 = .ok (.iload_n 1, 1) := by decide +kernel
theorem dX6_need_9 : decode cX6_need 9 = .ok (.ifCond .eq 10, 3) := by decide +kernel
theorem dX6_need_12 : decode cX6_need 12 = .ok (.aload_n 0, 1) := by decide +kernel
theorem dX6_need_13 : decode cX6_need 13 = .ok (.invokevirtual 192, 3) := by decide +kernel
theorem dX6_need_16 : decode cX6_need 16 = .ok (.goto 8, 3) := by decide +kernel
theorem dX6_need_19 : decode cX6_need 19 = .ok (.aload_n 0, 1) := by decide +kernel
theorem dX6_need_20 : decode cX6_need 20 = .ok (.iconst 1, 1) := by decide +kernel
theorem dX6_need_21 : decode cX6_need 21 = .ok (.invokevirtual 195, 3) := by decide +kernel
theorem dX6_need_24 : decode cX6_need 24 = .ok (.return_, 1) := by decide +kernel
theorem dX6_numberHere_0 : decode cX6_numberHere 0 = .ok (.aload_n 0, 1) := by decide +kernel
theorem dX6_numberHere_1 : decode cX6_numberHere 1 = .ok (.invokevirtual 188, 3) := by decide +kernel
theorem dX6_numberHere_4 : decode cX6_numberHere 4 = .ok (.ifCond .ne 5, 3) := by decide +kernel
theorem dX6_numberHere_7 : decode cX6_numberHere 7 = .ok (.iconst 0, 1) := by decide +kernel
theorem dX6_numberHere_8 : decode cX6_numberHere 8 = .ok (.ireturn, 1) := by decide +kernel
theorem dX6_numberHere_9 : decode cX6_numberHere 9 = .ok (.aload_n 0, 1) := by decide +kernel
theorem dX6_numberHere_10 : decode cX6_numberHere 10 = .ok (.getfield 162, 3) := by decide +kernel
theorem dX6_numberHere_13 : decode cX6_numberHere 13 = .ok (.iconst 2, 1) := by decide +kernel
theorem dX6_numberHere_14 : decode cX6_numberHere 14 = .ok (.if_icmp .eq 11, 3) := by decide +kernel
theorem dX6_numberHere_17 : decode cX6_numberHere 17 = .ok (.aload_n 0, 1) := by decide +kernel
theorem dX6_numberHere_18 : decode cX6_numberHere 18 = .ok (.iconst 1, 1) := by decide +kernel
theorem dX6_numberHere_19 : decode cX6_numberHere 19 = .ok (.invokevirtual 195, 3) := by decide +kernel
theorem dX6_numberHere_22 : decode cX6_numberHere 22 = .ok (.goto 32, 3) := by decide +kernel
theorem dX6_numberHere_25 : decode cX6_numberHere 25 = .ok (.aload_n 0, 1) := by decide +kernel
theorem dX6_numberHere_26 : decode cX6_numberHere 26 = .ok (.getfield 172, 3) := by decide +kernel
theorem dX6_numberHere_29 : decode cX6_numberHere 29 = .ok (.iconst 4, 1) := by decide +kernel
theorem dX6_numberHere_30 : decode cX6_numberHere 30 = .ok (.if_icmp .gt 19, 3) := by decide +kernel
theorem dX6_numberHere_33 : decode cX6_numberHere 33 = .ok (.aload_n 0, 1) := by decide +kernel
theorem dX6_numberHere_34 : decode cX6_numberHere 34 = .ok (.getfield 156, 3) := by decide +kernel
theorem dX6_numberHere_37 : decode cX6_numberHere 37 = .ok (.iload_n 1, 1) := by decide +kernel
theorem dX6_numberHere_38 : decode cX6_numberHere 38 = .ok (.if_icmp .lt 11, 3) := by decide +kernel
theorem dX6_numberHere_41 : decode cX6_numberHere 41 = .ok (.aload_n 0, 1) := by decide +kernel
theorem dX6_numberHere_42 : decode cX6_numberHere 42 = .ok (.getfield 156, 3) := by decide +kernel
theorem dX6_numberHere_45 : decode cX6_numberHere 45 = .ok (.iload_n 2, 1) := by decide +kernel
theorem dX6_numberHere_46 : decode cX6_numberHere 46 = .ok (.if_icmp .le 8, 3) := by decide +kernel
theorem dX6_numberHere_49 : decode cX6_numberHere 49 = .ok (.aload_n 0, 1) := by decide +kernel
theorem dX6_numberHere_50 : decode cX6_numberHere 50 = .ok (.iconst 2, 1) := by decide +kernel
theorem dX6_numberHere_51 : decode cX6_numberHere 51 = .ok (.invokevirtual 195, 3) := by decide +kernel
theorem dX6_numberHere_54 : decode cX6_numberHere 54 = .ok (.aload_n 0, 1) := by decide +kernel
theorem dX6_numberHere_55 : decode cX6_numberHere 55 = .ok (.invokevirtual 188, 3) := by decide +kernel
theorem dX6_numberHere_58 : decode cX6_numberHere 58 = .ok (.ireturn, 1) := by decide +kernel
theorem dX6_number_0 : decode cX6_number 0 = .ok (.aload_n 0, 1) := by decide +kernel
theorem dX6_number_1 : decode cX6_number 1 = .ok (.iload_n 1, 1) := by decide +kernel
theorem dX6_number_2 : decode cX6_number 2 = .ok (.iload_n 2, 1) := by decide +kernel
theorem dX6_number_3 : decode cX6_number 3 = .ok (.invokevirtual 198, 3) := by decide +kernel
theorem dX6_number_6 : decode cX6_number 6 = .ok (.ifCond .eq 10, 3) := by decide +kernel
theorem dX6_number_9 : decode cX6_number 9 = .ok (.aload_n 0, 1) := by decide +kernel
theorem dX6_number_10 : decode cX6_number 10 = .ok (.getfield 156, 3) := by decide +kernel
theorem dX6_number_13 : decode cX6_number 13 = .ok (.goto 4, 3) := by decide +kernel
theorem dX6_number_16 : decode cX6_number 16 = .ok (.iconst 0, 1) := by decide +kernel
theorem dX6_number_17 : decode cX6_number 17 = .ok (.istore_n 3, 1) := by decide +kernel
theorem dX6_number_18 : decode cX6_number 18 = .ok (.aload_n 0, 1) := by decide +kernel
theorem dX6_number_19 : decode cX6_number 19 = .ok (.invokevirtual 188, 3) := by decide +kernel
theorem dX6_number_22 : decode cX6_number 22 = .ok (.ifCond .eq 7, 3) := by decide +kernel
theorem dX6_number_25 : decode cX6_number 25 = .ok (.aload_n 0, 1) := by decide +kernel
theorem dX6_number_26 : decode cX6_number 26 = .ok (.invokevirtual 192, 3) := by decide +kernel
theorem dX6_number_29 : decode cX6_number 29 = .ok (.iload_n 3, 1) := by decide +kernel
theorem dX6_number_30 : decode cX6_number 30 = .ok (.ireturn, 1) := by decide +kernel
theorem dX6_puts_0 : decode cX6_puts 0 = .ok (.aload_n 0, 1) := by decide +kernel
theorem dX6_puts_1 : decode cX6_puts 1 = .ok (.getfield 65, 3) := by decide +kernel
theorem dX6_puts_4 : decode cX6_puts 4 = .ok (.aload_n 0, 1) := by decide +kernel
theorem dX6_puts_5 : decode cX6_puts 5 = .ok (.getfield 202, 3) := by decide +kernel
theorem dX6_puts_8 : decode cX6_puts 8 = .ok (.iload_n 1, 1) := by decide +kernel
theorem dX6_puts_9 : decode cX6_puts 9 = .ok (.iastore, 1) := by decide +kernel
theorem dX6_puts_10 : decode cX6_puts 10 = .ok (.aload_n 0, 1) := by decide +kernel
theorem dX6_puts_11 : decode cX6_puts 11 = .ok (.dup, 1) := by decide +kernel
theorem dX6_puts_12 : decode cX6_puts 12 = .ok (.getfield 202, 3) := by decide +kernel
theorem dX6_puts_15 : decode cX6_puts 15 = .ok (.iconst 1, 1) := by decide +kernel
theorem dX6_puts_16 : decode cX6_puts 16 = .ok (.iadd, 1) := by decide +kernel
theorem dX6_puts_17 : decode cX6_puts 17 = .ok (.putfield 202, 3) := by decide +kernel
theorem dX6_puts_20 : decode cX6_puts 20 = .ok (.return_, 1) := by decide +kernel
theorem dX6_isOpen_0 : decode cX6_isOpen 0 = .ok (.iload_n 0, 1) := by decide +kernel
theorem dX6_isOpen_1 : decode cX6_isOpen 1 = .ok (.bipush 14, 2) := by decide +kernel
theorem dX6_isOpen_3 : decode cX6_isOpen 3 = .ok (.if_icmp .lt 7, 3) := by decide +kernel
theorem dX6_isOpen_6 : decode cX6_isOpen 6 = .ok (.iconst 1, 1) := by decide +kernel
theorem dX6_isOpen_7 : decode cX6_isOpen 7 = .ok (.goto 4, 3) := by decide +kernel
theorem dX6_isOpen_10 : decode cX6_isOpen 10 = .ok (.iconst 0, 1) := by decide +kernel
theorem dX6_isOpen_11 : decode cX6_isOpen 11 = .ok (.ireturn, 1) := by decide +kernel
theorem dX6_strength_0 : decode cX6_strength 0 = .ok (.iload_n 0, 1) := by decide +kernel
theorem dX6_strength_1 : decode cX6_strength 1 = .ok (.iconst 5, 1) := by decide +kernel
theorem dX6_strength_2 : decode cX6_strength 2 = .ok (.if_icmp .ne 7, 3) := by decide +kernel
theorem dX6_strength_5 : decode cX6_strength 5 = .ok (.iconst 1, 1) := by decide +kernel
theorem dX6_strength_6 : decode cX6_strength 6 = .ok (.goto 55, 3) := by decide +kernel
theorem dX6_strength_9 : decode cX6_strength 9 = .ok (.iload_n 0, 1) := by decide +kernel
theorem dX6_strength_10 : decode cX6_strength 10 = .ok (.iconst 4, 1) := by decide +kernel
theorem dX6_strength_11 : decode cX6_strength 11 = .ok (.if_icmp .ne 7, 3) := by decide +kernel
theorem dX6_strength_14 : decode cX6_strength 14 = .ok (.iconst 2, 1) := by decide +kernel
theorem dX6_strength_15 : decode cX6_strength 15 = .ok (.goto 46, 3) := by decide +kernel
theorem dX6_strength_18 : decode cX6_strength 18 = .ok (.iload_n 0, 1) := by decide +kernel
theorem dX6_strength_19 : decode cX6_strength 19 = .ok (.iconst 3, 1) := by decide +kernel
theorem dX6_strength_20 : decode cX6_strength 20 = .ok (.if_icmp .ne 7, 3) := by decide +kernel
theorem dX6_strength_23 : decode cX6_strength 23 = .ok (.iconst 3, 1) := by decide +kernel
theorem dX6_strength_24 : decode cX6_strength 24 = .ok (.goto 37, 3) := by decide +kernel
theorem dX6_strength_27 : decode cX6_strength 27 = .ok (.iload_n 0, 1) := by decide +kernel
theorem dX6_strength_28 : decode cX6_strength 28 = .ok (.bipush 6, 2) := by decide +kernel
theorem dX6_strength_30 : decode cX6_strength 30 = .ok (.if_icmp .eq 9, 3) := by decide +kernel
theorem dX6_strength_33 : decode cX6_strength 33 = .ok (.iload_n 0, 1) := by decide +kernel
theorem dX6_strength_34 : decode cX6_strength 34 = .ok (.bipush 7, 2) := by decide +kernel
theorem dX6_strength_36 : decode cX6_strength 36 = .ok (.if_icmp .ne 7, 3) := by decide +kernel
theorem dX6_strength_39 : decode cX6_strength 39 = .ok (.iconst 4, 1) := by decide +kernel
theorem dX6_strength_40 : decode cX6_strength 40 = .ok (.goto 21, 3) := by decide +kernel
theorem dX6_strength_43 : decode cX6_strength 43 = .ok (.iload_n 0, 1) := by decide +kernel
theorem dX6_strength_44 : decode cX6_strength 44 = .ok (.bipush 8, 2) := by decide +kernel
theorem dX6_strength_46 : decode cX6_strength 46 = .ok (.if_icmp .eq 9, 3) := by decide +kernel
theorem dX6_strength_49 : decode cX6_strength 49 = .ok (.iload_n 0, 1) := by decide +kernel
theorem dX6_strength_50 : decode cX6_strength 50 = .ok (.bipush 9, 2) := by decide +kernel
theorem dX6_strength_52 : decode cX6_strength 52 = .ok (.if_icmp .ne 7, 3) := by decide +kernel
theorem dX6_strength_55 : decode cX6_strength 55 = .ok (.iconst 5, 1) := by decide +kernel
theorem dX6_strength_56 : decode cX6_strength 56 = .ok (.goto 5, 3) := by decide +kernel
theorem dX6_strength_59 : decode cX6_strength 59 = .ok (.bipush 6, 2) := by decide +kernel
theorem dX6_strength_61 : decode cX6_strength 61 = .ok (.ireturn, 1) := by decide +kernel
theorem dX6_drops_0 : decode cX6_drops 0 = .ok (.aload_n 0, 1) := by decide +kernel
theorem dX6_drops_1 : decode cX6_drops 1 = .ok (.getfield 205, 3) := by decide +kernel
theorem dX6_drops_4 : decode cX6_drops 4 = .ok (.ifCond .le 64, 3) := by decide +kernel
theorem dX6_drops_7 : decode cX6_drops 7 = .ok (.aload_n 0, 1) := by decide +kernel
theorem dX6_drops_8 : decode cX6_drops 8 = .ok (.getfield 68, 3) := by decide +kernel
theorem dX6_drops_11 : decode cX6_drops 11 = .ok (.aload_n 0, 1) := by decide +kernel
theorem dX6_drops_12 : decode cX6_drops 12 = .ok (.getfield 205, 3) := by decide +kernel
theorem dX6_drops_15 : decode cX6_drops 15 = .ok (.iconst 1, 1) := by decide +kernel
theorem dX6_drops_16 : decode cX6_drops 16 = .ok (.isub, 1) := by decide +kernel
theorem dX6_drops_17 : decode cX6_drops 17 = .ok (.iaload, 1) := by decide +kernel
theorem dX6_drops_18 : decode cX6_drops 18 = .ok (.invokestatic 208, 3) := by decide +kernel
theorem dX6_drops_21 : decode cX6_drops 21 = .ok (.ifCond .ne 47, 3) := by decide +kernel
theorem dX6_drops_24 : decode cX6_drops 24 = .ok (.aload_n 0, 1) := by decide +kernel
theorem dX6_drops_25 : decode cX6_drops 25 = .ok (.getfield 68, 3) := by decide +kernel
theorem dX6_drops_28 : decode cX6_drops 28 = .ok (.aload_n 0, 1) := by decide +kernel
theorem dX6_drops_29 : decode cX6_drops 29 = .ok (.getfield 205, 3) := by decide +kernel
theorem dX6_drops_32 : decode cX6_drops 32 = .ok (.iconst 1, 1) := by decide +kernel
theorem dX6_drops_33 : decode cX6_drops 33 = .ok (.isub, 1) := by decide +kernel
theorem dX6_drops_34 : decode cX6_drops 34 = .ok (.iaload, 1) := by decide +kernel
theorem dX6_drops_35 : decode cX6_drops 35 = .ok (.invokestatic 211, 3) := by decide +kernel
theorem dX6_drops_38 : decode cX6_drops 38 = .ok (.iload_n 1, 1) := by decide +kernel
theorem dX6_drops_39 : decode cX6_drops 39 = .ok (.if_icmp .lt 29, 3) := by decide +kernel
theorem dX6_drops_42 : decode cX6_drops 42 = .ok (.aload_n 0, 1) := by decide +kernel
theorem dX6_drops_43 : decode cX6_drops 43 = .ok (.dup, 1) := by decide +kernel
theorem dX6_drops_44 : decode cX6_drops 44 = .ok (.getfield 205, 3) := by decide +kernel
theorem dX6_drops_47 : decode cX6_drops 47 = .ok (.iconst 1, 1) := by decide +kernel
theorem dX6_drops_48 : decode cX6_drops 48 = .ok (.isub, 1) := by decide +kernel
theorem dX6_drops_49 : decode cX6_drops 49 = .ok (.putfield 205, 3) := by decide +kernel
theorem dX6_drops_52 : decode cX6_drops 52 = .ok (.aload_n 0, 1) := by decide +kernel
theorem dX6_drops_53 : decode cX6_drops 53 = .ok (.aload_n 0, 1) := by decide +kernel
theorem dX6_drops_54 : decode cX6_drops 54 = .ok (.getfield 68, 3) := by decide +kernel
theorem dX6_drops_57 : decode cX6_drops 57 = .ok (.aload_n 0, 1) := by decide +kernel
theorem dX6_drops_58 : decode cX6_drops 58 = .ok (.getfield 205, 3) := by decide +kernel
theorem dX6_drops_61 : decode cX6_drops 61 = .ok (.iaload, 1) := by decide +kernel
theorem dX6_drops_62 : decode cX6_drops 62 = .ok (.invokevirtual 214, 3) := by decide +kernel
theorem dX6_drops_65 : decode cX6_drops 65 = .ok (.goto (-65), 3) := by decide +kernel
theorem dX6_drops_68 : decode cX6_drops 68 = .ok (.return_, 1) := by decide +kernel
theorem dX6_waitsFor_0 : decode cX6_waitsFor 0 = .ok (.aload_n 0, 1) := by decide +kernel
theorem dX6_waitsFor_1 : decode cX6_waitsFor 1 = .ok (.getfield 68, 3) := by decide +kernel
theorem dX6_waitsFor_4 : decode cX6_waitsFor 4 = .ok (.aload_n 0, 1) := by decide +kernel
theorem dX6_waitsFor_5 : decode cX6_waitsFor 5 = .ok (.getfield 205, 3) := by decide +kernel
theorem dX6_waitsFor_8 : decode cX6_waitsFor 8 = .ok (.iload_n 1, 1) := by decide +kernel
theorem dX6_waitsFor_9 : decode cX6_waitsFor 9 = .ok (.iastore, 1) := by decide +kernel
theorem dX6_waitsFor_10 : decode cX6_waitsFor 10 = .ok (.aload_n 0, 1) := by decide +kernel
theorem dX6_waitsFor_11 : decode cX6_waitsFor 11 = .ok (.dup, 1) := by decide +kernel
theorem dX6_waitsFor_12 : decode cX6_waitsFor 12 = .ok (.getfield 205, 3) := by decide +kernel
theorem dX6_waitsFor_15 : decode cX6_waitsFor 15 = .ok (.iconst 1, 1) := by decide +kernel
theorem dX6_waitsFor_16 : decode cX6_waitsFor 16 = .ok (.iadd, 1) := by decide +kernel
theorem dX6_waitsFor_17 : decode cX6_waitsFor 17 = .ok (.putfield 205, 3) := by decide +kernel
theorem dX6_waitsFor_20 : decode cX6_waitsFor 20 = .ok (.return_, 1) := by decide +kernel
theorem dX6_part_0 : decode cX6_part 0 = .ok (.aload_n 0, 1) := by decide +kernel
theorem dX6_part_1 : decode cX6_part 1 = .ok (.invokevirtual 188, 3) := by decide +kernel
theorem dX6_part_4 : decode cX6_part 4 = .ok (.ifCond .ne 4, 3) := by decide +kernel
theorem dX6_part_7 : decode cX6_part 7 = .ok (.return_, 1) := by decide +kernel
theorem dX6_part_8 : decode cX6_part 8 = .ok (.aload_n 0, 1) := by decide +kernel
theorem dX6_part_9 : decode cX6_part 9 = .ok (.getfield 162, 3) := by decide +kernel
theorem dX6_part_12 : decode cX6_part 12 = .ok (.iconst 2, 1) := by decide +kernel
theorem dX6_part_13 : decode cX6_part 13 = .ok (.if_icmp .ne 32, 3) := by decide +kernel
theorem dX6_part_16 : decode cX6_part 16 = .ok (.aload_n 0, 1) := by decide +kernel
theorem dX6_part_17 : decode cX6_part 17 = .ok (.getfield 172, 3) := by decide +kernel
theorem dX6_part_20 : decode cX6_part 20 = .ok (.iconst 4, 1) := by decide +kernel
theorem dX6_part_21 : decode cX6_part 21 = .ok (.if_icmp .le 8, 3) := by decide +kernel
theorem dX6_part_24 : decode cX6_part 24 = .ok (.aload_n 0, 1) := by decide +kernel
theorem dX6_part_25 : decode cX6_part 25 = .ok (.iconst 2, 1) := by decide +kernel
theorem dX6_part_26 : decode cX6_part 26 = .ok (.invokevirtual 195, 3) := by decide +kernel
theorem dX6_part_29 : decode cX6_part 29 = .ok (.aload_n 0, 1) := by decide +kernel
theorem dX6_part_30 : decode cX6_part 30 = .ok (.iconst 1, 1) := by decide +kernel
theorem dX6_part_31 : decode cX6_part 31 = .ok (.invokevirtual 214, 3) := by decide +kernel
theorem dX6_part_34 : decode cX6_part 34 = .ok (.aload_n 0, 1) := by decide +kernel
theorem dX6_part_35 : decode cX6_part 35 = .ok (.aload_n 0, 1) := by decide +kernel
theorem dX6_part_36 : decode cX6_part 36 = .ok (.getfield 156, 3) := by decide +kernel
theorem dX6_part_39 : decode cX6_part 39 = .ok (.invokevirtual 214, 3) := by decide +kernel
theorem dX6_part_42 : decode cX6_part 42 = .ok (.goto 49, 3) := by decide +kernel
theorem dX6_part_45 : decode cX6_part 45 = .ok (.aload_n 0, 1) := by decide +kernel
theorem dX6_part_46 : decode cX6_part 46 = .ok (.getfield 162, 3) := by decide +kernel
theorem dX6_part_49 : decode cX6_part 49 = .ok (.iconst 1, 1) := by decide +kernel
theorem dX6_part_50 : decode cX6_part 50 = .ok (.if_icmp .ne 36, 3) := by decide +kernel
theorem dX6_part_53 : decode cX6_part 53 = .ok (.aload_n 0, 1) := by decide +kernel
theorem dX6_part_54 : decode cX6_part 54 = .ok (.invokevirtual 217, 3) := by decide +kernel
theorem dX6_part_57 : decode cX6_part 57 = .ok (.istore_n 1, 1) := by decide +kernel
theorem dX6_part_58 : decode cX6_part 58 = .ok (.iload_n 1, 1) := by decide +kernel
theorem dX6_part_59 : decode cX6_part 59 = .ok (.ifCond .lt 9, 3) := by decide +kernel
theorem dX6_part_62 : decode cX6_part 62 = .ok (.iload_n 1, 1) := by decide +kernel
theorem dX6_part_63 : decode cX6_part 63 = .ok (.bipush 6, 2) := by decide +kernel
theorem dX6_part_65 : decode cX6_part 65 = .ok (.if_icmp .le 8, 3) := by decide +kernel
theorem dX6_part_68 : decode cX6_part 68 = .ok (.aload_n 0, 1) := by decide +kernel
theorem dX6_part_69 : decode cX6_part 69 = .ok (.iconst 3, 1) := by decide +kernel
theorem dX6_part_70 : decode cX6_part 70 = .ok (.invokevirtual 195, 3) := by decide +kernel
theorem dX6_part_73 : decode cX6_part 73 = .ok (.aload_n 0, 1) := by decide +kernel
theorem dX6_part_74 : decode cX6_part 74 = .ok (.iconst 2, 1) := by decide +kernel
theorem dX6_part_75 : decode cX6_part 75 = .ok (.invokevirtual 214, 3) := by decide +kernel
theorem dX6_part_78 : decode cX6_part 78 = .ok (.aload_n 0, 1) := by decide +kernel
theorem dX6_part_79 : decode cX6_part 79 = .ok (.iload_n 1, 1) := by decide +kernel
theorem dX6_part_80 : decode cX6_part 80 = .ok (.invokevirtual 214, 3) := by decide +kernel
theorem dX6_part_83 : decode cX6_part 83 = .ok (.goto 8, 3) := by decide +kernel
theorem dX6_part_86 : decode cX6_part 86 = .ok (.aload_n 0, 1) := by decide +kernel
theorem dX6_part_87 : decode cX6_part 87 = .ok (.iconst 1, 1) := by decide +kernel
theorem dX6_part_88 : decode cX6_part 88 = .ok (.invokevirtual 195, 3) := by decide +kernel
theorem dX6_part_91 : decode cX6_part 91 = .ok (.aload_n 0, 1) := by decide +kernel
theorem dX6_part_92 : decode cX6_part 92 = .ok (.invokevirtual 188, 3) := by decide +kernel
theorem dX6_part_95 : decode cX6_part 95 = .ok (.ifCond .eq 7, 3) := by decide +kernel
theorem dX6_part_98 : decode cX6_part 98 = .ok (.aload_n 0, 1) := by decide +kernel
theorem dX6_part_99 : decode cX6_part 99 = .ok (.invokevirtual 192, 3) := by decide +kernel
theorem dX6_part_102 : decode cX6_part 102 = .ok (.return_, 1) := by decide +kernel
theorem dX6_deeper_0 : decode cX6_deeper 0 = .ok (.aload_n 0, 1) := by decide +kernel
theorem dX6_deeper_1 : decode cX6_deeper 1 = .ok (.getfield 221, 3) := by decide +kernel
theorem dX6_deeper_4 : decode cX6_deeper 4 = .ok (.bipush 6, 2) := by decide +kernel
theorem dX6_deeper_6 : decode cX6_deeper 6 = .ok (.if_icmp .ge 24, 3) := by decide +kernel
theorem dX6_deeper_9 : decode cX6_deeper 9 = .ok (.aload_n 0, 1) := by decide +kernel
theorem dX6_deeper_10 : decode cX6_deeper 10 = .ok (.dup, 1) := by decide +kernel
theorem dX6_deeper_11 : decode cX6_deeper 11 = .ok (.getfield 221, 3) := by decide +kernel
theorem dX6_deeper_14 : decode cX6_deeper 14 = .ok (.iconst 1, 1) := by decide +kernel
theorem dX6_deeper_15 : decode cX6_deeper 15 = .ok (.iadd, 1) := by decide +kernel
theorem dX6_deeper_16 : decode cX6_deeper 16 = .ok (.putfield 221, 3) := by decide +kernel
theorem dX6_deeper_19 : decode cX6_deeper 19 = .ok (.aload_n 0, 1) := by decide +kernel
theorem dX6_deeper_20 : decode cX6_deeper 20 = .ok (.getfield 71, 3) := by decide +kernel
theorem dX6_deeper_23 : decode cX6_deeper 23 = .ok (.aload_n 0, 1) := by decide +kernel
theorem dX6_deeper_24 : decode cX6_deeper 24 = .ok (.getfield 221, 3) := by decide +kernel
theorem dX6_deeper_27 : decode cX6_deeper 27 = .ok (.iconst 0, 1) := by decide +kernel
theorem dX6_deeper_28 : decode cX6_deeper 28 = .ok (.bastore, 1) := by decide +kernel
theorem dX6_deeper_29 : decode cX6_deeper 29 = .ok (.return_, 1) := by decide +kernel
theorem dX6_deeper_30 : decode cX6_deeper 30 = .ok (.aload_n 0, 1) := by decide +kernel
theorem dX6_deeper_31 : decode cX6_deeper 31 = .ok (.aload_n 0, 1) := by decide +kernel
theorem dX6_deeper_32 : decode cX6_deeper 32 = .ok (.getfield 162, 3) := by decide +kernel
theorem dX6_deeper_35 : decode cX6_deeper 35 = .ok (.iconst 2, 1) := by decide +kernel
theorem dX6_deeper_36 : decode cX6_deeper 36 = .ok (.if_icmp .eq 20, 3) := by decide +kernel
theorem dX6_deeper_39 : decode cX6_deeper 39 = .ok (.aload_n 0, 1) := by decide +kernel
theorem dX6_deeper_40 : decode cX6_deeper 40 = .ok (.getfield 162, 3) := by decide +kernel
theorem dX6_deeper_43 : decode cX6_deeper 43 = .ok (.iconst 1, 1) := by decide +kernel
theorem dX6_deeper_44 : decode cX6_deeper 44 = .ok (.if_icmp .eq 12, 3) := by decide +kernel
theorem dX6_deeper_47 : decode cX6_deeper 47 = .ok (.aload_n 0, 1) := by decide +kernel
theorem dX6_deeper_48 : decode cX6_deeper 48 = .ok (.bipush 40, 2) := by decide +kernel
theorem dX6_deeper_50 : decode cX6_deeper 50 = .ok (.invokevirtual 224, 3) := by decide +kernel
theorem dX6_deeper_53 : decode cX6_deeper 53 = .ok (.ifCond .eq 7, 3) := by decide +kernel
theorem dX6_deeper_56 : decode cX6_deeper 56 = .ok (.iconst 2, 1) := by decide +kernel
theorem dX6_deeper_57 : decode cX6_deeper 57 = .ok (.goto 4, 3) := by decide +kernel
theorem dX6_deeper_60 : decode cX6_deeper 60 = .ok (.iconst 1, 1) := by decide +kernel
theorem dX6_deeper_61 : decode cX6_deeper 61 = .ok (.invokevirtual 195, 3) := by decide +kernel
theorem dX6_deeper_64 : decode cX6_deeper 64 = .ok (.return_, 1) := by decide +kernel
theorem dX6_operand_0 : decode cX6_operand 0 = .ok (.iload_n 1, 1) := by decide +kernel
theorem dX6_operand_1 : decode cX6_operand 1 = .ok (.istore_n 2, 1) := by decide +kernel
theorem dX6_operand_2 : decode cX6_operand 2 = .ok (.iconst 1, 1) := by decide +kernel
theorem dX6_operand_3 : decode cX6_operand 3 = .ok (.istore_n 3, 1) := by decide +kernel
theorem dX6_operand_4 : decode cX6_operand 4 = .ok (.iload_n 3, 1) := by decide +kernel
theorem dX6_operand_5 : decode cX6_operand 5 = .ok (.ifCond .eq 115, 3) := by decide +kernel
theorem dX6_operand_8 : decode cX6_operand 8 = .ok (.aload_n 0, 1) := by decide +kernel
theorem dX6_operand_9 : decode cX6_operand 9 = .ok (.invokevirtual 188, 3) := by decide +kernel
theorem dX6_operand_12 : decode cX6_operand 12 = .ok (.ifCond .eq 108, 3) := by decide +kernel
theorem dX6_operand_15 : decode cX6_operand 15 = .ok (.iconst 0, 1) := by decide +kernel
theorem dX6_operand_16 : decode cX6_operand 16 = .ok (.istore 4, 2) := by decide +kernel
theorem dX6_operand_18 : decode cX6_operand 18 = .ok (.aload_n 0, 1) := by decide +kernel
theorem dX6_operand_19 : decode cX6_operand 19 = .ok (.invokevirtual 188, 3) := by decide +kernel
theorem dX6_operand_22 : decode cX6_operand 22 = .ok (.ifCond .eq 53, 3) := by decide +kernel
theorem dX6_operand_25 : decode cX6_operand 25 = .ok (.iload_n 2, 1) := by decide +kernel
theorem dX6_operand_26 : decode cX6_operand 26 = .ok (.ifCond .eq 49, 3) := by decide +kernel
theorem dX6_operand_29 : decode cX6_operand 29 = .ok (.aload_n 0, 1) := by decide +kernel
theorem dX6_operand_30 : decode cX6_operand 30 = .ok (.invokevirtual 217, 3) := by decide +kernel
theorem dX6_operand_33 : decode cX6_operand 33 = .ok (.bipush 16, 2) := by decide +kernel
theorem dX6_operand_35 : decode cX6_operand 35 = .ok (.if_icmp .ne 40, 3) := by decide +kernel
theorem dX6_operand_38 : decode cX6_operand 38 = .ok (.iload 4, 2) := by decide +kernel
theorem dX6_operand_40 : decode cX6_operand 40 = .ok (.bipush 6, 2) := by decide +kernel
theorem dX6_operand_42 : decode cX6_operand 42 = .ok (.if_icmp .ne 8, 3) := by decide +kernel
theorem dX6_operand_45 : decode cX6_operand 45 = .ok (.aload_n 0, 1) := by decide +kernel
theorem dX6_operand_46 : decode cX6_operand 46 = .ok (.iconst 2, 1) := by decide +kernel
theorem dX6_operand_47 : decode cX6_operand 47 = .ok (.invokevirtual 195, 3) := by decide +kernel
theorem dX6_operand_50 : decode cX6_operand 50 = .ok (.iinc 4 1, 3) := by decide +kernel
theorem dX6_operand_53 : decode cX6_operand 53 = .ok (.aload_n 0, 1) := by decide +kernel
theorem dX6_operand_54 : decode cX6_operand 54 = .ok (.invokevirtual 188, 3) := by decide +kernel
theorem dX6_operand_57 : decode cX6_operand 57 = .ok (.ifCond .ne 6, 3) := by decide +kernel
theorem dX6_operand_60 : decode cX6_operand 60 = .ok (.goto (-42), 3) := by decide +kernel
theorem dX6_operand_63 : decode cX6_operand 63 = .ok (.aload_n 0, 1) := by decide +kernel
theorem dX6_operand_64 : decode cX6_operand 64 = .ok (.iconst 3, 1) := by decide +kernel
theorem dX6_operand_65 : decode cX6_operand 65 = .ok (.invokevirtual 227, 3) := by decide +kernel
theorem dX6_operand_68 : decode cX6_operand 68 = .ok (.aload_n 0, 1) := by decide +kernel
theorem dX6_operand_69 : decode cX6_operand 69 = .ok (.invokevirtual 192, 3) := by decide +kernel
theorem dX6_operand_72 : decode cX6_operand 72 = .ok (.goto (-54), 3) := by decide +kernel
theorem dX6_operand_75 : decode cX6_operand 75 = .ok (.aload_n 0, 1) := by decide +kernel
theorem dX6_operand_76 : decode cX6_operand 76 = .ok (.invokevirtual 188, 3) := by decide +kernel
theorem dX6_operand_79 : decode cX6_operand 79 = .ok (.ifCond .eq 16, 3) := by decide +kernel
theorem dX6_operand_82 : decode cX6_operand 82 = .ok (.aload_n 0, 1) := by decide +kernel
theorem dX6_operand_83 : decode cX6_operand 83 = .ok (.bipush 40, 2) := by decide +kernel
theorem dX6_operand_85 : decode cX6_operand 85 = .ok (.invokevirtual 224, 3) := by decide +kernel
theorem dX6_operand_88 : decode cX6_operand 88 = .ok (.ifCond .eq 7, 3) := by decide +kernel
theorem dX6_operand_91 : decode cX6_operand 91 = .ok (.iconst 1, 1) := by decide +kernel
theorem dX6_operand_92 : decode cX6_operand 92 = .ok (.goto 4, 3) := by decide +kernel
theorem dX6_operand_95 : decode cX6_operand 95 = .ok (.iconst 0, 1) := by decide +kernel
theorem dX6_operand_96 : decode cX6_operand 96 = .ok (.istore_n 3, 1) := by decide +kernel
theorem dX6_operand_97 : decode cX6_operand 97 = .ok (.iload_n 3, 1) := by decide +kernel
theorem dX6_operand_98 : decode cX6_operand 98 = .ok (.ifCond .eq 19, 3) := by decide +kernel
theorem dX6_operand_101 : decode cX6_operand 101 = .ok (.aload_n 0, 1) := by decide +kernel
theorem dX6_operand_102 : decode cX6_operand 102 = .ok (.bipush 14, 2) := by decide +kernel
theorem dX6_operand_104 : decode cX6_operand 104 = .ok (.invokevirtual 227, 3) := by decide +kernel
theorem dX6_operand_107 : decode cX6_operand 107 = .ok (.aload_n 0, 1) := by decide +kernel
theorem dX6_operand_108 : decode cX6_operand 108 = .ok (.invokevirtual 192, 3) := by decide +kernel
theorem dX6_operand_111 : decode cX6_operand 111 = .ok (.aload_n 0, 1) := by decide +kernel
theorem dX6_operand_112 : decode cX6_operand 112 = .ok (.invokevirtual 230, 3) := by decide +kernel
theorem dX6_operand_115 : decode cX6_operand 115 = .ok (.iconst 1, 1) := by decide +kernel
theorem dX6_operand_116 : decode cX6_operand 116 = .ok (.istore_n 2, 1) := by decide +kernel
theorem dX6_operand_117 : decode cX6_operand 117 = .ok (.goto (-113), 3) := by decide +kernel
theorem dX6_operand_120 : decode cX6_operand 120 = .ok (.aload_n 0, 1) := by decide +kernel
theorem dX6_operand_121 : decode cX6_operand 121 = .ok (.invokevirtual 233, 3) := by decide +kernel
theorem dX6_operand_124 : decode cX6_operand 124 = .ok (.return_, 1) := by decide +kernel
theorem dX6_isOpened_0 : decode cX6_isOpened 0 = .ok (.aload_n 0, 1) := by decide +kernel
theorem dX6_isOpened_1 : decode cX6_isOpened 1 = .ok (.getfield 205, 3) := by decide +kernel
theorem dX6_isOpened_4 : decode cX6_isOpened 4 = .ok (.iconst 1, 1) := by decide +kernel
theorem dX6_isOpened_5 : decode cX6_isOpened 5 = .ok (.isub, 1) := by decide +kernel
theorem dX6_isOpened_6 : decode cX6_isOpened 6 = .ok (.istore_n 1, 1) := by decide +kernel
theorem dX6_isOpened_7 : decode cX6_isOpened 7 = .ok (.iload_n 1, 1) := by decide +kernel
theorem dX6_isOpened_8 : decode cX6_isOpened 8 = .ok (.ifCond .lt 21, 3) := by decide +kernel
theorem dX6_isOpened_11 : decode cX6_isOpened 11 = .ok (.aload_n 0, 1) := by decide +kernel
theorem dX6_isOpened_12 : decode cX6_isOpened 12 = .ok (.getfield 68, 3) := by decide +kernel
theorem dX6_isOpened_15 : decode cX6_isOpened 15 = .ok (.iload_n 1, 1) := by decide +kernel
theorem dX6_isOpened_16 : decode cX6_isOpened 16 = .ok (.iaload, 1) := by decide +kernel
theorem dX6_isOpened_17 : decode cX6_isOpened 17 = .ok (.invokestatic 208, 3) := by decide +kernel
theorem dX6_isOpened_20 : decode cX6_isOpened 20 = .ok (.ifCond .ne 9, 3) := by decide +kernel
theorem dX6_isOpened_23 : decode cX6_isOpened 23 = .ok (.iinc 1 (-1), 3) := by decide +kernel
theorem dX6_isOpened_26 : decode cX6_isOpened 26 = .ok (.goto (-19), 3) := by decide +kernel
theorem dX6_isOpened_29 : decode cX6_isOpened 29 = .ok (.iload_n 1, 1) := by decide +kernel
theorem dX6_isOpened_30 : decode cX6_isOpened 30 = .ok (.ifCond .lt 7, 3) := by decide +kernel
theorem dX6_isOpened_33 : decode cX6_isOpened 33 = .ok (.iconst 1, 1) := by decide +kernel
theorem dX6_isOpened_34 : decode cX6_isOpened 34 = .ok (.goto 4, 3) := by decide +kernel
theorem dX6_isOpened_37 : decode cX6_isOpened 37 = .ok (.iconst 0, 1) := by decide +kernel
theorem dX6_isOpened_38 : decode cX6_isOpened 38 = .ok (.ireturn, 1) := by decide +kernel
theorem dX6_closes_0 : decode cX6_closes 0 = .ok (.aload_n 0, 1) := by decide +kernel
theorem dX6_closes_1 : decode cX6_closes 1 = .ok (.iconst 0, 1) := by decide +kernel
theorem dX6_closes_2 : decode cX6_closes 2 = .ok (.invokevirtual 236, 3) := by decide +kernel
theorem dX6_closes_5 : decode cX6_closes 5 = .ok (.aload_n 0, 1) := by decide +kernel
theorem dX6_closes_6 : decode cX6_closes 6 = .ok (.dup, 1) := by decide +kernel
theorem dX6_closes_7 : decode cX6_closes 7 = .ok (.getfield 205, 3) := by decide +kernel
theorem dX6_closes_10 : decode cX6_closes 10 = .ok (.iconst 1, 1) := by decide +kernel
theorem dX6_closes_11 : decode cX6_closes 11 = .ok (.isub, 1) := by decide +kernel
theorem dX6_closes_12 : decode cX6_closes 12 = .ok (.putfield 205, 3) := by decide +kernel
theorem dX6_closes_15 : decode cX6_closes 15 = .ok (.aload_n 0, 1) := by decide +kernel
theorem dX6_closes_16 : decode cX6_closes 16 = .ok (.dup, 1) := by decide +kernel
theorem dX6_closes_17 : decode cX6_closes 17 = .ok (.getfield 221, 3) := by decide +kernel
theorem dX6_closes_20 : decode cX6_closes 20 = .ok (.iconst 1, 1) := by decide +kernel
theorem dX6_closes_21 : decode cX6_closes 21 = .ok (.isub, 1) := by decide +kernel
theorem dX6_closes_22 : decode cX6_closes 22 = .ok (.putfield 221, 3) := by decide +kernel
theorem dX6_closes_25 : decode cX6_closes 25 = .ok (.aload_n 0, 1) := by decide +kernel
theorem dX6_closes_26 : decode cX6_closes 26 = .ok (.invokevirtual 192, 3) := by decide +kernel
theorem dX6_closes_29 : decode cX6_closes 29 = .ok (.return_, 1) := by decide +kernel
theorem dX6_expression_0 : decode cX6_expression 0 = .ok (.aload_n 0, 1) := by decide +kernel
theorem dX6_expression_1 : decode cX6_expression 1 = .ok (.invokevirtual 188, 3) := by decide +kernel
theorem dX6_expression_4 : decode cX6_expression 4 = .ok (.ifCond .ne 4, 3) := by decide +kernel
theorem dX6_expression_7 : decode cX6_expression 7 = .ok (.return_, 1) := by decide +kernel
theorem dX6_expression_8 : decode cX6_expression 8 = .ok (.aload_n 0, 1) := by decide +kernel
theorem dX6_expression_9 : decode cX6_expression 9 = .ok (.iconst 0, 1) := by decide +kernel
theorem dX6_expression_10 : decode cX6_expression 10 = .ok (.putfield 205, 3) := by decide +kernel
theorem dX6_expression_13 : decode cX6_expression 13 = .ok (.aload_n 0, 1) := by decide +kernel
theorem dX6_expression_14 : decode cX6_expression 14 = .ok (.iconst 0, 1) := by decide +kernel
theorem dX6_expression_15 : decode cX6_expression 15 = .ok (.putfield 221, 3) := by decide +kernel
theorem dX6_expression_18 : decode cX6_expression 18 = .ok (.aload_n 0, 1) := by decide +kernel
theorem dX6_expression_19 : decode cX6_expression 19 = .ok (.invokevirtual 230, 3) := by decide +kernel
theorem dX6_expression_22 : decode cX6_expression 22 = .ok (.aload_n 0, 1) := by decide +kernel
theorem dX6_expression_23 : decode cX6_expression 23 = .ok (.iconst 1, 1) := by decide +kernel
theorem dX6_expression_24 : decode cX6_expression 24 = .ok (.invokevirtual 239, 3) := by decide +kernel
theorem dX6_expression_27 : decode cX6_expression 27 = .ok (.iconst 1, 1) := by decide +kernel
theorem dX6_expression_28 : decode cX6_expression 28 = .ok (.istore_n 1, 1) := by decide +kernel
theorem dX6_expression_29 : decode cX6_expression 29 = .ok (.iload_n 1, 1) := by decide +kernel
theorem dX6_expression_30 : decode cX6_expression 30 = .ok (.ifCond .eq 295, 3) := by decide +kernel
theorem dX6_expression_33 : decode cX6_expression 33 = .ok (.aload_n 0, 1) := by decide +kernel
theorem dX6_expression_34 : decode cX6_expression 34 = .ok (.invokevirtual 188, 3) := by decide +kernel
theorem dX6_expression_37 : decode cX6_expression 37 = .ok (.ifCond .eq 288, 3) := by decide +kernel
theorem dX6_expression_40 : decode cX6_expression 40 = .ok (.aload_n 0, 1) := by decide +kernel
theorem dX6_expression_41 : decode cX6_expression 41 = .ok (.invokevirtual 217, 3) := by decide +kernel
theorem dX6_expression_44 : decode cX6_expression 44 = .ok (.istore_n 2, 1) := by decide +kernel
theorem dX6_expression_45 : decode cX6_expression 45 = .ok (.iload_n 2, 1) := by decide +kernel
theorem dX6_expression_46 : decode cX6_expression 46 = .ok (.bipush 14, 2) := by decide +kernel
theorem dX6_expression_48 : decode cX6_expression 48 = .ok (.if_icmp .eq 9, 3) := by decide +kernel
theorem dX6_expression_51 : decode cX6_expression 51 = .ok (.iload_n 2, 1) := by decide +kernel
theorem dX6_expression_52 : decode cX6_expression 52 = .ok (.bipush 15, 2) := by decide +kernel
theorem dX6_expression_54 : decode cX6_expression 54 = .ok (.if_icmp .ne 55, 3) := by decide +kernel
theorem dX6_expression_57 : decode cX6_expression 57 = .ok (.aload_n 0, 1) := by decide +kernel
theorem dX6_expression_58 : decode cX6_expression 58 = .ok (.iload_n 2, 1) := by decide +kernel
theorem dX6_expression_59 : decode cX6_expression 59 = .ok (.bipush 14, 2) := by decide +kernel
theorem dX6_expression_61 : decode cX6_expression 61 = .ok (.if_icmp .ne 7, 3) := by decide +kernel
theorem dX6_expression_64 : decode cX6_expression 64 = .ok (.iconst 2, 1) := by decide +kernel
theorem dX6_expression_65 : decode cX6_expression 65 = .ok (.goto 4, 3) := by decide +kernel
theorem dX6_expression_68 : decode cX6_expression 68 = .ok (.iconst 1, 1) := by decide +kernel
theorem dX6_expression_69 : decode cX6_expression 69 = .ok (.invokevirtual 236, 3) := by decide +kernel
theorem dX6_expression_72 : decode cX6_expression 72 = .ok (.aload_n 0, 1) := by decide +kernel
theorem dX6_expression_73 : decode cX6_expression 73 = .ok (.iload_n 2, 1) := by decide +kernel
theorem dX6_expression_74 : decode cX6_expression 74 = .ok (.bipush 14, 2) := by decide +kernel
theorem dX6_expression_76 : decode cX6_expression 76 = .ok (.if_icmp .ne 7, 3) := by decide +kernel
theorem dX6_expression_79 : decode cX6_expression 79 = .ok (.iconst 4, 1) := by decide +kernel
theorem dX6_expression_80 : decode cX6_expression 80 = .ok (.goto 4, 3) := by decide +kernel
theorem dX6_expression_83 : decode cX6_expression 83 = .ok (.iconst 5, 1) := by decide +kernel
theorem dX6_expression_84 : decode cX6_expression 84 = .ok (.invokevirtual 227, 3) := by decide +kernel
theorem dX6_expression_87 : decode cX6_expression 87 = .ok (.aload_n 0, 1) := by decide +kernel
theorem dX6_expression_88 : decode cX6_expression 88 = .ok (.getfield 71, 3) := by decide +kernel
theorem dX6_expression_91 : decode cX6_expression 91 = .ok (.aload_n 0, 1) := by decide +kernel
theorem dX6_expression_92 : decode cX6_expression 92 = .ok (.getfield 221, 3) := by decide +kernel
theorem dX6_expression_95 : decode cX6_expression 95 = .ok (.iconst 0, 1) := by decide +kernel
theorem dX6_expression_96 : decode cX6_expression 96 = .ok (.bastore, 1) := by decide +kernel
theorem dX6_expression_97 : decode cX6_expression 97 = .ok (.aload_n 0, 1) := by decide +kernel
theorem dX6_expression_98 : decode cX6_expression 98 = .ok (.invokevirtual 192, 3) := by decide +kernel
theorem dX6_expression_101 : decode cX6_expression 101 = .ok (.aload_n 0, 1) := by decide +kernel
theorem dX6_expression_102 : decode cX6_expression 102 = .ok (.iconst 1, 1) := by decide +kernel
theorem dX6_expression_103 : decode cX6_expression 103 = .ok (.invokevirtual 239, 3) := by decide +kernel
theorem dX6_expression_106 : decode cX6_expression 106 = .ok (.goto 216, 3) := by decide +kernel
theorem dX6_expression_109 : decode cX6_expression 109 = .ok (.aload_n 0, 1) := by decide +kernel
theorem dX6_expression_110 : decode cX6_expression 110 = .ok (.bipush 60, 2) := by decide +kernel
theorem dX6_expression_112 : decode cX6_expression 112 = .ok (.invokevirtual 224, 3) := by decide +kernel
theorem dX6_expression_115 : decode cX6_expression 115 = .ok (.ifCond .ne 12, 3) := by decide +kernel
theorem dX6_expression_118 : decode cX6_expression 118 = .ok (.aload_n 0, 1) := by decide +kernel
theorem dX6_expression_119 : decode cX6_expression 119 = .ok (.bipush 61, 2) := by decide +kernel
theorem dX6_expression_121 : decode cX6_expression 121 = .ok (.invokevirtual 224, 3) := by decide +kernel
theorem dX6_expression_124 : decode cX6_expression 124 = .ok (.ifCond .eq 62, 3) := by decide +kernel
theorem dX6_expression_127 : decode cX6_expression 127 = .ok (.aload_n 0, 1) := by decide +kernel
theorem dX6_expression_128 : decode cX6_expression 128 = .ok (.getfield 71, 3) := by decide +kernel
theorem dX6_expression_131 : decode cX6_expression 131 = .ok (.aload_n 0, 1) := by decide +kernel
theorem dX6_expression_132 : decode cX6_expression 132 = .ok (.getfield 221, 3) := by decide +kernel
theorem dX6_expression_135 : decode cX6_expression 135 = .ok (.baload, 1) := by decide +kernel
theorem dX6_expression_136 : decode cX6_expression 136 = .ok (.ifCond .ne 50, 3) := by decide +kernel
theorem dX6_expression_139 : decode cX6_expression 139 = .ok (.aload_n 0, 1) := by decide +kernel
theorem dX6_expression_140 : decode cX6_expression 140 = .ok (.iconst 4, 1) := by decide +kernel
theorem dX6_expression_141 : decode cX6_expression 141 = .ok (.invokevirtual 236, 3) := by decide +kernel
theorem dX6_expression_144 : decode cX6_expression 144 = .ok (.aload_n 0, 1) := by decide +kernel
theorem dX6_expression_145 : decode cX6_expression 145 = .ok (.aload_n 0, 1) := by decide +kernel
theorem dX6_expression_146 : decode cX6_expression 146 = .ok (.bipush 60, 2) := by decide +kernel
theorem dX6_expression_148 : decode cX6_expression 148 = .ok (.invokevirtual 224, 3) := by decide +kernel
theorem dX6_expression_151 : decode cX6_expression 151 = .ok (.ifCond .eq 8, 3) := by decide +kernel
theorem dX6_expression_154 : decode cX6_expression 154 = .ok (.bipush 6, 2) := by decide +kernel
theorem dX6_expression_156 : decode cX6_expression 156 = .ok (.goto 5, 3) := by decide +kernel
theorem dX6_expression_159 : decode cX6_expression 159 = .ok (.bipush 7, 2) := by decide +kernel
theorem dX6_expression_161 : decode cX6_expression 161 = .ok (.invokevirtual 227, 3) := by decide +kernel
theorem dX6_expression_164 : decode cX6_expression 164 = .ok (.aload_n 0, 1) := by decide +kernel
theorem dX6_expression_165 : decode cX6_expression 165 = .ok (.getfield 71, 3) := by decide +kernel
theorem dX6_expression_168 : decode cX6_expression 168 = .ok (.aload_n 0, 1) := by decide +kernel
theorem dX6_expression_169 : decode cX6_expression 169 = .ok (.getfield 221, 3) := by decide +kernel
theorem dX6_expression_172 : decode cX6_expression 172 = .ok (.iconst 1, 1) := by decide +kernel
theorem dX6_expression_173 : decode cX6_expression 173 = .ok (.bastore, 1) := by decide +kernel
theorem dX6_expression_174 : decode cX6_expression 174 = .ok (.aload_n 0, 1) := by decide +kernel
theorem dX6_expression_175 : decode cX6_expression 175 = .ok (.invokevirtual 192, 3) := by decide +kernel
theorem dX6_expression_178 : decode cX6_expression 178 = .ok (.aload_n 0, 1) := by decide +kernel
theorem dX6_expression_179 : decode cX6_expression 179 = .ok (.iconst 0, 1) := by decide +kernel
theorem dX6_expression_180 : decode cX6_expression 180 = .ok (.invokevirtual 239, 3) := by decide +kernel
theorem dX6_expression_183 : decode cX6_expression 183 = .ok (.goto 139, 3) := by decide +kernel
theorem dX6_expression_186 : decode cX6_expression 186 = .ok (.aload_n 0, 1) := by decide +kernel
theorem dX6_expression_187 : decode cX6_expression 187 = .ok (.bipush 43, 2) := by decide +kernel
theorem dX6_expression_189 : decode cX6_expression 189 = .ok (.invokevirtual 224, 3) := by decide +kernel
theorem dX6_expression_192 : decode cX6_expression 192 = .ok (.ifCond .ne 12, 3) := by decide +kernel
theorem dX6_expression_195 : decode cX6_expression 195 = .ok (.aload_n 0, 1) := by decide +kernel
theorem dX6_expression_196 : decode cX6_expression 196 = .ok (.bipush 45, 2) := by decide +kernel
theorem dX6_expression_198 : decode cX6_expression 198 = .ok (.invokevirtual 224, 3) := by decide +kernel
theorem dX6_expression_201 : decode cX6_expression 201 = .ok (.ifCond .eq 40, 3) := by decide +kernel
theorem dX6_expression_204 : decode cX6_expression 204 = .ok (.aload_n 0, 1) := by decide +kernel
theorem dX6_expression_205 : decode cX6_expression 205 = .ok (.iconst 5, 1) := by decide +kernel
theorem dX6_expression_206 : decode cX6_expression 206 = .ok (.invokevirtual 236, 3) := by decide +kernel
theorem dX6_expression_209 : decode cX6_expression 209 = .ok (.aload_n 0, 1) := by decide +kernel
theorem dX6_expression_210 : decode cX6_expression 210 = .ok (.aload_n 0, 1) := by decide +kernel
theorem dX6_expression_211 : decode cX6_expression 211 = .ok (.bipush 43, 2) := by decide +kernel
theorem dX6_expression_213 : decode cX6_expression 213 = .ok (.invokevirtual 224, 3) := by decide +kernel
theorem dX6_expression_216 : decode cX6_expression 216 = .ok (.ifCond .eq 8, 3) := by decide +kernel
theorem dX6_expression_219 : decode cX6_expression 219 = .ok (.bipush 8, 2) := by decide +kernel
theorem dX6_expression_221 : decode cX6_expression 221 = .ok (.goto 5, 3) := by decide +kernel
theorem dX6_expression_224 : decode cX6_expression 224 = .ok (.bipush 9, 2) := by decide +kernel
theorem dX6_expression_226 : decode cX6_expression 226 = .ok (.invokevirtual 227, 3) := by decide +kernel
theorem dX6_expression_229 : decode cX6_expression 229 = .ok (.aload_n 0, 1) := by decide +kernel
theorem dX6_expression_230 : decode cX6_expression 230 = .ok (.invokevirtual 192, 3) := by decide +kernel
theorem dX6_expression_233 : decode cX6_expression 233 = .ok (.aload_n 0, 1) := by decide +kernel
theorem dX6_expression_234 : decode cX6_expression 234 = .ok (.iconst 0, 1) := by decide +kernel
theorem dX6_expression_235 : decode cX6_expression 235 = .ok (.invokevirtual 239, 3) := by decide +kernel
theorem dX6_expression_238 : decode cX6_expression 238 = .ok (.goto 84, 3) := by decide +kernel
theorem dX6_expression_241 : decode cX6_expression 241 = .ok (.aload_n 0, 1) := by decide +kernel
theorem dX6_expression_242 : decode cX6_expression 242 = .ok (.bipush 42, 2) := by decide +kernel
theorem dX6_expression_244 : decode cX6_expression 244 = .ok (.invokevirtual 224, 3) := by decide +kernel
theorem dX6_expression_247 : decode cX6_expression 247 = .ok (.ifCond .ne 12, 3) := by decide +kernel
theorem dX6_expression_250 : decode cX6_expression 250 = .ok (.aload_n 0, 1) := by decide +kernel
theorem dX6_expression_251 : decode cX6_expression 251 = .ok (.bipush 47, 2) := by decide +kernel
theorem dX6_expression_253 : decode cX6_expression 253 = .ok (.invokevirtual 224, 3) := by decide +kernel
theorem dX6_expression_256 : decode cX6_expression 256 = .ok (.ifCond .eq 41, 3) := by decide +kernel
theorem dX6_expression_259 : decode cX6_expression 259 = .ok (.aload_n 0, 1) := by decide +kernel
theorem dX6_expression_260 : decode cX6_expression 260 = .ok (.bipush 6, 2) := by decide +kernel
theorem dX6_expression_262 : decode cX6_expression 262 = .ok (.invokevirtual 236, 3) := by decide +kernel
theorem dX6_expression_265 : decode cX6_expression 265 = .ok (.aload_n 0, 1) := by decide +kernel
theorem dX6_expression_266 : decode cX6_expression 266 = .ok (.aload_n 0, 1) := by decide +kernel
theorem dX6_expression_267 : decode cX6_expression 267 = .ok (.bipush 42, 2) := by decide +kernel
theorem dX6_expression_269 : decode cX6_expression 269 = .ok (.invokevirtual 224, 3) := by decide +kernel
theorem dX6_expression_272 : decode cX6_expression 272 = .ok (.ifCond .eq 8, 3) := by decide +kernel
theorem dX6_expression_275 : decode cX6_expression 275 = .ok (.bipush 10, 2) := by decide +kernel
theorem dX6_expression_277 : decode cX6_expression 277 = .ok (.goto 5, 3) := by decide +kernel
theorem dX6_expression_280 : decode cX6_expression 280 = .ok (.bipush 11, 2) := by decide +kernel
theorem dX6_expression_282 : decode cX6_expression 282 = .ok (.invokevirtual 227, 3) := by decide +kernel
theorem dX6_expression_285 : decode cX6_expression 285 = .ok (.aload_n 0, 1) := by decide +kernel
theorem dX6_expression_286 : decode cX6_expression 286 = .ok (.invokevirtual 192, 3) := by decide +kernel
theorem dX6_expression_289 : decode cX6_expression 289 = .ok (.aload_n 0, 1) := by decide +kernel
theorem dX6_expression_290 : decode cX6_expression 290 = .ok (.iconst 0, 1) := by decide +kernel
theorem dX6_expression_291 : decode cX6_expression 291 = .ok (.invokevirtual 239, 3) := by decide +kernel
theorem dX6_expression_294 : decode cX6_expression 294 = .ok (.goto 28, 3) := by decide +kernel
theorem dX6_expression_297 : decode cX6_expression 297 = .ok (.aload_n 0, 1) := by decide +kernel
theorem dX6_expression_298 : decode cX6_expression 298 = .ok (.bipush 41, 2) := by decide +kernel
theorem dX6_expression_300 : decode cX6_expression 300 = .ok (.invokevirtual 224, 3) := by decide +kernel
theorem dX6_expression_303 : decode cX6_expression 303 = .ok (.ifCond .eq 17, 3) := by decide +kernel
theorem dX6_expression_306 : decode cX6_expression 306 = .ok (.aload_n 0, 1) := by decide +kernel
theorem dX6_expression_307 : decode cX6_expression 307 = .ok (.invokevirtual 243, 3) := by decide +kernel
theorem dX6_expression_310 : decode cX6_expression 310 = .ok (.ifCond .eq 10, 3) := by decide +kernel
theorem dX6_expression_313 : decode cX6_expression 313 = .ok (.aload_n 0, 1) := by decide +kernel
theorem dX6_expression_314 : decode cX6_expression 314 = .ok (.invokevirtual 246, 3) := by decide +kernel
theorem dX6_expression_317 : decode cX6_expression 317 = .ok (.goto 5, 3) := by decide +kernel
theorem dX6_expression_320 : decode cX6_expression 320 = .ok (.iconst 0, 1) := by decide +kernel
theorem dX6_expression_321 : decode cX6_expression 321 = .ok (.istore_n 1, 1) := by decide +kernel
theorem dX6_expression_322 : decode cX6_expression 322 = .ok (.goto (-293), 3) := by decide +kernel
theorem dX6_expression_325 : decode cX6_expression 325 = .ok (.aload_n 0, 1) := by decide +kernel
theorem dX6_expression_326 : decode cX6_expression 326 = .ok (.invokevirtual 188, 3) := by decide +kernel
theorem dX6_expression_329 : decode cX6_expression 329 = .ok (.ifCond .eq 16, 3) := by decide +kernel
theorem dX6_expression_332 : decode cX6_expression 332 = .ok (.aload_n 0, 1) := by decide +kernel
theorem dX6_expression_333 : decode cX6_expression 333 = .ok (.getfield 221, 3) := by decide +kernel
theorem dX6_expression_336 : decode cX6_expression 336 = .ok (.iconst 1, 1) := by decide +kernel
theorem dX6_expression_337 : decode cX6_expression 337 = .ok (.if_icmp .le 8, 3) := by decide +kernel
theorem dX6_expression_340 : decode cX6_expression 340 = .ok (.aload_n 0, 1) := by decide +kernel
theorem dX6_expression_341 : decode cX6_expression 341 = .ok (.iconst 1, 1) := by decide +kernel
theorem dX6_expression_342 : decode cX6_expression 342 = .ok (.invokevirtual 195, 3) := by decide +kernel
theorem dX6_expression_345 : decode cX6_expression 345 = .ok (.aload_n 0, 1) := by decide +kernel
theorem dX6_expression_346 : decode cX6_expression 346 = .ok (.iconst 0, 1) := by decide +kernel
theorem dX6_expression_347 : decode cX6_expression 347 = .ok (.invokevirtual 236, 3) := by decide +kernel
theorem dX6_expression_350 : decode cX6_expression 350 = .ok (.aload_n 0, 1) := by decide +kernel
theorem dX6_expression_351 : decode cX6_expression 351 = .ok (.iconst 0, 1) := by decide +kernel
theorem dX6_expression_352 : decode cX6_expression 352 = .ok (.invokevirtual 214, 3) := by decide +kernel
theorem dX6_expression_355 : decode cX6_expression 355 = .ok (.return_, 1) := by decide +kernel
theorem dX6_cellNext_0 : decode cX6_cellNext 0 = .ok (.aload_n 0, 1) := by decide +kernel
theorem dX6_cellNext_1 : decode cX6_cellNext 1 = .ok (.iconst 0, 1) := by decide +kernel
theorem dX6_cellNext_2 : decode cX6_cellNext 2 = .ok (.aload_n 0, 1) := by decide +kernel
theorem dX6_cellNext_3 : decode cX6_cellNext 3 = .ok (.getfield 249, 3) := by decide +kernel
theorem dX6_cellNext_6 : decode cX6_cellNext 6 = .ok (.iconst 1, 1) := by decide +kernel
theorem dX6_cellNext_7 : decode cX6_cellNext 7 = .ok (.isub, 1) := by decide +kernel
theorem dX6_cellNext_8 : decode cX6_cellNext 8 = .ok (.invokevirtual 252, 3) := by decide +kernel
theorem dX6_cellNext_11 : decode cX6_cellNext 11 = .ok (.istore_n 3, 1) := by decide +kernel
theorem dX6_cellNext_12 : decode cX6_cellNext 12 = .ok (.aload_n 0, 1) := by decide +kernel
theorem dX6_cellNext_13 : decode cX6_cellNext 13 = .ok (.iconst 0, 1) := by decide +kernel
theorem dX6_cellNext_14 : decode cX6_cellNext 14 = .ok (.aload_n 0, 1) := by decide +kernel
theorem dX6_cellNext_15 : decode cX6_cellNext 15 = .ok (.getfield 256, 3) := by decide +kernel
theorem dX6_cellNext_18 : decode cX6_cellNext 18 = .ok (.iconst 1, 1) := by decide +kernel
theorem dX6_cellNext_19 : decode cX6_cellNext 19 = .ok (.isub, 1) := by decide +kernel
theorem dX6_cellNext_20 : decode cX6_cellNext 20 = .ok (.invokevirtual 198, 3) := by decide +kernel
theorem dX6_cellNext_23 : decode cX6_cellNext 23 = .ok (.ifCond .ne 5, 3) := by decide +kernel
theorem dX6_cellNext_26 : decode cX6_cellNext 26 = .ok (.iconst 0, 1) := by decide +kernel
theorem dX6_cellNext_27 : decode cX6_cellNext 27 = .ok (.ireturn, 1) := by decide +kernel
theorem dX6_cellNext_28 : decode cX6_cellNext 28 = .ok (.aload_n 0, 1) := by decide +kernel
theorem dX6_cellNext_29 : decode cX6_cellNext 29 = .ok (.getfield 249, 3) := by decide +kernel
theorem dX6_cellNext_32 : decode cX6_cellNext 32 = .ok (.aload_n 0, 1) := by decide +kernel
theorem dX6_cellNext_33 : decode cX6_cellNext 33 = .ok (.getfield 156, 3) := by decide +kernel
theorem dX6_cellNext_36 : decode cX6_cellNext 36 = .ok (.imul, 1) := by decide +kernel
theorem dX6_cellNext_37 : decode cX6_cellNext 37 = .ok (.iload_n 3, 1) := by decide +kernel
theorem dX6_cellNext_38 : decode cX6_cellNext 38 = .ok (.iadd, 1) := by decide +kernel
theorem dX6_cellNext_39 : decode cX6_cellNext 39 = .ok (.istore 4, 2) := by decide +kernel
theorem dX6_cellNext_41 : decode cX6_cellNext 41 = .ok (.lload_n 1, 1) := by decide +kernel
theorem dX6_cellNext_42 : decode cX6_cellNext 42 = .ok (.iload 4, 2) := by decide +kernel
theorem dX6_cellNext_44 : decode cX6_cellNext 44 = .ok (.lshr, 1) := by decide +kernel
theorem dX6_cellNext_45 : decode cX6_cellNext 45 = .ok (.lconst 1, 1) := by decide +kernel
theorem dX6_cellNext_46 : decode cX6_cellNext 46 = .ok (.land, 1) := by decide +kernel
theorem dX6_cellNext_47 : decode cX6_cellNext 47 = .ok (.lconst 1, 1) := by decide +kernel
theorem dX6_cellNext_48 : decode cX6_cellNext 48 = .ok (.lcmp, 1) := by decide +kernel
theorem dX6_cellNext_49 : decode cX6_cellNext 49 = .ok (.ifCond .ne 8, 3) := by decide +kernel
theorem dX6_cellNext_52 : decode cX6_cellNext 52 = .ok (.aload_n 0, 1) := by decide +kernel
theorem dX6_cellNext_53 : decode cX6_cellNext 53 = .ok (.iconst 4, 1) := by decide +kernel
theorem dX6_cellNext_54 : decode cX6_cellNext 54 = .ok (.invokevirtual 195, 3) := by decide +kernel
theorem dX6_cellNext_57 : decode cX6_cellNext 57 = .ok (.aload_n 0, 1) := by decide +kernel
theorem dX6_cellNext_58 : decode cX6_cellNext 58 = .ok (.invokevirtual 188, 3) := by decide +kernel
theorem dX6_cellNext_61 : decode cX6_cellNext 61 = .ok (.ifCond .eq 7, 3) := by decide +kernel
theorem dX6_cellNext_64 : decode cX6_cellNext 64 = .ok (.aload_n 0, 1) := by decide +kernel
theorem dX6_cellNext_65 : decode cX6_cellNext 65 = .ok (.invokevirtual 192, 3) := by decide +kernel
theorem dX6_cellNext_68 : decode cX6_cellNext 68 = .ok (.iload 4, 2) := by decide +kernel
theorem dX6_cellNext_70 : decode cX6_cellNext 70 = .ok (.ireturn, 1) := by decide +kernel
theorem dX6_readsFogs_0 : decode cX6_readsFogs 0 = .ok (.aload_n 0, 1) := by decide +kernel
theorem dX6_readsFogs_1 : decode cX6_readsFogs 1 = .ok (.getfield 259, 3) := by decide +kernel
theorem dX6_readsFogs_4 : decode cX6_readsFogs 4 = .ok (.ifCond .le 8, 3) := by decide +kernel
theorem dX6_readsFogs_7 : decode cX6_readsFogs 7 = .ok (.aload_n 0, 1) := by decide +kernel
theorem dX6_readsFogs_8 : decode cX6_readsFogs 8 = .ok (.iconst 5, 1) := by decide +kernel
theorem dX6_readsFogs_9 : decode cX6_readsFogs 9 = .ok (.invokevirtual 195, 3) := by decide +kernel
theorem dX6_readsFogs_12 : decode cX6_readsFogs 12 = .ok (.aload_n 0, 1) := by decide +kernel
theorem dX6_readsFogs_13 : decode cX6_readsFogs 13 = .ok (.invokevirtual 188, 3) := by decide +kernel
theorem dX6_readsFogs_16 : decode cX6_readsFogs 16 = .ok (.ifCond .ne 4, 3) := by decide +kernel
theorem dX6_readsFogs_19 : decode cX6_readsFogs 19 = .ok (.return_, 1) := by decide +kernel
theorem dX6_readsFogs_20 : decode cX6_readsFogs 20 = .ok (.aload_n 0, 1) := by decide +kernel
theorem dX6_readsFogs_21 : decode cX6_readsFogs 21 = .ok (.invokevirtual 192, 3) := by decide +kernel
theorem dX6_readsFogs_24 : decode cX6_readsFogs 24 = .ok (.iconst 1, 1) := by decide +kernel
theorem dX6_readsFogs_25 : decode cX6_readsFogs 25 = .ok (.istore_n 1, 1) := by decide +kernel
theorem dX6_readsFogs_26 : decode cX6_readsFogs 26 = .ok (.iload_n 1, 1) := by decide +kernel
theorem dX6_readsFogs_27 : decode cX6_readsFogs 27 = .ok (.ifCond .eq 85, 3) := by decide +kernel
theorem dX6_readsFogs_30 : decode cX6_readsFogs 30 = .ok (.aload_n 0, 1) := by decide +kernel
theorem dX6_readsFogs_31 : decode cX6_readsFogs 31 = .ok (.invokevirtual 188, 3) := by decide +kernel
theorem dX6_readsFogs_34 : decode cX6_readsFogs 34 = .ok (.ifCond .eq 78, 3) := by decide +kernel
theorem dX6_readsFogs_37 : decode cX6_readsFogs 37 = .ok (.aload_n 0, 1) := by decide +kernel
theorem dX6_readsFogs_38 : decode cX6_readsFogs 38 = .ok (.getfield 259, 3) := by decide +kernel
theorem dX6_readsFogs_41 : decode cX6_readsFogs 41 = .ok (.bipush 8, 2) := by decide +kernel
theorem dX6_readsFogs_43 : decode cX6_readsFogs 43 = .ok (.if_icmp .ne 16, 3) := by decide +kernel
theorem dX6_readsFogs_46 : decode cX6_readsFogs 46 = .ok (.aload_n 0, 1) := by decide +kernel
theorem dX6_readsFogs_47 : decode cX6_readsFogs 47 = .ok (.getfield 162, 3) := by decide +kernel
theorem dX6_readsFogs_50 : decode cX6_readsFogs 50 = .ok (.iconst 2, 1) := by decide +kernel
theorem dX6_readsFogs_51 : decode cX6_readsFogs 51 = .ok (.if_icmp .ne 8, 3) := by decide +kernel
theorem dX6_readsFogs_54 : decode cX6_readsFogs 54 = .ok (.aload_n 0, 1) := by decide +kernel
theorem dX6_readsFogs_55 : decode cX6_readsFogs 55 = .ok (.iconst 2, 1) := by decide +kernel
theorem dX6_readsFogs_56 : decode cX6_readsFogs 56 = .ok (.invokevirtual 195, 3) := by decide +kernel
theorem dX6_readsFogs_59 : decode cX6_readsFogs 59 = .ok (.aload_n 0, 1) := by decide +kernel
theorem dX6_readsFogs_60 : decode cX6_readsFogs 60 = .ok (.iconst 1, 1) := by decide +kernel
theorem dX6_readsFogs_61 : decode cX6_readsFogs 61 = .ok (.bipush 9, 2) := by decide +kernel
theorem dX6_readsFogs_63 : decode cX6_readsFogs 63 = .ok (.invokevirtual 252, 3) := by decide +kernel
theorem dX6_readsFogs_66 : decode cX6_readsFogs 66 = .ok (.istore_n 2, 1) := by decide +kernel
theorem dX6_readsFogs_67 : decode cX6_readsFogs 67 = .ok (.aload_n 0, 1) := by decide +kernel
theorem dX6_readsFogs_68 : decode cX6_readsFogs 68 = .ok (.invokevirtual 188, 3) := by decide +kernel
theorem dX6_readsFogs_71 : decode cX6_readsFogs 71 = .ok (.ifCond .ne 4, 3) := by decide +kernel
theorem dX6_readsFogs_74 : decode cX6_readsFogs 74 = .ok (.return_, 1) := by decide +kernel
theorem dX6_readsFogs_75 : decode cX6_readsFogs 75 = .ok (.aload_n 0, 1) := by decide +kernel
theorem dX6_readsFogs_76 : decode cX6_readsFogs 76 = .ok (.getfield 59, 3) := by decide +kernel
theorem dX6_readsFogs_79 : decode cX6_readsFogs 79 = .ok (.aload_n 0, 1) := by decide +kernel
theorem dX6_readsFogs_80 : decode cX6_readsFogs 80 = .ok (.getfield 259, 3) := by decide +kernel
theorem dX6_readsFogs_83 : decode cX6_readsFogs 83 = .ok (.iload_n 2, 1) := by decide +kernel
theorem dX6_readsFogs_84 : decode cX6_readsFogs 84 = .ok (.iastore, 1) := by decide +kernel
theorem dX6_readsFogs_85 : decode cX6_readsFogs 85 = .ok (.aload_n 0, 1) := by decide +kernel
theorem dX6_readsFogs_86 : decode cX6_readsFogs 86 = .ok (.dup, 1) := by decide +kernel
theorem dX6_readsFogs_87 : decode cX6_readsFogs 87 = .ok (.getfield 259, 3) := by decide +kernel
theorem dX6_readsFogs_90 : decode cX6_readsFogs 90 = .ok (.iconst 1, 1) := by decide +kernel
theorem dX6_readsFogs_91 : decode cX6_readsFogs 91 = .ok (.iadd, 1) := by decide +kernel
theorem dX6_readsFogs_92 : decode cX6_readsFogs 92 = .ok (.putfield 259, 3) := by decide +kernel
theorem dX6_readsFogs_95 : decode cX6_readsFogs 95 = .ok (.aload_n 0, 1) := by decide +kernel
theorem dX6_readsFogs_96 : decode cX6_readsFogs 96 = .ok (.getfield 162, 3) := by decide +kernel
theorem dX6_readsFogs_99 : decode cX6_readsFogs 99 = .ok (.iconst 2, 1) := by decide +kernel
theorem dX6_readsFogs_100 : decode cX6_readsFogs 100 = .ok (.if_icmp .ne 7, 3) := by decide +kernel
theorem dX6_readsFogs_103 : decode cX6_readsFogs 103 = .ok (.iconst 1, 1) := by decide +kernel
theorem dX6_readsFogs_104 : decode cX6_readsFogs 104 = .ok (.goto 4, 3) := by decide +kernel
theorem dX6_readsFogs_107 : decode cX6_readsFogs 107 = .ok (.iconst 0, 1) := by decide +kernel
theorem dX6_readsFogs_108 : decode cX6_readsFogs 108 = .ok (.istore_n 1, 1) := by decide +kernel
theorem dX6_readsFogs_109 : decode cX6_readsFogs 109 = .ok (.goto (-83), 3) := by decide +kernel
theorem dX6_readsFogs_112 : decode cX6_readsFogs 112 = .ok (.return_, 1) := by decide +kernel
theorem dX6_line_0 : decode cX6_line 0 = .ok (.aload_n 0, 1) := by decide +kernel
theorem dX6_line_1 : decode cX6_line 1 = .ok (.invokevirtual 217, 3) := by decide +kernel
theorem dX6_line_4 : decode cX6_line 4 = .ok (.istore_n 1, 1) := by decide +kernel
theorem dX6_line_5 : decode cX6_line 5 = .ok (.iload_n 1, 1) := by decide +kernel
theorem dX6_line_6 : decode cX6_line 6 = .ok (.iconst 2, 1) := by decide +kernel
theorem dX6_line_7 : decode cX6_line 7 = .ok (.if_icmp .ne 54, 3) := by decide +kernel
theorem dX6_line_10 : decode cX6_line 10 = .ok (.aload_n 0, 1) := by decide +kernel
theorem dX6_line_11 : decode cX6_line 11 = .ok (.invokevirtual 192, 3) := by decide +kernel
theorem dX6_line_14 : decode cX6_line 14 = .ok (.aload_n 0, 1) := by decide +kernel
theorem dX6_line_15 : decode cX6_line 15 = .ok (.aload_n 0, 1) := by decide +kernel
theorem dX6_line_16 : decode cX6_line 16 = .ok (.getfield 262, 3) := by decide +kernel
theorem dX6_line_19 : decode cX6_line 19 = .ok (.invokevirtual 265, 3) := by decide +kernel
theorem dX6_line_22 : decode cX6_line 22 = .ok (.istore_n 2, 1) := by decide +kernel
theorem dX6_line_23 : decode cX6_line 23 = .ok (.aload_n 0, 1) := by decide +kernel
theorem dX6_line_24 : decode cX6_line 24 = .ok (.iconst 0, 1) := by decide +kernel
theorem dX6_line_25 : decode cX6_line 25 = .ok (.bipush 9, 2) := by decide +kernel
theorem dX6_line_27 : decode cX6_line 27 = .ok (.invokevirtual 252, 3) := by decide +kernel
theorem dX6_line_30 : decode cX6_line 30 = .ok (.istore_n 3, 1) := by decide +kernel
theorem dX6_line_31 : decode cX6_line 31 = .ok (.aload_n 0, 1) := by decide +kernel
theorem dX6_line_32 : decode cX6_line 32 = .ok (.invokevirtual 188, 3) := by decide +kernel
theorem dX6_line_35 : decode cX6_line 35 = .ok (.ifCond .ne 4, 3) := by decide +kernel
theorem dX6_line_38 : decode cX6_line 38 = .ok (.return_, 1) := by decide +kernel
theorem dX6_line_39 : decode cX6_line 39 = .ok (.aload_n 0, 1) := by decide +kernel
theorem dX6_line_40 : decode cX6_line 40 = .ok (.dup, 1) := by decide +kernel
theorem dX6_line_41 : decode cX6_line 41 = .ok (.getfield 262, 3) := by decide +kernel
theorem dX6_line_44 : decode cX6_line 44 = .ok (.lconst 1, 1) := by decide +kernel
theorem dX6_line_45 : decode cX6_line 45 = .ok (.iload_n 2, 1) := by decide +kernel
theorem dX6_line_46 : decode cX6_line 46 = .ok (.lshl, 1) := by decide +kernel
theorem dX6_line_47 : decode cX6_line 47 = .ok (.lor, 1) := by decide +kernel
theorem dX6_line_48 : decode cX6_line 48 = .ok (.putfield 262, 3) := by decide +kernel
theorem dX6_line_51 : decode cX6_line 51 = .ok (.aload_n 0, 1) := by decide +kernel
theorem dX6_line_52 : decode cX6_line 52 = .ok (.getfield 44, 3) := by decide +kernel
theorem dX6_line_55 : decode cX6_line 55 = .ok (.iload_n 2, 1) := by decide +kernel
theorem dX6_line_56 : decode cX6_line 56 = .ok (.iload_n 3, 1) := by decide +kernel
theorem dX6_line_57 : decode cX6_line 57 = .ok (.iastore, 1) := by decide +kernel
theorem dX6_line_58 : decode cX6_line 58 = .ok (.goto 340, 3) := by decide +kernel
theorem dX6_line_61 : decode cX6_line 61 = .ok (.iload_n 1, 1) := by decide +kernel
theorem dX6_line_62 : decode cX6_line 62 = .ok (.bipush 11, 2) := by decide +kernel
theorem dX6_line_64 : decode cX6_line 64 = .ok (.if_icmp .ne 135, 3) := by decide +kernel
theorem dX6_line_67 : decode cX6_line 67 = .ok (.aload_n 0, 1) := by decide +kernel
theorem dX6_line_68 : decode cX6_line 68 = .ok (.getfield 269, 3) := by decide +kernel
theorem dX6_line_71 : decode cX6_line 71 = .ok (.bipush 12, 2) := by decide +kernel
theorem dX6_line_73 : decode cX6_line 73 = .ok (.if_icmp .ne 8, 3) := by decide +kernel
theorem dX6_line_76 : decode cX6_line 76 = .ok (.aload_n 0, 1) := by decide +kernel
theorem dX6_line_77 : decode cX6_line 77 = .ok (.iconst 2, 1) := by decide +kernel
theorem dX6_line_78 : decode cX6_line 78 = .ok (.invokevirtual 195, 3) := by decide +kernel
theorem dX6_line_81 : decode cX6_line 81 = .ok (.aload_n 0, 1) := by decide +kernel
theorem dX6_line_82 : decode cX6_line 82 = .ok (.invokevirtual 188, 3) := by decide +kernel
theorem dX6_line_85 : decode cX6_line 85 = .ok (.ifCond .ne 4, 3) := by decide +kernel
theorem dX6_line_88 : decode cX6_line 88 = .ok (.return_, 1) := by decide +kernel
theorem dX6_line_89 : decode cX6_line 89 = .ok (.aload_n 0, 1) := by decide +kernel
theorem dX6_line_90 : decode cX6_line 90 = .ok (.invokevirtual 192, 3) := by decide +kernel
theorem dX6_line_93 : decode cX6_line 93 = .ok (.aload_n 0, 1) := by decide +kernel
theorem dX6_line_94 : decode cX6_line 94 = .ok (.aload_n 0, 1) := by decide +kernel
theorem dX6_line_95 : decode cX6_line 95 = .ok (.getfield 272, 3) := by decide +kernel
theorem dX6_line_98 : decode cX6_line 98 = .ok (.invokevirtual 265, 3) := by decide +kernel
theorem dX6_line_101 : decode cX6_line 101 = .ok (.istore_n 2, 1) := by decide +kernel
theorem dX6_line_102 : decode cX6_line 102 = .ok (.aload_n 0, 1) := by decide +kernel
theorem dX6_line_103 : decode cX6_line 103 = .ok (.getfield 47, 3) := by decide +kernel
theorem dX6_line_106 : decode cX6_line 106 = .ok (.iconst 3, 1) := by decide +kernel
theorem dX6_line_107 : decode cX6_line 107 = .ok (.aload_n 0, 1) := by decide +kernel
theorem dX6_line_108 : decode cX6_line 108 = .ok (.getfield 269, 3) := by decide +kernel
theorem dX6_line_111 : decode cX6_line 111 = .ok (.imul, 1) := by decide +kernel
theorem dX6_line_112 : decode cX6_line 112 = .ok (.iload_n 2, 1) := by decide +kernel
theorem dX6_line_113 : decode cX6_line 113 = .ok (.iastore, 1) := by decide +kernel
theorem dX6_line_114 : decode cX6_line 114 = .ok (.aload_n 0, 1) := by decide +kernel
theorem dX6_line_115 : decode cX6_line 115 = .ok (.getfield 47, 3) := by decide +kernel
theorem dX6_line_118 : decode cX6_line 118 = .ok (.iconst 3, 1) := by decide +kernel
theorem dX6_line_119 : decode cX6_line 119 = .ok (.aload_n 0, 1) := by decide +kernel
theorem dX6_line_120 : decode cX6_line 120 = .ok (.getfield 269, 3) := by decide +kernel
theorem dX6_line_123 : decode cX6_line 123 = .ok (.imul, 1) := by decide +kernel
theorem dX6_line_124 : decode cX6_line 124 = .ok (.iconst 1, 1) := by decide +kernel
theorem dX6_line_125 : decode cX6_line 125 = .ok (.iadd, 1) := by decide +kernel
theorem dX6_line_126 : decode cX6_line 126 = .ok (.aload_n 0, 1) := by decide +kernel
theorem dX6_line_127 : decode cX6_line 127 = .ok (.iconst 1, 1) := by decide +kernel
theorem dX6_line_128 : decode cX6_line 128 = .ok (.bipush 9, 2) := by decide +kernel
theorem dX6_line_130 : decode cX6_line 130 = .ok (.invokevirtual 252, 3) := by decide +kernel
theorem dX6_line_133 : decode cX6_line 133 = .ok (.iastore, 1) := by decide +kernel
theorem dX6_line_134 : decode cX6_line 134 = .ok (.aload_n 0, 1) := by decide +kernel
theorem dX6_line_135 : decode cX6_line 135 = .ok (.getfield 47, 3) := by decide +kernel
theorem dX6_line_138 : decode cX6_line 138 = .ok (.iconst 3, 1) := by decide +kernel
theorem dX6_line_139 : decode cX6_line 139 = .ok (.aload_n 0, 1) := by decide +kernel
theorem dX6_line_140 : decode cX6_line 140 = .ok (.getfield 269, 3) := by decide +kernel
theorem dX6_line_143 : decode cX6_line 143 = .ok (.imul, 1) := by decide +kernel
theorem dX6_line_144 : decode cX6_line 144 = .ok (.iconst 2, 1) := by decide +kernel
theorem dX6_line_145 : decode cX6_line 145 = .ok (.iadd, 1) := by decide +kernel
theorem dX6_line_146 : decode cX6_line 146 = .ok (.aload_n 0, 1) := by decide +kernel
theorem dX6_line_147 : decode cX6_line 147 = .ok (.aload_n 0, 1) := by decide +kernel
