theorem dX6_isOpened_0 : decode cX6_isOpened 0 = .ok (.aload_n 0, 1) := by decide +kernel
theorem dX6_isOpened_1 : decode cX6_isOpened 1 = .ok (.getfield 205, 3) := by decide +kernel
theorem dX6_isOpened_4 : decode cX6_isOpened 4 = .ok (.iconst 1, 1) := by decide +kernel
theorem dX6_isOpened_5 : decode cX6_isOpened 5 = .ok (.isub, 1) := by decide +kernel
theorem dX6_isOpened_6 : decode cX6_isOpened 6 = .ok (.istore_n 1, 1) := by decide +kernel
theorem dX6_isOpened_7 : decode cX6_isOpened 7 = .ok (.iload_n 1, 1) := by decide +kernel
theorem dX6_isOpened_8 : decode cX6_isOpened 8 = .ok (.ifCond .lt 21, 3) := by decide +kernel
theorem dX6_isOpened_11 : decode cX6_isOpened 11 = .ok (.aload_n 0, 1) := by decide +kernel
theorem dX6_isOpened_12 : decode cX6_isOpened 12 = .ok (.getfield 68, 3) := by decide +kernel
theorem dX6_isOpened_15 : decode cX6_isOpened 15 = .ok (.iload_n 1, 1) := by decide +kernel
theorem dX6_isOpened_16 : decode cX6_isOpened 16 = .ok (.iaload, 1) := by decide +kernel
theorem dX6_isOpened_17 : decode cX6_isOpened 17 = .ok (.invokestatic 208, 3) := by decide +kernel
theorem dX6_isOpened_20 : decode cX6_isOpened 20 = .ok (.ifCond .ne 9, 3) := by decide +kernel
theorem dX6_isOpened_23 : decode cX6_isOpened 23 = .ok (.iinc 1 (-1), 3) := by decide +kernel
theorem dX6_isOpened_26 : decode cX6_isOpened 26 = .ok (.goto (-19), 3) := by decide +kernel
theorem dX6_isOpened_29 : decode cX6_isOpened 29 = .ok (.iload_n 1, 1) := by decide +kernel
theorem dX6_isOpened_30 : decode cX6_isOpened 30 = .ok (.ifCond .lt 7, 3) := by decide +kernel
theorem dX6_isOpened_33 : decode cX6_isOpened 33 = .ok (.iconst 1, 1) := by decide +kernel
theorem dX6_isOpened_34 : decode cX6_isOpened 34 = .ok (.goto 4, 3) := by decide +kernel
theorem dX6_isOpened_37 : decode cX6_isOpened 37 = .ok (.iconst 0, 1) := by decide +kernel
theorem dX6_isOpened_38 : decode cX6_isOpened 38 = .ok (.ireturn, 1) := by decide +kernel
theorem dX6_closes_0 : decode cX6_closes 0 = .ok (.aload_n 0, 1) := by decide +kernel
theorem dX6_closes_1 : decode cX6_closes 1 = .ok (.iconst 0, 1) := by decide +kernel
theorem dX6_closes_2 : decode cX6_closes 2 = .ok (.invokevirtual 236, 3) := by decide +kernel
theorem dX6_closes_5 : decode cX6_closes 5 = .ok (.aload_n 0, 1) := by decide +kernel
theorem dX6_closes_6 : decode cX6_closes 6 = .ok (.dup, 1) := by decide +kernel
theorem dX6_closes_7 : decode cX6_closes 7 = .ok (.getfield 205, 3) := by decide +kernel
theorem dX6_closes_10 : decode cX6_closes 10 = .ok (.iconst 1, 1) := by decide +kernel
theorem dX6_closes_11 : decode cX6_closes 11 = .ok (.isub, 1) := by decide +kernel
theorem dX6_closes_12 : decode cX6_closes 12 = .ok (.putfield 205, 3) := by decide +kernel
theorem dX6_closes_15 : decode cX6_closes 15 = .ok (.aload_n 0, 1) := by decide +kernel
theorem dX6_closes_16 : decode cX6_closes 16 = .ok (.dup, 1) := by decide +kernel
theorem dX6_closes_17 : decode cX6_closes 17 = .ok (.getfield 221, 3) := by decide +kernel
theorem dX6_closes_20 : decode cX6_closes 20 = .ok (.iconst 1, 1) := by decide +kernel
theorem dX6_closes_21 : decode cX6_closes 21 = .ok (.isub, 1) := by decide +kernel
theorem dX6_closes_22 : decode cX6_closes 22 = .ok (.putfield 221, 3) := by decide +kernel
theorem dX6_closes_25 : decode cX6_closes 25 = .ok (.aload_n 0, 1) := by decide +kernel
theorem dX6_closes_26 : decode cX6_closes 26 = .ok (.invokevirtual 192, 3) := by decide +kernel
theorem dX6_closes_29 : decode cX6_closes 29 = .ok (.return_, 1) := by decide +kernel
theorem dX6_expression_0 : decode cX6_expression 0 = .ok (.aload_n 0, 1) := by decide +kernel
theorem dX6_expression_1 : decode cX6_expression 1 = .ok (.invokevirtual 188, 3) := by decide +kernel
theorem dX6_expression_4 : decode cX6_expression 4 = .ok (.ifCond .ne 4, 3) := by decide +kernel
theorem dX6_expression_7 : decode cX6_expression 7 = .ok (.return_, 1) := by decide +kernel
theorem dX6_expression_8 : decode cX6_expression 8 = .ok (.aload_n 0, 1) := by decide +kernel
theorem dX6_expression_9 : decode cX6_expression 9 = .ok (.iconst 0, 1) := by decide +kernel
theorem dX6_expression_10 : decode cX6_expression 10 = .ok (.putfield 205, 3) := by decide +kernel
theorem dX6_expression_13 : decode cX6_expression 13 = .ok (.aload_n 0, 1) := by decide +kernel
theorem dX6_expression_14 : decode cX6_expression 14 = .ok (.iconst 0, 1) := by decide +kernel
theorem dX6_expression_15 : decode cX6_expression 15 = .ok (.putfield 221, 3) := by decide +kernel
theorem dX6_expression_18 : decode cX6_expression 18 = .ok (.aload_n 0, 1) := by decide +kernel
theorem dX6_expression_19 : decode cX6_expression 19 = .ok (.invokevirtual 230, 3) := by decide +kernel
theorem dX6_expression_22 : decode cX6_expression 22 = .ok (.aload_n 0, 1) := by decide +kernel
theorem dX6_expression_23 : decode cX6_expression 23 = .ok (.iconst 1, 1) := by decide +kernel
theorem dX6_expression_24 : decode cX6_expression 24 = .ok (.invokevirtual 239, 3) := by decide +kernel
theorem dX6_expression_27 : decode cX6_expression 27 = .ok (.iconst 1, 1) := by decide +kernel
theorem dX6_expression_28 : decode cX6_expression 28 = .ok (.istore_n 1, 1) := by decide +kernel
theorem dX6_expression_29 : decode cX6_expression 29 = .ok (.iload_n 1, 1) := by decide +kernel
theorem dX6_expression_30 : decode cX6_expression 30 = .ok (.ifCond .eq 295, 3) := by decide +kernel
theorem dX6_expression_33 : decode cX6_expression 33 = .ok (.aload_n 0, 1) := by decide +kernel
theorem dX6_expression_34 : decode cX6_expression 34 = .ok (.invokevirtual 188, 3) := by decide +kernel
theorem dX6_expression_37 : decode cX6_expression 37 = .ok (.ifCond .eq 288, 3) := by decide +kernel
theorem dX6_expression_40 : decode cX6_expression 40 = .ok (.aload_n 0, 1) := by decide +kernel
theorem dX6_expression_41 : decode cX6_expression 41 = .ok (.invokevirtual 217, 3) := by decide +kernel
theorem dX6_expression_44 : decode cX6_expression 44 = .ok (.istore_n 2, 1) := by decide +kernel
theorem dX6_expression_45 : decode cX6_expression 45 = .ok (.iload_n 2, 1) := by decide +kernel
theorem dX6_expression_46 : decode cX6_expression 46 = .ok (.bipush 14, 2) := by decide +kernel
theorem dX6_expression_48 : decode cX6_expression 48 = .ok (.if_icmp .eq 9, 3) := by decide +kernel
theorem dX6_expression_51 : decode cX6_expression 51 = .ok (.iload_n 2, 1) := by decide +kernel
theorem dX6_expression_52 : decode cX6_expression 52 = .ok (.bipush 15, 2) := by decide +kernel
theorem dX6_expression_54 : decode cX6_expression 54 = .ok (.if_icmp .ne 55, 3) := by decide +kernel
theorem dX6_expression_57 : decode cX6_expression 57 = .ok (.aload_n 0, 1) := by decide +kernel
theorem dX6_expression_58 : decode cX6_expression 58 = .ok (.iload_n 2, 1) := by decide +kernel
theorem dX6_expression_59 : decode cX6_expression 59 = .ok (.bipush 14, 2) := by decide +kernel
theorem dX6_expression_61 : decode cX6_expression 61 = .ok (.if_icmp .ne 7, 3) := by decide +kernel
theorem dX6_expression_64 : decode cX6_expression 64 = .ok (.iconst 2, 1) := by decide +kernel
theorem dX6_expression_65 : decode cX6_expression 65 = .ok (.goto 4, 3) := by decide +kernel
theorem dX6_expression_68 : decode cX6_expression 68 = .ok (.iconst 1, 1) := by decide +kernel
theorem dX6_expression_69 : decode cX6_expression 69 = .ok (.invokevirtual 236, 3) := by decide +kernel
theorem dX6_expression_72 : decode cX6_expression 72 = .ok (.aload_n 0, 1) := by decide +kernel
theorem dX6_expression_73 : decode cX6_expression 73 = .ok (.iload_n 2, 1) := by decide +kernel
theorem dX6_expression_74 : decode cX6_expression 74 = .ok (.bipush 14, 2) := by decide +kernel
theorem dX6_expression_76 : decode cX6_expression 76 = .ok (.if_icmp .ne 7, 3) := by decide +kernel
theorem dX6_expression_79 : decode cX6_expression 79 = .ok (.iconst 4, 1) := by decide +kernel
theorem dX6_expression_80 : decode cX6_expression 80 = .ok (.goto 4, 3) := by decide +kernel
theorem dX6_expression_83 : decode cX6_expression 83 = .ok (.iconst 5, 1) := by decide +kernel
theorem dX6_expression_84 : decode cX6_expression 84 = .ok (.invokevirtual 227, 3) := by decide +kernel
theorem dX6_expression_87 : decode cX6_expression 87 = .ok (.aload_n 0, 1) := by decide +kernel
theorem dX6_expression_88 : decode cX6_expression 88 = .ok (.getfield 71, 3) := by decide +kernel
theorem dX6_expression_91 : decode cX6_expression 91 = .ok (.aload_n 0, 1) := by decide +kernel
theorem dX6_expression_92 : decode cX6_expression 92 = .ok (.getfield 221, 3) := by decide +kernel
theorem dX6_expression_95 : decode cX6_expression 95 = .ok (.iconst 0, 1) := by decide +kernel
theorem dX6_expression_96 : decode cX6_expression 96 = .ok (.bastore, 1) := by decide +kernel
theorem dX6_expression_97 : decode cX6_expression 97 = .ok (.aload_n 0, 1) := by decide +kernel
theorem dX6_expression_98 : decode cX6_expression 98 = .ok (.invokevirtual 192, 3) := by decide +kernel
theorem dX6_expression_101 : decode cX6_expression 101 = .ok (.aload_n 0, 1) := by decide +kernel
theorem dX6_expression_102 : decode cX6_expression 102 = .ok (.iconst 1, 1) := by decide +kernel
theorem dX6_expression_103 : decode cX6_expression 103 = .ok (.invokevirtual 239, 3) := by decide +kernel
theorem dX6_expression_106 : decode cX6_expression 106 = .ok (.goto 216, 3) := by decide +kernel
theorem dX6_expression_109 : decode cX6_expression 109 = .ok (.aload_n 0, 1) := by decide +kernel
theorem dX6_expression_110 : decode cX6_expression 110 = .ok (.bipush 60, 2) := by decide +kernel
theorem dX6_expression_112 : decode cX6_expression 112 = .ok (.invokevirtual 224, 3) := by decide +kernel
theorem dX6_expression_115 : decode cX6_expression 115 = .ok (.ifCond .ne 12, 3) := by decide +kernel
theorem dX6_expression_118 : decode cX6_expression 118 = .ok (.aload_n 0, 1) := by decide +kernel
theorem dX6_expression_119 : decode cX6_expression 119 = .ok (.bipush 61, 2) := by decide +kernel
theorem dX6_expression_121 : decode cX6_expression 121 = .ok (.invokevirtual 224, 3) := by decide +kernel
theorem dX6_expression_124 : decode cX6_expression 124 = .ok (.ifCond .eq 62, 3) := by decide +kernel
theorem dX6_expression_127 : decode cX6_expression 127 = .ok (.aload_n 0, 1) := by decide +kernel
theorem dX6_expression_128 : decode cX6_expression 128 = .ok (.getfield 71, 3) := by decide +kernel
theorem dX6_expression_131 : decode cX6_expression 131 = .ok (.aload_n 0, 1) := by decide +kernel
theorem dX6_expression_132 : decode cX6_expression 132 = .ok (.getfield 221, 3) := by decide +kernel
theorem dX6_expression_135 : decode cX6_expression 135 = .ok (.baload, 1) := by decide +kernel
theorem dX6_expression_136 : decode cX6_expression 136 = .ok (.ifCond .ne 50, 3) := by decide +kernel
theorem dX6_expression_139 : decode cX6_expression 139 = .ok (.aload_n 0, 1) := by decide +kernel
theorem dX6_expression_140 : decode cX6_expression 140 = .ok (.iconst 4, 1) := by decide +kernel
theorem dX6_expression_141 : decode cX6_expression 141 = .ok (.invokevirtual 236, 3) := by decide +kernel
theorem dX6_expression_144 : decode cX6_expression 144 = .ok (.aload_n 0, 1) := by decide +kernel
theorem dX6_expression_145 : decode cX6_expression 145 = .ok (.aload_n 0, 1) := by decide +kernel
theorem dX6_expression_146 : decode cX6_expression 146 = .ok (.bipush 60, 2) := by decide +kernel
theorem dX6_expression_148 : decode cX6_expression 148 = .ok (.invokevirtual 224, 3) := by decide +kernel
theorem dX6_expression_151 : decode cX6_expression 151 = .ok (.ifCond .eq 8, 3) := by decide +kernel
theorem dX6_expression_154 : decode cX6_expression 154 = .ok (.bipush 6, 2) := by decide +kernel
theorem dX6_expression_156 : decode cX6_expression 156 = .ok (.goto 5, 3) := by decide +kernel
theorem dX6_expression_159 : decode cX6_expression 159 = .ok (.bipush 7, 2) := by decide +kernel
theorem dX6_expression_161 : decode cX6_expression 161 = .ok (.invokevirtual 227, 3) := by decide +kernel
theorem dX6_expression_164 : decode cX6_expression 164 = .ok (.aload_n 0, 1) := by decide +kernel
theorem dX6_expression_165 : decode cX6_expression 165 = .ok (.getfield 71, 3) := by decide +kernel
theorem dX6_expression_168 : decode cX6_expression 168 = .ok (.aload_n 0, 1) := by decide +kernel
theorem dX6_expression_169 : decode cX6_expression 169 = .ok (.getfield 221, 3) := by decide +kernel
theorem dX6_expression_172 : decode cX6_expression 172 = .ok (.iconst 1, 1) := by decide +kernel
theorem dX6_expression_173 : decode cX6_expression 173 = .ok (.bastore, 1) := by decide +kernel
theorem dX6_expression_174 : decode cX6_expression 174 = .ok (.aload_n 0, 1) := by decide +kernel
theorem dX6_expression_175 : decode cX6_expression 175 = .ok (.invokevirtual 192, 3) := by decide +kernel
theorem dX6_expression_178 : decode cX6_expression 178 = .ok (.aload_n 0, 1) := by decide +kernel
theorem dX6_expression_179 : decode cX6_expression 179 = .ok (.iconst 0, 1) := by decide +kernel
theorem dX6_expression_180 : decode cX6_expression 180 = .ok (.invokevirtual 239, 3) := by decide +kernel
theorem dX6_expression_183 : decode cX6_expression 183 = .ok (.goto 139, 3) := by decide +kernel
theorem dX6_expression_186 : decode cX6_expression 186 = .ok (.aload_n 0, 1) := by decide +kernel
theorem dX6_expression_187 : decode cX6_expression 187 = .ok (.bipush 43, 2) := by decide +kernel
theorem dX6_expression_189 : decode cX6_expression 189 = .ok (.invokevirtual 224, 3) := by decide +kernel
theorem dX6_expression_192 : decode cX6_expression 192 = .ok (.ifCond .ne 12, 3) := by decide +kernel
theorem dX6_expression_195 : decode cX6_expression 195 = .ok (.aload_n 0, 1) := by decide +kernel
theorem dX6_expression_196 : decode cX6_expression 196 = .ok (.bipush 45, 2) := by decide +kernel
theorem dX6_expression_198 : decode cX6_expression 198 = .ok (.invokevirtual 224, 3) := by decide +kernel
theorem dX6_expression_201 : decode cX6_expression 201 = .ok (.ifCond .eq 40, 3) := by decide +kernel
theorem dX6_expression_204 : decode cX6_expression 204 = .ok (.aload_n 0, 1) := by decide +kernel
theorem dX6_expression_205 : decode cX6_expression 205 = .ok (.iconst 5, 1) := by decide +kernel
theorem dX6_expression_206 : decode cX6_expression 206 = .ok (.invokevirtual 236, 3) := by decide +kernel
theorem dX6_expression_209 : decode cX6_expression 209 = .ok (.aload_n 0, 1) := by decide +kernel
theorem dX6_expression_210 : decode cX6_expression 210 = .ok (.aload_n 0, 1) := by decide +kernel
theorem dX6_expression_211 : decode cX6_expression 211 = .ok (.bipush 43, 2) := by decide +kernel
theorem dX6_expression_213 : decode cX6_expression 213 = .ok (.invokevirtual 224, 3) := by decide +kernel
theorem dX6_expression_216 : decode cX6_expression 216 = .ok (.ifCond .eq 8, 3) := by decide +kernel
theorem dX6_expression_219 : decode cX6_expression 219 = .ok (.bipush 8, 2) := by decide +kernel
theorem dX6_expression_221 : decode cX6_expression 221 = .ok (.goto 5, 3) := by decide +kernel
theorem dX6_expression_224 : decode cX6_expression 224 = .ok (.bipush 9, 2) := by decide +kernel
theorem dX6_expression_226 : decode cX6_expression 226 = .ok (.invokevirtual 227, 3) := by decide +kernel
theorem dX6_expression_229 : decode cX6_expression 229 = .ok (.aload_n 0, 1) := by decide +kernel
theorem dX6_expression_230 : decode cX6_expression 230 = .ok (.invokevirtual 192, 3) := by decide +kernel
theorem dX6_expression_233 : decode cX6_expression 233 = .ok (.aload_n 0, 1) := by decide +kernel
theorem dX6_expression_234 : decode cX6_expression 234 = .ok (.iconst 0, 1) := by decide +kernel
theorem dX6_expression_235 : decode cX6_expression 235 = .ok (.invokevirtual 239, 3) := by decide +kernel
theorem dX6_expression_238 : decode cX6_expression 238 = .ok (.goto 84, 3) := by decide +kernel
theorem dX6_expression_241 : decode cX6_expression 241 = .ok (.aload_n 0, 1) := by decide +kernel
theorem dX6_expression_242 : decode cX6_expression 242 = .ok (.bipush 42, 2) := by decide +kernel
theorem dX6_expression_244 : decode cX6_expression 244 = .ok (.invokevirtual 224, 3) := by decide +kernel
theorem dX6_expression_247 : decode cX6_expression 247 = .ok (.ifCond .ne 12, 3) := by decide +kernel
theorem dX6_expression_250 : decode cX6_expression 250 = .ok (.aload_n 0, 1) := by decide +kernel
theorem dX6_expression_251 : decode cX6_expression 251 = .ok (.bipush 47, 2) := by decide +kernel
theorem dX6_expression_253 : decode cX6_expression 253 = .ok (.invokevirtual 224, 3) := by decide +kernel
theorem dX6_expression_256 : decode cX6_expression 256 = .ok (.ifCond .eq 41, 3) := by decide +kernel
theorem dX6_expression_259 : decode cX6_expression 259 = .ok (.aload_n 0, 1) := by decide +kernel
theorem dX6_expression_260 : decode cX6_expression 260 = .ok (.bipush 6, 2) := by decide +kernel
theorem dX6_expression_262 : decode cX6_expression 262 = .ok (.invokevirtual 236, 3) := by decide +kernel
theorem dX6_expression_265 : decode cX6_expression 265 = .ok (.aload_n 0, 1) := by decide +kernel
theorem dX6_expression_266 : decode cX6_expression 266 = .ok (.aload_n 0, 1) := by decide +kernel
theorem dX6_expression_267 : decode cX6_expression 267 = .ok (.bipush 42, 2) := by decide +kernel
theorem dX6_expression_269 : decode cX6_expression 269 = .ok (.invokevirtual 224, 3) := by decide +kernel
theorem dX6_expression_272 : decode cX6_expression 272 = .ok (.ifCond .eq 8, 3) := by decide +kernel
theorem dX6_expression_275 : decode cX6_expression 275 = .ok (.bipush 10, 2) := by decide +kernel
theorem dX6_expression_277 : decode cX6_expression 277 = .ok (.goto 5, 3) := by decide +kernel
theorem dX6_expression_280 : decode cX6_expression 280 = .ok (.bipush 11, 2) := by decide +kernel
theorem dX6_expression_282 : decode cX6_expression 282 = .ok (.invokevirtual 227, 3) := by decide +kernel
theorem dX6_expression_285 : decode cX6_expression 285 = .ok (.aload_n 0, 1) := by decide +kernel
theorem dX6_expression_286 : decode cX6_expression 286 = .ok (.invokevirtual 192, 3) := by decide +kernel
theorem dX6_expression_289 : decode cX6_expression 289 = .ok (.aload_n 0, 1) := by decide +kernel
theorem dX6_expression_290 : decode cX6_expression 290 = .ok (.iconst 0, 1) := by decide +kernel
theorem dX6_expression_291 : decode cX6_expression 291 = .ok (.invokevirtual 239, 3) := by decide +kernel
theorem dX6_expression_294 : decode cX6_expression 294 = .ok (.goto 28, 3) := by decide +kernel
theorem dX6_expression_297 : decode cX6_expression 297 = .ok (.aload_n 0, 1) := by decide +kernel
theorem dX6_expression_298 : decode cX6_expression 298 = .ok (.bipush 41, 2) := by decide +kernel
theorem dX6_expression_300 : decode cX6_expression 300 = .ok (.invokevirtual 224, 3) := by decide +kernel
theorem dX6_expression_303 : decode cX6_expression 303 = .ok (.ifCond .eq 17, 3) := by decide +kernel
theorem dX6_expression_306 : decode cX6_expression 306 = .ok (.aload_n 0, 1) := by decide +kernel
theorem dX6_expression_307 : decode cX6_expression 307 = .ok (.invokevirtual 243, 3) := by decide +kernel
theorem dX6_expression_310 : decode cX6_expression 310 = .ok (.ifCond .eq 10, 3) := by decide +kernel
theorem dX6_expression_313 : decode cX6_expression 313 = .ok (.aload_n 0, 1) := by decide +kernel
theorem dX6_expression_314 : decode cX6_expression 314 = .ok (.invokevirtual 246, 3) := by decide +kernel
theorem dX6_expression_317 : decode cX6_expression 317 = .ok (.goto 5, 3) := by decide +kernel
theorem dX6_expression_320 : decode cX6_expression 320 = .ok (.iconst 0, 1) := by decide +kernel
theorem dX6_expression_321 : decode cX6_expression 321 = .ok (.istore_n 1, 1) := by decide +kernel
theorem dX6_expression_322 : decode cX6_expression 322 = .ok (.goto (-293), 3) := by decide +kernel
theorem dX6_expression_325 : decode cX6_expression 325 = .ok (.aload_n 0, 1) := by decide +kernel
theorem dX6_expression_326 : decode cX6_expression 326 = .ok (.invokevirtual 188, 3) := by decide +kernel
theorem dX6_expression_329 : decode cX6_expression 329 = .ok (.ifCond .eq 16, 3) := by decide +kernel
theorem dX6_expression_332 : decode cX6_expression 332 = .ok (.aload_n 0, 1) := by decide +kernel
theorem dX6_expression_333 : decode cX6_expression 333 = .ok (.getfield 221, 3) := by decide +kernel
theorem dX6_expression_336 : decode cX6_expression 336 = .ok (.iconst 1, 1) := by decide +kernel
theorem dX6_expression_337 : decode cX6_expression 337 = .ok (.if_icmp .le 8, 3) := by decide +kernel
theorem dX6_expression_340 : decode cX6_expression 340 = .ok (.aload_n 0, 1) := by decide +kernel
theorem dX6_expression_341 : decode cX6_expression 341 = .ok (.iconst 1, 1) := by decide +kernel
theorem dX6_expression_342 : decode cX6_expression 342 = .ok (.invokevirtual 195, 3) := by decide +kernel
theorem dX6_expression_345 : decode cX6_expression 345 = .ok (.aload_n 0, 1) := by decide +kernel
theorem dX6_expression_346 : decode cX6_expression 346 = .ok (.iconst 0, 1) := by decide +kernel
theorem dX6_expression_347 : decode cX6_expression 347 = .ok (.invokevirtual 236, 3) := by decide +kernel
theorem dX6_expression_350 : decode cX6_expression 350 = .ok (.aload_n 0, 1) := by decide +kernel
theorem dX6_expression_351 : decode cX6_expression 351 = .ok (.iconst 0, 1) := by decide +kernel
theorem dX6_expression_352 : decode cX6_expression 352 = .ok (.invokevirtual 214, 3) := by decide +kernel
theorem dX6_expression_355 : decode cX6_expression 355 = .ok (.return_, 1) := by decide +kernel
theorem dX6_cellNext_0 : decode cX6_cellNext 0 = .ok (.aload_n 0, 1) := by decide +kernel
theorem dX6_cellNext_1 : decode cX6_cellNext 1 = .ok (.iconst 0, 1) := by decide +kernel
theorem dX6_cellNext_2 : decode cX6_cellNext 2 = .ok (.aload_n 0, 1) := by decide +kernel
theorem dX6_cellNext_3 : decode cX6_cellNext 3 = .ok (.getfield 249, 3) := by decide +kernel
theorem dX6_cellNext_6 : decode cX6_cellNext 6 = .ok (.iconst 1, 1) := by decide +kernel
theorem dX6_cellNext_7 : decode cX6_cellNext 7 = .ok (.isub, 1) := by decide +kernel
theorem dX6_cellNext_8 : decode cX6_cellNext 8 = .ok (.invokevirtual 252, 3) := by decide +kernel
theorem dX6_cellNext_11 : decode cX6_cellNext 11 = .ok (.istore_n 3, 1) := by decide +kernel
theorem dX6_cellNext_12 : decode cX6_cellNext 12 = .ok (.aload_n 0, 1) := by decide +kernel
theorem dX6_cellNext_13 : decode cX6_cellNext 13 = .ok (.iconst 0, 1) := by decide +kernel
theorem dX6_cellNext_14 : decode cX6_cellNext 14 = .ok (.aload_n 0, 1) := by decide +kernel
theorem dX6_cellNext_15 : decode cX6_cellNext 15 = .ok (.getfield 256, 3) := by decide +kernel
theorem dX6_cellNext_18 : decode cX6_cellNext 18 = .ok (.iconst 1, 1) := by decide +kernel
theorem dX6_cellNext_19 : decode cX6_cellNext 19 = .ok (.isub, 1) := by decide +kernel
theorem dX6_cellNext_20 : decode cX6_cellNext 20 = .ok (.invokevirtual 198, 3) := by decide +kernel
theorem dX6_cellNext_23 : decode cX6_cellNext 23 = .ok (.ifCond .ne 5, 3) := by decide +kernel
theorem dX6_cellNext_26 : decode cX6_cellNext 26 = .ok (.iconst 0, 1) := by decide +kernel
theorem dX6_cellNext_27 : decode cX6_cellNext 27 = .ok (.ireturn, 1) := by decide +kernel
theorem dX6_cellNext_28 : decode cX6_cellNext 28 = .ok (.aload_n 0, 1) := by decide +kernel
theorem dX6_cellNext_29 : decode cX6_cellNext 29 = .ok (.getfield 249, 3) := by decide +kernel
theorem dX6_cellNext_32 : decode cX6_cellNext 32 = .ok (.aload_n 0, 1) := by decide +kernel
theorem dX6_cellNext_33 : decode cX6_cellNext 33 = .ok (.getfield 156, 3) := by decide +kernel
theorem dX6_cellNext_36 : decode cX6_cellNext 36 = .ok (.imul, 1) := by decide +kernel
theorem dX6_cellNext_37 : decode cX6_cellNext 37 = .ok (.iload_n 3, 1) := by decide +kernel
theorem dX6_cellNext_38 : decode cX6_cellNext 38 = .ok (.iadd, 1) := by decide +kernel
theorem dX6_cellNext_39 : decode cX6_cellNext 39 = .ok (.istore 4, 2) := by decide +kernel
theorem dX6_cellNext_41 : decode cX6_cellNext 41 = .ok (.lload_n 1, 1) := by decide +kernel
theorem dX6_cellNext_42 : decode cX6_cellNext 42 = .ok (.iload 4, 2) := by decide +kernel
theorem dX6_cellNext_44 : decode cX6_cellNext 44 = .ok (.lshr, 1) := by decide +kernel
theorem dX6_cellNext_45 : decode cX6_cellNext 45 = .ok (.lconst 1, 1) := by decide +kernel
theorem dX6_cellNext_46 : decode cX6_cellNext 46 = .ok (.land, 1) := by decide +kernel
theorem dX6_cellNext_47 : decode cX6_cellNext 47 = .ok (.lconst 1, 1) := by decide +kernel
theorem dX6_cellNext_48 : decode cX6_cellNext 48 = .ok (.lcmp, 1) := by decide +kernel
theorem dX6_cellNext_49 : decode cX6_cellNext 49 = .ok (.ifCond .ne 8, 3) := by decide +kernel
theorem dX6_cellNext_52 : decode cX6_cellNext 52 = .ok (.aload_n 0, 1) := by decide +kernel
theorem dX6_cellNext_53 : decode cX6_cellNext 53 = .ok (.iconst 4, 1) := by decide +kernel
theorem dX6_cellNext_54 : decode cX6_cellNext 54 = .ok (.invokevirtual 195, 3) := by decide +kernel
theorem dX6_cellNext_57 : decode cX6_cellNext 57 = .ok (.aload_n 0, 1) := by decide +kernel
theorem dX6_cellNext_58 : decode cX6_cellNext 58 = .ok (.invokevirtual 188, 3) := by decide +kernel
theorem dX6_cellNext_61 : decode cX6_cellNext 61 = .ok (.ifCond .eq 7, 3) := by decide +kernel
theorem dX6_cellNext_64 : decode cX6_cellNext 64 = .ok (.aload_n 0, 1) := by decide +kernel
theorem dX6_cellNext_65 : decode cX6_cellNext 65 = .ok (.invokevirtual 192, 3) := by decide +kernel
theorem dX6_cellNext_68 : decode cX6_cellNext 68 = .ok (.iload 4, 2) := by decide +kernel
theorem dX6_cellNext_70 : decode cX6_cellNext 70 = .ok (.ireturn, 1) := by decide +kernel
theorem dX6_readsFogs_0 : decode cX6_readsFogs 0 = .ok (.aload_n 0, 1) := by decide +kernel
theorem dX6_readsFogs_1 : decode cX6_readsFogs 1 = .ok (.getfield 259, 3) := by decide +kernel
theorem dX6_readsFogs_4 : decode cX6_readsFogs 4 = .ok (.ifCond .le 8, 3) := by decide +kernel
theorem dX6_readsFogs_7 : decode cX6_readsFogs 7 = .ok (.aload_n 0, 1) := by decide +kernel
theorem dX6_readsFogs_8 : decode cX6_readsFogs 8 = .ok (.iconst 5, 1) := by decide +kernel
theorem dX6_readsFogs_9 : decode cX6_readsFogs 9 = .ok (.invokevirtual 195, 3) := by decide +kernel
theorem dX6_readsFogs_12 : decode cX6_readsFogs 12 = .ok (.aload_n 0, 1) := by decide +kernel
theorem dX6_readsFogs_13 : decode cX6_readsFogs 13 = .ok (.invokevirtual 188, 3) := by decide +kernel
theorem dX6_readsFogs_16 : decode cX6_readsFogs 16 = .ok (.ifCond .ne 4, 3) := by decide +kernel
theorem dX6_readsFogs_19 : decode cX6_readsFogs 19 = .ok (.return_, 1) := by decide +kernel
theorem dX6_readsFogs_20 : decode cX6_readsFogs 20 = .ok (.aload_n 0, 1) := by decide +kernel
theorem dX6_readsFogs_21 : decode cX6_readsFogs 21 = .ok (.invokevirtual 192, 3) := by decide +kernel
theorem dX6_readsFogs_24 : decode cX6_readsFogs 24 = .ok (.iconst 1, 1) := by decide +kernel
theorem dX6_readsFogs_25 : decode cX6_readsFogs 25 = .ok (.istore_n 1, 1) := by decide +kernel
theorem dX6_readsFogs_26 : decode cX6_readsFogs 26 = .ok (.iload_n 1, 1) := by decide +kernel
theorem dX6_readsFogs_27 : decode cX6_readsFogs 27 = .ok (.ifCond .eq 85, 3) := by decide +kernel
theorem dX6_readsFogs_30 : decode cX6_readsFogs 30 = .ok (.aload_n 0, 1) := by decide +kernel
theorem dX6_readsFogs_31 : decode cX6_readsFogs 31 = .ok (.invokevirtual 188, 3) := by decide +kernel
theorem dX6_readsFogs_34 : decode cX6_readsFogs 34 = .ok (.ifCond .eq 78, 3) := by decide +kernel
theorem dX6_readsFogs_37 : decode cX6_readsFogs 37 = .ok (.aload_n 0, 1) := by decide +kernel
theorem dX6_readsFogs_38 : decode cX6_readsFogs 38 = .ok (.getfield 259, 3) := by decide +kernel
theorem dX6_readsFogs_41 : decode cX6_readsFogs 41 = .ok (.bipush 8, 2) := by decide +kernel
theorem dX6_readsFogs_43 : decode cX6_readsFogs 43 = .ok (.if_icmp .ne 16, 3) := by decide +kernel
theorem dX6_readsFogs_46 : decode cX6_readsFogs 46 = .ok (.aload_n 0, 1) := by decide +kernel
theorem dX6_readsFogs_47 : decode cX6_readsFogs 47 = .ok (.getfield 162, 3) := by decide +kernel
theorem dX6_readsFogs_50 : decode cX6_readsFogs 50 = .ok (.iconst 2, 1) := by decide +kernel
theorem dX6_readsFogs_51 : decode cX6_readsFogs 51 = .ok (.if_icmp .ne 8, 3) := by decide +kernel
theorem dX6_readsFogs_54 : decode cX6_readsFogs 54 = .ok (.aload_n 0, 1) := by decide +kernel
theorem dX6_readsFogs_55 : decode cX6_readsFogs 55 = .ok (.iconst 2, 1) := by decide +kernel
theorem dX6_readsFogs_56 : decode cX6_readsFogs 56 = .ok (.invokevirtual 195, 3) := by decide +kernel
theorem dX6_readsFogs_59 : decode cX6_readsFogs 59 = .ok (.aload_n 0, 1) := by decide +kernel
theorem dX6_readsFogs_60 : decode cX6_readsFogs 60 = .ok (.iconst 1, 1) := by decide +kernel
theorem dX6_readsFogs_61 : decode cX6_readsFogs 61 = .ok (.bipush 9, 2) := by decide +kernel
theorem dX6_readsFogs_63 : decode cX6_readsFogs 63 = .ok (.invokevirtual 252, 3) := by decide +kernel
theorem dX6_readsFogs_66 : decode cX6_readsFogs 66 = .ok (.istore_n 2, 1) := by decide +kernel
theorem dX6_readsFogs_67 : decode cX6_readsFogs 67 = .ok (.aload_n 0, 1) := by decide +kernel
theorem dX6_readsFogs_68 : decode cX6_readsFogs 68 = .ok (.invokevirtual 188, 3) := by decide +kernel
theorem dX6_readsFogs_71 : decode cX6_readsFogs 71 = .ok (.ifCond .ne 4, 3) := by decide +kernel
theorem dX6_readsFogs_74 : decode cX6_readsFogs 74 = .ok (.return_, 1) := by decide +kernel
theorem dX6_readsFogs_75 : decode cX6_readsFogs 75 = .ok (.aload_n 0, 1) := by decide +kernel
theorem dX6_readsFogs_76 : decode cX6_readsFogs 76 = .ok (.getfield 59, 3) := by decide +kernel
theorem dX6_readsFogs_79 : decode cX6_readsFogs 79 = .ok (.aload_n 0, 1) := by decide +kernel
theorem dX6_readsFogs_80 : decode cX6_readsFogs 80 = .ok (.getfield 259, 3) := by decide +kernel
theorem dX6_readsFogs_83 : decode cX6_readsFogs 83 = .ok (.iload_n 2, 1) := by decide +kernel
theorem dX6_readsFogs_84 : decode cX6_readsFogs 84 = .ok (.iastore, 1) := by decide +kernel
theorem dX6_readsFogs_85 : decode cX6_readsFogs 85 = .ok (.aload_n 0, 1) := by decide +kernel
theorem dX6_readsFogs_86 : decode cX6_readsFogs 86 = .ok (.dup, 1) := by decide +kernel
theorem dX6_readsFogs_87 : decode cX6_readsFogs 87 = .ok (.getfield 259, 3) := by decide +kernel
theorem dX6_readsFogs_90 : decode cX6_readsFogs 90 = .ok (.iconst 1, 1) := by decide +kernel
theorem dX6_readsFogs_91 : decode cX6_readsFogs 91 = .ok (.iadd, 1) := by decide +kernel
theorem dX6_readsFogs_92 : decode cX6_readsFogs 92 = .ok (.putfield 259, 3) := by decide +kernel
theorem dX6_readsFogs_95 : decode cX6_readsFogs 95 = .ok (.aload_n 0, 1) := by decide +kernel
theorem dX6_readsFogs_96 : decode cX6_readsFogs 96 = .ok (.getfield 162, 3) := by decide +kernel
theorem dX6_readsFogs_99 : decode cX6_readsFogs 99 = .ok (.iconst 2, 1) := by decide +kernel
theorem dX6_readsFogs_100 : decode cX6_readsFogs 100 = .ok (.if_icmp .ne 7, 3) := by decide +kernel
theorem dX6_readsFogs_103 : decode cX6_readsFogs 103 = .ok (.iconst 1, 1) := by decide +kernel
theorem dX6_readsFogs_104 : decode cX6_readsFogs 104 = .ok (.goto 4, 3) := by decide +kernel
theorem dX6_readsFogs_107 : decode cX6_readsFogs 107 = .ok (.iconst 0, 1) := by decide +kernel
theorem dX6_readsFogs_108 : decode cX6_readsFogs 108 = .ok (.istore_n 1, 1) := by decide +kernel
theorem dX6_readsFogs_109 : decode cX6_readsFogs 109 = .ok (.goto (-83), 3) := by decide +kernel
theorem dX6_readsFogs_112 : decode cX6_readsFogs 112 = .ok (.return_, 1) := by decide +kernel
theorem dX6_line_0 : decode cX6_line 0 = .ok (.aload_n 0, 1) := by decide +kernel
theorem dX6_line_1 : decode cX6_line 1 = .ok (.invokevirtual 217, 3) := by decide +kernel
theorem dX6_line_4 : decode cX6_line 4 = .ok (.istore_n 1, 1) := by decide +kernel
theorem dX6_line_5 : decode cX6_line 5 = .ok (.iload_n 1, 1) := by decide +kernel
theorem dX6_line_6 : decode cX6_line 6 = .ok (.iconst 2, 1) := by decide +kernel
theorem dX6_line_7 : decode cX6_line 7 = .ok (.if_icmp .ne 54, 3) := by decide +kernel
theorem dX6_line_10 : decode cX6_line 10 = .ok (.aload_n 0, 1) := by decide +kernel
theorem dX6_line_11 : decode cX6_line 11 = .ok (.invokevirtual 192, 3) := by decide +kernel
theorem dX6_line_14 : decode cX6_line 14 = .ok (.aload_n 0, 1) := by decide +kernel
theorem dX6_line_15 : decode cX6_line 15 = .ok (.aload_n 0, 1) := by decide +kernel
theorem dX6_line_16 : decode cX6_line 16 = .ok (.getfield 262, 3) := by decide +kernel
theorem dX6_line_19 : decode cX6_line 19 = .ok (.invokevirtual 265, 3) := by decide +kernel
theorem dX6_line_22 : decode cX6_line 22 = .ok (.istore_n 2, 1) := by decide +kernel
theorem dX6_line_23 : decode cX6_line 23 = .ok (.aload_n 0, 1) := by decide +kernel
theorem dX6_line_24 : decode cX6_line 24 = .ok (.iconst 0, 1) := by decide +kernel
theorem dX6_line_25 : decode cX6_line 25 = .ok (.bipush 9, 2) := by decide +kernel
theorem dX6_line_27 : decode cX6_line 27 = .ok (.invokevirtual 252, 3) := by decide +kernel
theorem dX6_line_30 : decode cX6_line 30 = .ok (.istore_n 3, 1) := by decide +kernel
theorem dX6_line_31 : decode cX6_line 31 = .ok (.aload_n 0, 1) := by decide +kernel
theorem dX6_line_32 : decode cX6_line 32 = .ok (.invokevirtual 188, 3) := by decide +kernel
theorem dX6_line_35 : decode cX6_line 35 = .ok (.ifCond .ne 4, 3) := by decide +kernel
theorem dX6_line_38 : decode cX6_line 38 = .ok (.return_, 1) := by decide +kernel
theorem dX6_line_39 : decode cX6_line 39 = .ok (.aload_n 0, 1) := by decide +kernel
theorem dX6_line_40 : decode cX6_line 40 = .ok (.dup, 1) := by decide +kernel
theorem dX6_line_41 : decode cX6_line 41 = .ok (.getfield 262, 3) := by decide +kernel
theorem dX6_line_44 : decode cX6_line 44 = .ok (.lconst 1, 1) := by decide +kernel
theorem dX6_line_45 : decode cX6_line 45 = .ok (.iload_n 2, 1) := by decide +kernel
theorem dX6_line_46 : decode cX6_line 46 = .ok (.lshl, 1) := by decide +kernel
theorem dX6_line_47 : decode cX6_line 47 = .ok (.lor, 1) := by decide +kernel
theorem dX6_line_48 : decode cX6_line 48 = .ok (.putfield 262, 3) := by decide +kernel
theorem dX6_line_51 : decode cX6_line 51 = .ok (.aload_n 0, 1) := by decide +kernel
theorem dX6_line_52 : decode cX6_line 52 = .ok (.getfield 44, 3) := by decide +kernel
theorem dX6_line_55 : decode cX6_line 55 = .ok (.iload_n 2, 1) := by decide +kernel
theorem dX6_line_56 : decode cX6_line 56 = .ok (.iload_n 3, 1) := by decide +kernel
theorem dX6_line_57 : decode cX6_line 57 = .ok (.iastore, 1) := by decide +kernel
theorem dX6_line_58 : decode cX6_line 58 = .ok (.goto 340, 3) := by decide +kernel
theorem dX6_line_61 : decode cX6_line 61 = .ok (.iload_n 1, 1) := by decide +kernel
theorem dX6_line_62 : decode cX6_line 62 = .ok (.bipush 11, 2) := by decide +kernel
theorem dX6_line_64 : decode cX6_line 64 = .ok (.if_icmp .ne 135, 3) := by decide +kernel
theorem dX6_line_67 : decode cX6_line 67 = .ok (.aload_n 0, 1) := by decide +kernel
theorem dX6_line_68 : decode cX6_line 68 = .ok (.getfield 269, 3) := by decide +kernel
theorem dX6_line_71 : decode cX6_line 71 = .ok (.bipush 12, 2) := by decide +kernel
theorem dX6_line_73 : decode cX6_line 73 = .ok (.if_icmp .ne 8, 3) := by decide +kernel
theorem dX6_line_76 : decode cX6_line 76 = .ok (.aload_n 0, 1) := by decide +kernel
theorem dX6_line_77 : decode cX6_line 77 = .ok (.iconst 2, 1) := by decide +kernel
theorem dX6_line_78 : decode cX6_line 78 = .ok (.invokevirtual 195, 3) := by decide +kernel
theorem dX6_line_81 : decode cX6_line 81 = .ok (.aload_n 0, 1) := by decide +kernel
theorem dX6_line_82 : decode cX6_line 82 = .ok (.invokevirtual 188, 3) := by decide +kernel
theorem dX6_line_85 : decode cX6_line 85 = .ok (.ifCond .ne 4, 3) := by decide +kernel
theorem dX6_line_88 : decode cX6_line 88 = .ok (.return_, 1) := by decide +kernel
theorem dX6_line_89 : decode cX6_line 89 = .ok (.aload_n 0, 1) := by decide +kernel
theorem dX6_line_90 : decode cX6_line 90 = .ok (.invokevirtual 192, 3) := by decide +kernel
theorem dX6_line_93 : decode cX6_line 93 = .ok (.aload_n 0, 1) := by decide +kernel
theorem dX6_line_94 : decode cX6_line 94 = .ok (.aload_n 0, 1) := by decide +kernel
theorem dX6_line_95 : decode cX6_line 95 = .ok (.getfield 272, 3) := by decide +kernel
theorem dX6_line_98 : decode cX6_line 98 = .ok (.invokevirtual 265, 3) := by decide +kernel
theorem dX6_line_101 : decode cX6_line 101 = .ok (.istore_n 2, 1) := by decide +kernel
theorem dX6_line_102 : decode cX6_line 102 = .ok (.aload_n 0, 1) := by decide +kernel
theorem dX6_line_103 : decode cX6_line 103 = .ok (.getfield 47, 3) := by decide +kernel
theorem dX6_line_106 : decode cX6_line 106 = .ok (.iconst 3, 1) := by decide +kernel
theorem dX6_line_107 : decode cX6_line 107 = .ok (.aload_n 0, 1) := by decide +kernel
theorem dX6_line_108 : decode cX6_line 108 = .ok (.getfield 269, 3) := by decide +kernel
theorem dX6_line_111 : decode cX6_line 111 = .ok (.imul, 1) := by decide +kernel
theorem dX6_line_112 : decode cX6_line 112 = .ok (.iload_n 2, 1) := by decide +kernel
theorem dX6_line_113 : decode cX6_line 113 = .ok (.iastore, 1) := by decide +kernel
theorem dX6_line_114 : decode cX6_line 114 = .ok (.aload_n 0, 1) := by decide +kernel
theorem dX6_line_115 : decode cX6_line 115 = .ok (.getfield 47, 3) := by decide +kernel
theorem dX6_line_118 : decode cX6_line 118 = .ok (.iconst 3, 1) := by decide +kernel
theorem dX6_line_119 : decode cX6_line 119 = .ok (.aload_n 0, 1) := by decide +kernel
theorem dX6_line_120 : decode cX6_line 120 = .ok (.getfield 269, 3) := by decide +kernel
theorem dX6_line_123 : decode cX6_line 123 = .ok (.imul, 1) := by decide +kernel
theorem dX6_line_124 : decode cX6_line 124 = .ok (.iconst 1, 1) := by decide +kernel
theorem dX6_line_125 : decode cX6_line 125 = .ok (.iadd, 1) := by decide +kernel
theorem dX6_line_126 : decode cX6_line 126 = .ok (.aload_n 0, 1) := by decide +kernel
theorem dX6_line_127 : decode cX6_line 127 = .ok (.iconst 1, 1) := by decide +kernel
theorem dX6_line_128 : decode cX6_line 128 = .ok (.bipush 9, 2) := by decide +kernel
theorem dX6_line_130 : decode cX6_line 130 = .ok (.invokevirtual 252, 3) := by decide +kernel
theorem dX6_line_133 : decode cX6_line 133 = .ok (.iastore, 1) := by decide +kernel
theorem dX6_line_134 : decode cX6_line 134 = .ok (.aload_n 0, 1) := by decide +kernel
theorem dX6_line_135 : decode cX6_line 135 = .ok (.getfield 47, 3) := by decide +kernel
theorem dX6_line_138 : decode cX6_line 138 = .ok (.iconst 3, 1) := by decide +kernel
theorem dX6_line_139 : decode cX6_line 139 = .ok (.aload_n 0, 1) := by decide +kernel
theorem dX6_line_140 : decode cX6_line 140 = .ok (.getfield 269, 3) := by decide +kernel
theorem dX6_line_143 : decode cX6_line 143 = .ok (.imul, 1) := by decide +kernel
theorem dX6_line_144 : decode cX6_line 144 = .ok (.iconst 2, 1) := by decide +kernel
theorem dX6_line_145 : decode cX6_line 145 = .ok (.iadd, 1) := by decide +kernel
theorem dX6_line_146 : decode cX6_line 146 = .ok (.aload_n 0, 1) := by decide +kernel
theorem dX6_line_147 : decode cX6_line 147 = .ok (.aload_n 0, 1) := by decide +kernel
theorem dX6_line_148 : decode cX6_line 148 = .ok (.getfield 47, 3) := by decide +kernel
theorem dX6_line_151 : decode cX6_line 151 = .ok (.iconst 3, 1) := by decide +kernel
theorem dX6_line_152 : decode cX6_line 152 = .ok (.aload_n 0, 1) := by decide +kernel
theorem dX6_line_153 : decode cX6_line 153 = .ok (.getfield 269, 3) := by decide +kernel
theorem dX6_line_156 : decode cX6_line 156 = .ok (.imul, 1) := by decide +kernel
theorem dX6_line_157 : decode cX6_line 157 = .ok (.iconst 1, 1) := by decide +kernel
theorem dX6_line_158 : decode cX6_line 158 = .ok (.iadd, 1) := by decide +kernel
theorem dX6_line_159 : decode cX6_line 159 = .ok (.iaload, 1) := by decide +kernel
theorem dX6_line_160 : decode cX6_line 160 = .ok (.bipush 9, 2) := by decide +kernel
theorem dX6_line_162 : decode cX6_line 162 = .ok (.invokevirtual 252, 3) := by decide +kernel
theorem dX6_line_165 : decode cX6_line 165 = .ok (.iastore, 1) := by decide +kernel
theorem dX6_line_166 : decode cX6_line 166 = .ok (.aload_n 0, 1) := by decide +kernel
theorem dX6_line_167 : decode cX6_line 167 = .ok (.invokevirtual 188, 3) := by decide +kernel
theorem dX6_line_170 : decode cX6_line 170 = .ok (.ifCond .ne 4, 3) := by decide +kernel
theorem dX6_line_173 : decode cX6_line 173 = .ok (.return_, 1) := by decide +kernel
theorem dX6_line_174 : decode cX6_line 174 = .ok (.aload_n 0, 1) := by decide +kernel
theorem dX6_line_175 : decode cX6_line 175 = .ok (.dup, 1) := by decide +kernel
theorem dX6_line_176 : decode cX6_line 176 = .ok (.getfield 272, 3) := by decide +kernel
theorem dX6_line_179 : decode cX6_line 179 = .ok (.lconst 1, 1) := by decide +kernel
theorem dX6_line_180 : decode cX6_line 180 = .ok (.iload_n 2, 1) := by decide +kernel
theorem dX6_line_181 : decode cX6_line 181 = .ok (.lshl, 1) := by decide +kernel
theorem dX6_line_182 : decode cX6_line 182 = .ok (.lor, 1) := by decide +kernel
theorem dX6_line_183 : decode cX6_line 183 = .ok (.putfield 272, 3) := by decide +kernel
theorem dX6_line_186 : decode cX6_line 186 = .ok (.aload_n 0, 1) := by decide +kernel
theorem dX6_line_187 : decode cX6_line 187 = .ok (.dup, 1) := by decide +kernel
theorem dX6_line_188 : decode cX6_line 188 = .ok (.getfield 269, 3) := by decide +kernel
theorem dX6_line_191 : decode cX6_line 191 = .ok (.iconst 1, 1) := by decide +kernel
theorem dX6_line_192 : decode cX6_line 192 = .ok (.iadd, 1) := by decide +kernel
theorem dX6_line_193 : decode cX6_line 193 = .ok (.putfield 269, 3) := by decide +kernel
theorem dX6_line_196 : decode cX6_line 196 = .ok (.goto 202, 3) := by decide +kernel
theorem dX6_line_199 : decode cX6_line 199 = .ok (.iload_n 1, 1) := by decide +kernel
theorem dX6_line_200 : decode cX6_line 200 = .ok (.bipush 7, 2) := by decide +kernel
theorem dX6_line_202 : decode cX6_line 202 = .ok (.if_icmp .lt 117, 3) := by decide +kernel
theorem dX6_line_205 : decode cX6_line 205 = .ok (.iload_n 1, 1) := by decide +kernel
theorem dX6_line_206 : decode cX6_line 206 = .ok (.bipush 9, 2) := by decide +kernel
theorem dX6_line_208 : decode cX6_line 208 = .ok (.if_icmp .gt 111, 3) := by decide +kernel
theorem dX6_line_211 : decode cX6_line 211 = .ok (.aload_n 0, 1) := by decide +kernel
theorem dX6_line_212 : decode cX6_line 212 = .ok (.getfield 275, 3) := by decide +kernel
theorem dX6_line_215 : decode cX6_line 215 = .ok (.bipush 6, 2) := by decide +kernel
theorem dX6_line_217 : decode cX6_line 217 = .ok (.if_icmp .ne 8, 3) := by decide +kernel
theorem dX6_line_220 : decode cX6_line 220 = .ok (.aload_n 0, 1) := by decide +kernel
theorem dX6_line_221 : decode cX6_line 221 = .ok (.iconst 2, 1) := by decide +kernel
theorem dX6_line_222 : decode cX6_line 222 = .ok (.invokevirtual 195, 3) := by decide +kernel
theorem dX6_line_225 : decode cX6_line 225 = .ok (.aload_n 0, 1) := by decide +kernel
theorem dX6_line_226 : decode cX6_line 226 = .ok (.invokevirtual 188, 3) := by decide +kernel
theorem dX6_line_229 : decode cX6_line 229 = .ok (.ifCond .ne 4, 3) := by decide +kernel
theorem dX6_line_232 : decode cX6_line 232 = .ok (.return_, 1) := by decide +kernel
theorem dX6_line_233 : decode cX6_line 233 = .ok (.aload_n 0, 1) := by decide +kernel
theorem dX6_line_234 : decode cX6_line 234 = .ok (.invokevirtual 192, 3) := by decide +kernel
theorem dX6_line_237 : decode cX6_line 237 = .ok (.aload_n 0, 1) := by decide +kernel
theorem dX6_line_238 : decode cX6_line 238 = .ok (.aload_n 0, 1) := by decide +kernel
theorem dX6_line_239 : decode cX6_line 239 = .ok (.getfield 272, 3) := by decide +kernel
theorem dX6_line_242 : decode cX6_line 242 = .ok (.invokevirtual 265, 3) := by decide +kernel
theorem dX6_line_245 : decode cX6_line 245 = .ok (.istore_n 2, 1) := by decide +kernel
theorem dX6_line_246 : decode cX6_line 246 = .ok (.aload_n 0, 1) := by decide +kernel
theorem dX6_line_247 : decode cX6_line 247 = .ok (.getfield 50, 3) := by decide +kernel
theorem dX6_line_250 : decode cX6_line 250 = .ok (.aload_n 0, 1) := by decide +kernel
theorem dX6_line_251 : decode cX6_line 251 = .ok (.getfield 275, 3) := by decide +kernel
theorem dX6_line_254 : decode cX6_line 254 = .ok (.iload_n 2, 1) := by decide +kernel
theorem dX6_line_255 : decode cX6_line 255 = .ok (.iastore, 1) := by decide +kernel
theorem dX6_line_256 : decode cX6_line 256 = .ok (.aload_n 0, 1) := by decide +kernel
theorem dX6_line_257 : decode cX6_line 257 = .ok (.getfield 53, 3) := by decide +kernel
theorem dX6_line_260 : decode cX6_line 260 = .ok (.aload_n 0, 1) := by decide +kernel
theorem dX6_line_261 : decode cX6_line 261 = .ok (.getfield 275, 3) := by decide +kernel
theorem dX6_line_264 : decode cX6_line 264 = .ok (.iload_n 1, 1) := by decide +kernel
theorem dX6_line_265 : decode cX6_line 265 = .ok (.bipush 7, 2) := by decide +kernel
theorem dX6_line_267 : decode cX6_line 267 = .ok (.isub, 1) := by decide +kernel
theorem dX6_line_268 : decode cX6_line 268 = .ok (.iastore, 1) := by decide +kernel
theorem dX6_line_269 : decode cX6_line 269 = .ok (.aload_n 0, 1) := by decide +kernel
theorem dX6_line_270 : decode cX6_line 270 = .ok (.getfield 56, 3) := by decide +kernel
theorem dX6_line_273 : decode cX6_line 273 = .ok (.aload_n 0, 1) := by decide +kernel
theorem dX6_line_274 : decode cX6_line 274 = .ok (.getfield 275, 3) := by decide +kernel
theorem dX6_line_277 : decode cX6_line 277 = .ok (.aload_n 0, 1) := by decide +kernel
theorem dX6_line_278 : decode cX6_line 278 = .ok (.iconst 0, 1) := by decide +kernel
theorem dX6_line_279 : decode cX6_line 279 = .ok (.sipush 999, 3) := by decide +kernel
theorem dX6_line_282 : decode cX6_line 282 = .ok (.invokevirtual 252, 3) := by decide +kernel
theorem dX6_line_285 : decode cX6_line 285 = .ok (.iastore, 1) := by decide +kernel
theorem dX6_line_286 : decode cX6_line 286 = .ok (.aload_n 0, 1) := by decide +kernel
theorem dX6_line_287 : decode cX6_line 287 = .ok (.invokevirtual 188, 3) := by decide +kernel
theorem dX6_line_290 : decode cX6_line 290 = .ok (.ifCond .ne 4, 3) := by decide +kernel
theorem dX6_line_293 : decode cX6_line 293 = .ok (.return_, 1) := by decide +kernel
theorem dX6_line_294 : decode cX6_line 294 = .ok (.aload_n 0, 1) := by decide +kernel
theorem dX6_line_295 : decode cX6_line 295 = .ok (.dup, 1) := by decide +kernel
theorem dX6_line_296 : decode cX6_line 296 = .ok (.getfield 272, 3) := by decide +kernel
theorem dX6_line_299 : decode cX6_line 299 = .ok (.lconst 1, 1) := by decide +kernel
theorem dX6_line_300 : decode cX6_line 300 = .ok (.iload_n 2, 1) := by decide +kernel
theorem dX6_line_301 : decode cX6_line 301 = .ok (.lshl, 1) := by decide +kernel
theorem dX6_line_302 : decode cX6_line 302 = .ok (.lor, 1) := by decide +kernel
theorem dX6_line_303 : decode cX6_line 303 = .ok (.putfield 272, 3) := by decide +kernel
theorem dX6_line_306 : decode cX6_line 306 = .ok (.aload_n 0, 1) := by decide +kernel
theorem dX6_line_307 : decode cX6_line 307 = .ok (.dup, 1) := by decide +kernel
theorem dX6_line_308 : decode cX6_line 308 = .ok (.getfield 275, 3) := by decide +kernel
theorem dX6_line_311 : decode cX6_line 311 = .ok (.iconst 1, 1) := by decide +kernel
theorem dX6_line_312 : decode cX6_line 312 = .ok (.iadd, 1) := by decide +kernel
theorem dX6_line_313 : decode cX6_line 313 = .ok (.putfield 275, 3) := by decide +kernel
theorem dX6_line_316 : decode cX6_line 316 = .ok (.goto 82, 3) := by decide +kernel
theorem dX6_line_319 : decode cX6_line 319 = .ok (.iload_n 1, 1) := by decide +kernel
theorem dX6_line_320 : decode cX6_line 320 = .ok (.bipush 12, 2) := by decide +kernel
theorem dX6_line_322 : decode cX6_line 322 = .ok (.if_icmp .ne 10, 3) := by decide +kernel
theorem dX6_line_325 : decode cX6_line 325 = .ok (.aload_n 0, 1) := by decide +kernel
theorem dX6_line_326 : decode cX6_line 326 = .ok (.invokevirtual 278, 3) := by decide +kernel
theorem dX6_line_329 : decode cX6_line 329 = .ok (.goto 69, 3) := by decide +kernel
theorem dX6_line_332 : decode cX6_line 332 = .ok (.iload_n 1, 1) := by decide +kernel
theorem dX6_line_333 : decode cX6_line 333 = .ok (.bipush 13, 2) := by decide +kernel
theorem dX6_line_335 : decode cX6_line 335 = .ok (.if_icmp .ne 58, 3) := by decide +kernel
theorem dX6_line_338 : decode cX6_line 338 = .ok (.aload_n 0, 1) := by decide +kernel
theorem dX6_line_339 : decode cX6_line 339 = .ok (.getfield 281, 3) := by decide +kernel
theorem dX6_line_342 : decode cX6_line 342 = .ok (.iconst 4, 1) := by decide +kernel
theorem dX6_line_343 : decode cX6_line 343 = .ok (.if_icmp .ne 8, 3) := by decide +kernel
theorem dX6_line_346 : decode cX6_line 346 = .ok (.aload_n 0, 1) := by decide +kernel
theorem dX6_line_347 : decode cX6_line 347 = .ok (.iconst 2, 1) := by decide +kernel
theorem dX6_line_348 : decode cX6_line 348 = .ok (.invokevirtual 195, 3) := by decide +kernel
theorem dX6_line_351 : decode cX6_line 351 = .ok (.aload_n 0, 1) := by decide +kernel
theorem dX6_line_352 : decode cX6_line 352 = .ok (.invokevirtual 188, 3) := by decide +kernel
theorem dX6_line_355 : decode cX6_line 355 = .ok (.ifCond .ne 4, 3) := by decide +kernel
theorem dX6_line_358 : decode cX6_line 358 = .ok (.return_, 1) := by decide +kernel
theorem dX6_line_359 : decode cX6_line 359 = .ok (.aload_n 0, 1) := by decide +kernel
theorem dX6_line_360 : decode cX6_line 360 = .ok (.invokevirtual 192, 3) := by decide +kernel
theorem dX6_line_363 : decode cX6_line 363 = .ok (.aload_n 0, 1) := by decide +kernel
theorem dX6_line_364 : decode cX6_line 364 = .ok (.getfield 62, 3) := by decide +kernel
theorem dX6_line_367 : decode cX6_line 367 = .ok (.aload_n 0, 1) := by decide +kernel
theorem dX6_line_368 : decode cX6_line 368 = .ok (.getfield 281, 3) := by decide +kernel
theorem dX6_line_371 : decode cX6_line 371 = .ok (.aload_n 0, 1) := by decide +kernel
theorem dX6_line_372 : decode cX6_line 372 = .ok (.getfield 202, 3) := by decide +kernel
theorem dX6_line_375 : decode cX6_line 375 = .ok (.iastore, 1) := by decide +kernel
theorem dX6_line_376 : decode cX6_line 376 = .ok (.aload_n 0, 1) := by decide +kernel
theorem dX6_line_377 : decode cX6_line 377 = .ok (.dup, 1) := by decide +kernel
theorem dX6_line_378 : decode cX6_line 378 = .ok (.getfield 281, 3) := by decide +kernel
theorem dX6_line_381 : decode cX6_line 381 = .ok (.iconst 1, 1) := by decide +kernel
theorem dX6_line_382 : decode cX6_line 382 = .ok (.iadd, 1) := by decide +kernel
theorem dX6_line_383 : decode cX6_line 383 = .ok (.putfield 281, 3) := by decide +kernel
theorem dX6_line_386 : decode cX6_line 386 = .ok (.aload_n 0, 1) := by decide +kernel
theorem dX6_line_387 : decode cX6_line 387 = .ok (.invokevirtual 284, 3) := by decide +kernel
theorem dX6_line_390 : decode cX6_line 390 = .ok (.goto 8, 3) := by decide +kernel
theorem dX6_line_393 : decode cX6_line 393 = .ok (.aload_n 0, 1) := by decide +kernel
theorem dX6_line_394 : decode cX6_line 394 = .ok (.iconst 1, 1) := by decide +kernel
theorem dX6_line_395 : decode cX6_line 395 = .ok (.invokevirtual 195, 3) := by decide +kernel
theorem dX6_line_398 : decode cX6_line 398 = .ok (.aload_n 0, 1) := by decide +kernel
theorem dX6_line_399 : decode cX6_line 399 = .ok (.aload_n 0, 1) := by decide +kernel
theorem dX6_line_400 : decode cX6_line 400 = .ok (.bipush 59, 2) := by decide +kernel
theorem dX6_line_402 : decode cX6_line 402 = .ok (.invokevirtual 224, 3) := by decide +kernel
theorem dX6_line_405 : decode cX6_line 405 = .ok (.invokevirtual 287, 3) := by decide +kernel
theorem dX6_line_408 : decode cX6_line 408 = .ok (.return_, 1) := by decide +kernel
theorem dX6_copies_0 : decode cX6_copies 0 = .ok (.iconst 0, 1) := by decide +kernel
theorem dX6_copies_1 : decode cX6_copies 1 = .ok (.istore_n 3, 1) := by decide +kernel
theorem dX6_copies_2 : decode cX6_copies 2 = .ok (.iload_n 3, 1) := by decide +kernel
theorem dX6_copies_3 : decode cX6_copies 3 = .ok (.aload_n 1, 1) := by decide +kernel
theorem dX6_copies_4 : decode cX6_copies 4 = .ok (.arraylength, 1) := by decide +kernel
theorem dX6_copies_5 : decode cX6_copies 5 = .ok (.if_icmp .ge 15, 3) := by decide +kernel
theorem dX6_copies_8 : decode cX6_copies 8 = .ok (.aload_n 2, 1) := by decide +kernel
theorem dX6_copies_9 : decode cX6_copies 9 = .ok (.iload_n 3, 1) := by decide +kernel
theorem dX6_copies_10 : decode cX6_copies 10 = .ok (.aload_n 1, 1) := by decide +kernel
theorem dX6_copies_11 : decode cX6_copies 11 = .ok (.iload_n 3, 1) := by decide +kernel
theorem dX6_copies_12 : decode cX6_copies 12 = .ok (.iaload, 1) := by decide +kernel
theorem dX6_copies_13 : decode cX6_copies 13 = .ok (.iastore, 1) := by decide +kernel
theorem dX6_copies_14 : decode cX6_copies 14 = .ok (.iinc 3 1, 3) := by decide +kernel
theorem dX6_copies_17 : decode cX6_copies 17 = .ok (.goto (-15), 3) := by decide +kernel
theorem dX6_copies_20 : decode cX6_copies 20 = .ok (.return_, 1) := by decide +kernel
