theorem lkRX5_10 : Cond.fieldLink RX5 10 (TX5 0).1 (TX5 0).2.1 (TX5 0).2.2.1 ∈ TB := tb_of 393 (by decide +kernel) (by decide +kernel)
theorem lkRX5_16 : Cond.fieldLink RX5 16 (TX5 1).1 (TX5 1).2.1 (TX5 1).2.2.1 ∈ TB := tb_of 394 (by decide +kernel) (by decide +kernel)
theorem lkRX5_19 : Cond.fieldLink RX5 19 (TX5 8).1 (TX5 8).2.1 (TX5 8).2.2.1 ∈ TB := tb_of 401 (by decide +kernel) (by decide +kernel)
theorem lkRX5_28 : Cond.fieldLink RX5 28 (TX5 2).1 (TX5 2).2.1 (TX5 2).2.2.1 ∈ TB := tb_of 395 (by decide +kernel) (by decide +kernel)
theorem lkRX5_37 : Cond.fieldLink RX5 37 (TX5 3).1 (TX5 3).2.1 (TX5 3).2.2.1 ∈ TB := tb_of 396 (by decide +kernel) (by decide +kernel)
theorem lkRX5_44 : Cond.fieldLink RX5 44 (TX5 4).1 (TX5 4).2.1 (TX5 4).2.2.1 ∈ TB := tb_of 397 (by decide +kernel) (by decide +kernel)
theorem lkRX5_51 : Cond.fieldLink RX5 51 (TX5 7).1 (TX5 7).2.1 (TX5 7).2.2.1 ∈ TB := tb_of 400 (by decide +kernel) (by decide +kernel)
theorem lkRX5_55 : Cond.fieldLink RX5 55 (TX5 14).1 (TX5 14).2.1 (TX5 14).2.2.1 ∈ TB := tb_of 407 (by decide +kernel) (by decide +kernel)
theorem lkRX5_62 : Cond.fieldLink RX5 62 (TX5 10).1 (TX5 10).2.1 (TX5 10).2.2.1 ∈ TB := tb_of 403 (by decide +kernel) (by decide +kernel)
theorem lkRX5_66 : Cond.fieldLink RX5 66 (TX5 9).1 (TX5 9).2.1 (TX5 9).2.2.1 ∈ TB := tb_of 402 (by decide +kernel) (by decide +kernel)
theorem lkRX5_84 : Cond.fieldLinkNest RX5 84 (TX2 6).1 (TX2 6).2.1 (TX2 6).2.2.1 RX5 ∈ TBN := tbn_of 225 (by decide +kernel) (by decide +kernel)
theorem lkRX5_87 : Cond.fieldLinkNest RX5 87 (TX2 7).1 (TX2 7).2.1 (TX2 7).2.2.1 RX5 ∈ TBN := tbn_of 227 (by decide +kernel) (by decide +kernel)
theorem lkRX5_90 : Cond.fieldLink RX5 90 (TX5 11).1 (TX5 11).2.1 (TX5 11).2.2.1 ∈ TB := tb_of 404 (by decide +kernel) (by decide +kernel)
theorem lkRX5_93 : Cond.fieldLink RX5 93 (TX5 6).1 (TX5 6).2.1 (TX5 6).2.2.1 ∈ TB := tb_of 399 (by decide +kernel) (by decide +kernel)
theorem lkRX5_97 : Cond.fieldLink RX5 97 (TX5 15).1 (TX5 15).2.1 (TX5 15).2.2.1 ∈ TB := tb_of 408 (by decide +kernel) (by decide +kernel)
theorem lkRX5_100 : Cond.fieldLinkNest RX5 100 (TX4 3).1 (TX4 3).2.1 (TX4 3).2.2.1 RX5 ∈ TBN := tbn_of 373 (by decide +kernel) (by decide +kernel)
theorem lkRX5_103 : Cond.fieldLinkNest RX5 103 (TX1 0).1 (TX1 0).2.1 (TX1 0).2.2.1 RX5 ∈ TBN := tbn_of 144 (by decide +kernel) (by decide +kernel)
theorem lkRX5_106 : Cond.fieldLinkNest RX5 106 (TX1 1).1 (TX1 1).2.1 (TX1 1).2.2.1 RX5 ∈ TBN := tbn_of 148 (by decide +kernel) (by decide +kernel)
theorem lkRX5_109 : Cond.fieldLinkNest RX5 109 (TX0 0).1 (TX0 0).2.1 (TX0 0).2.2.1 RX5 ∈ TBN := tbn_of 335 (by decide +kernel) (by decide +kernel)
theorem lkRX5_116 : Cond.fieldLinkNest RX5 116 (TX1 3).1 (TX1 3).2.1 (TX1 3).2.2.1 RX5 ∈ TBN := tbn_of 158 (by decide +kernel) (by decide +kernel)
theorem lkRX5_119 : Cond.fieldLinkNest RX5 119 (TX1 8).1 (TX1 8).2.1 (TX1 8).2.2.1 RX5 ∈ TBN := tbn_of 175 (by decide +kernel) (by decide +kernel)
theorem lkRX5_134 : Cond.fieldLinkNest RX5 134 (TX0 3).1 (TX0 3).2.1 (TX0 3).2.2.1 RX5 ∈ TBN := tbn_of 339 (by decide +kernel) (by decide +kernel)
theorem lkRX5_137 : Cond.fieldLinkNest RX5 137 (TX0 6).1 (TX0 6).2.1 (TX0 6).2.2.1 RX5 ∈ TBN := tbn_of 345 (by decide +kernel) (by decide +kernel)
theorem lkRX5_140 : Cond.fieldLink RX5 140 (TX5 12).1 (TX5 12).2.1 (TX5 12).2.2.1 ∈ TB := tb_of 405 (by decide +kernel) (by decide +kernel)
theorem lkRX5_143 : Cond.fieldLink RX5 143 (TX5 13).1 (TX5 13).2.1 (TX5 13).2.2.1 ∈ TB := tb_of 406 (by decide +kernel) (by decide +kernel)
theorem lkRX5_154 : Cond.fieldLinkNest RX5 154 (TX1 2).1 (TX1 2).2.1 (TX1 2).2.2.1 RX5 ∈ TBN := tbn_of 153 (by decide +kernel) (by decide +kernel)
theorem lkRX5_157 : Cond.fieldLinkNest RX5 157 (TX3 3).1 (TX3 3).2.1 (TX3 3).2.2.1 RX5 ∈ TBN := tbn_of 285 (by decide +kernel) (by decide +kernel)
theorem lkRX5_176 : Cond.fieldLinkNest RX5 176 (TX1 4).1 (TX1 4).2.1 (TX1 4).2.2.1 RX5 ∈ TBN := tbn_of 163 (by decide +kernel) (by decide +kernel)
theorem lkRX5_179 : Cond.fieldLinkNest RX5 179 (TX1 5).1 (TX1 5).2.1 (TX1 5).2.2.1 RX5 ∈ TBN := tbn_of 167 (by decide +kernel) (by decide +kernel)
theorem lkRX5_197 : Cond.fieldLinkNest RX5 197 (TX3 8).1 (TX3 8).2.1 (TX3 8).2.2.1 RX5 ∈ TBN := tbn_of 292 (by decide +kernel) (by decide +kernel)
theorem lkRX5_200 : Cond.fieldLinkNest RX5 200 (TX3 11).1 (TX3 11).2.1 (TX3 11).2.2.1 RX5 ∈ TBN := tbn_of 296 (by decide +kernel) (by decide +kernel)
theorem lkRX5_210 : Cond.fieldLinkNest RX5 210 (TX3 1).1 (TX3 1).2.1 (TX3 1).2.2.1 RX5 ∈ TBN := tbn_of 281 (by decide +kernel) (by decide +kernel)
theorem lkRX5_293 : Cond.fieldLinkNest RX5 293 (TX4 1).1 (TX4 1).2.1 (TX4 1).2.2.1 RX5 ∈ TBN := tbn_of 370 (by decide +kernel) (by decide +kernel)
theorem lkRX5_326 : Cond.fieldLinkNest RX5 326 (TX3 2).1 (TX3 2).2.1 (TX3 2).2.2.1 RX5 ∈ TBN := tbn_of 283 (by decide +kernel) (by decide +kernel)
theorem lkRX5_338 : Cond.fieldLinkNest RX5 338 (TX3 4).1 (TX3 4).2.1 (TX3 4).2.2.1 RX5 ∈ TBN := tbn_of 287 (by decide +kernel) (by decide +kernel)
theorem lkRX0_9 : Cond.fieldLink RX0 9 (TX0 0).1 (TX0 0).2.1 (TX0 0).2.2.1 ∈ TB := tb_of 334 (by decide +kernel) (by decide +kernel)
theorem lkRX0_15 : Cond.fieldLink RX0 15 (TX0 1).1 (TX0 1).2.1 (TX0 1).2.2.1 ∈ TB := tb_of 336 (by decide +kernel) (by decide +kernel)
theorem lkRX0_18 : Cond.fieldLink RX0 18 (TX0 4).1 (TX0 4).2.1 (TX0 4).2.2.1 ∈ TB := tb_of 340 (by decide +kernel) (by decide +kernel)
theorem lkRX0_21 : Cond.fieldLink RX0 21 (TX0 5).1 (TX0 5).2.1 (TX0 5).2.2.1 ∈ TB := tb_of 342 (by decide +kernel) (by decide +kernel)
theorem lkRX0_24 : Cond.fieldLinkNest RX0 24 (TX1 11).1 (TX1 11).2.1 (TX1 11).2.2.1 RX5 ∈ TBN := tbn_of 184 (by decide +kernel) (by decide +kernel)
theorem lkRX0_35 : Cond.fieldLink RX0 35 (TX0 2).1 (TX0 2).2.1 (TX0 2).2.2.1 ∈ TB := tb_of 337 (by decide +kernel) (by decide +kernel)
theorem lkRX0_39 : Cond.fieldLink RX0 39 (TX0 3).1 (TX0 3).2.1 (TX0 3).2.2.1 ∈ TB := tb_of 338 (by decide +kernel) (by decide +kernel)
theorem lkRX0_42 : Cond.fieldLink RX0 42 (TX0 6).1 (TX0 6).2.1 (TX0 6).2.2.1 ∈ TB := tb_of 344 (by decide +kernel) (by decide +kernel)
theorem lkRX1_9 : Cond.fieldLink RX1 9 (TX1 0).1 (TX1 0).2.1 (TX1 0).2.2.1 ∈ TB := tb_of 142 (by decide +kernel) (by decide +kernel)
theorem lkRX1_15 : Cond.fieldLink RX1 15 (TX1 1).1 (TX1 1).2.1 (TX1 1).2.2.1 ∈ TB := tb_of 147 (by decide +kernel) (by decide +kernel)
theorem lkRX1_18 : Cond.fieldLink RX1 18 (TX1 2).1 (TX1 2).2.1 (TX1 2).2.2.1 ∈ TB := tb_of 151 (by decide +kernel) (by decide +kernel)
theorem lkRX1_22 : Cond.fieldLink RX1 22 (TX1 4).1 (TX1 4).2.1 (TX1 4).2.2.1 ∈ TB := tb_of 160 (by decide +kernel) (by decide +kernel)
theorem lkRX1_28 : Cond.fieldLink RX1 28 (TX1 7).1 (TX1 7).2.1 (TX1 7).2.2.1 ∈ TB := tb_of 171 (by decide +kernel) (by decide +kernel)
theorem lkRX1_37 : Cond.fieldLink RX1 37 (TX1 11).1 (TX1 11).2.1 (TX1 11).2.2.1 ∈ TB := tb_of 183 (by decide +kernel) (by decide +kernel)
theorem lkRX1_43 : Cond.fieldLink RX1 43 (TX1 3).1 (TX1 3).2.1 (TX1 3).2.2.1 ∈ TB := tb_of 155 (by decide +kernel) (by decide +kernel)
theorem lkRX1_46 : Cond.fieldLink RX1 46 (TX1 6).1 (TX1 6).2.1 (TX1 6).2.2.1 ∈ TB := tb_of 169 (by decide +kernel) (by decide +kernel)
theorem lkRX1_49 : Cond.fieldLink RX1 49 (TX1 8).1 (TX1 8).2.1 (TX1 8).2.2.1 ∈ TB := tb_of 173 (by decide +kernel) (by decide +kernel)
theorem lkRX2_11 : Cond.fieldLink RX2 11 (TX2 12).1 (TX2 12).2.1 (TX2 12).2.2.1 ∈ TB := tb_of 232 (by decide +kernel) (by decide +kernel)
theorem lkRX2_15 : Cond.fieldLink RX2 15 (TX2 0).1 (TX2 0).2.1 (TX2 0).2.2.1 ∈ TB := tb_of 218 (by decide +kernel) (by decide +kernel)
theorem lkRX2_19 : Cond.fieldLink RX2 19 (TX2 8).1 (TX2 8).2.1 (TX2 8).2.2.1 ∈ TB := tb_of 228 (by decide +kernel) (by decide +kernel)
theorem lkRX2_29 : Cond.fieldLink RX2 29 (TX2 1).1 (TX2 1).2.1 (TX2 1).2.2.1 ∈ TB := tb_of 219 (by decide +kernel) (by decide +kernel)
theorem lkRX2_33 : Cond.fieldLink RX2 33 (TX2 3).1 (TX2 3).2.1 (TX2 3).2.2.1 ∈ TB := tb_of 221 (by decide +kernel) (by decide +kernel)
theorem lkRX2_36 : Cond.fieldLink RX2 36 (TX2 6).1 (TX2 6).2.1 (TX2 6).2.2.1 ∈ TB := tb_of 224 (by decide +kernel) (by decide +kernel)
theorem lkRX2_39 : Cond.fieldLink RX2 39 (TX2 7).1 (TX2 7).2.1 (TX2 7).2.2.1 ∈ TB := tb_of 226 (by decide +kernel) (by decide +kernel)
theorem lkRX2_42 : Cond.fieldLink RX2 42 (TX2 9).1 (TX2 9).2.1 (TX2 9).2.2.1 ∈ TB := tb_of 229 (by decide +kernel) (by decide +kernel)
theorem lkRX2_45 : Cond.fieldLink RX2 45 (TX2 10).1 (TX2 10).2.1 (TX2 10).2.2.1 ∈ TB := tb_of 230 (by decide +kernel) (by decide +kernel)
theorem lkRX2_49 : Cond.fieldLink RX2 49 (TX2 11).1 (TX2 11).2.1 (TX2 11).2.2.1 ∈ TB := tb_of 231 (by decide +kernel) (by decide +kernel)
theorem lkRX2_52 : Cond.fieldLink RX2 52 (TX2 14).1 (TX2 14).2.1 (TX2 14).2.2.1 ∈ TB := tb_of 234 (by decide +kernel) (by decide +kernel)
theorem lkRX2_71 : Cond.fieldLink RX2 71 (TX2 4).1 (TX2 4).2.1 (TX2 4).2.2.1 ∈ TB := tb_of 222 (by decide +kernel) (by decide +kernel)
theorem lkRX2_77 : Cond.fieldLinkNest RX2 77 (TX1 11).1 (TX1 11).2.1 (TX1 11).2.2.1 RX5 ∈ TBN := tbn_of 185 (by decide +kernel) (by decide +kernel)
theorem lkRX2_80 : Cond.fieldLinkNest RX2 80 (TX1 8).1 (TX1 8).2.1 (TX1 8).2.2.1 RX5 ∈ TBN := tbn_of 174 (by decide +kernel) (by decide +kernel)
theorem lkRX2_83 : Cond.fieldLink RX2 83 (TX2 2).1 (TX2 2).2.1 (TX2 2).2.2.1 ∈ TB := tb_of 220 (by decide +kernel) (by decide +kernel)
theorem lkRX2_93 : Cond.fieldLink RX2 93 (TX2 5).1 (TX2 5).2.1 (TX2 5).2.2.1 ∈ TB := tb_of 223 (by decide +kernel) (by decide +kernel)
theorem lkRX2_115 : Cond.fieldLinkNest RX2 115 (TX1 0).1 (TX1 0).2.1 (TX1 0).2.2.1 RX5 ∈ TBN := tbn_of 146 (by decide +kernel) (by decide +kernel)
theorem lkRX2_118 : Cond.fieldLinkNest RX2 118 (TX1 1).1 (TX1 1).2.1 (TX1 1).2.2.1 RX5 ∈ TBN := tbn_of 150 (by decide +kernel) (by decide +kernel)
theorem lkRX2_164 : Cond.fieldLinkNest RX2 164 (TX1 2).1 (TX1 2).2.1 (TX1 2).2.2.1 RX5 ∈ TBN := tbn_of 154 (by decide +kernel) (by decide +kernel)
theorem lkRX2_167 : Cond.fieldLinkNest RX2 167 (TX1 3).1 (TX1 3).2.1 (TX1 3).2.2.1 RX5 ∈ TBN := tbn_of 159 (by decide +kernel) (by decide +kernel)
theorem lkRX2_170 : Cond.fieldLinkNest RX2 170 (TX1 4).1 (TX1 4).2.1 (TX1 4).2.2.1 RX5 ∈ TBN := tbn_of 164 (by decide +kernel) (by decide +kernel)
theorem lkRX2_173 : Cond.fieldLinkNest RX2 173 (TX1 5).1 (TX1 5).2.1 (TX1 5).2.2.1 RX5 ∈ TBN := tbn_of 168 (by decide +kernel) (by decide +kernel)
theorem lkRX2_176 : Cond.fieldLinkNest RX2 176 (TX1 6).1 (TX1 6).2.1 (TX1 6).2.2.1 RX5 ∈ TBN := tbn_of 170 (by decide +kernel) (by decide +kernel)
theorem lkRX2_179 : Cond.fieldLinkNest RX2 179 (TX1 7).1 (TX1 7).2.1 (TX1 7).2.2.1 RX5 ∈ TBN := tbn_of 172 (by decide +kernel) (by decide +kernel)
theorem lkRX2_181 : Cond.fieldLink RX2 181 (TX2 13).1 (TX2 13).2.1 (TX2 13).2.2.1 ∈ TB := tb_of 233 (by decide +kernel) (by decide +kernel)
theorem lkRX2_184 : Cond.fieldLink RX2 184 (TX2 15).1 (TX2 15).2.1 (TX2 15).2.2.1 ∈ TB := tb_of 235 (by decide +kernel) (by decide +kernel)
theorem lkRX2_187 : Cond.fieldLink RX2 187 (TX2 16).1 (TX2 16).2.1 (TX2 16).2.2.1 ∈ TB := tb_of 236 (by decide +kernel) (by decide +kernel)
theorem lkRX2_199 : Cond.fieldLinkNest RX2 199 (TX1 9).1 (TX1 9).2.1 (TX1 9).2.2.1 RX5 ∈ TBN := tbn_of 178 (by decide +kernel) (by decide +kernel)
theorem lkRX2_223 : Cond.fieldLinkNest RX2 223 (TX1 10).1 (TX1 10).2.1 (TX1 10).2.2.1 RX5 ∈ TBN := tbn_of 181 (by decide +kernel) (by decide +kernel)
theorem lkRX3_9 : Cond.fieldLink RX3 9 (TX3 1).1 (TX3 1).2.1 (TX3 1).2.2.1 ∈ TB := tb_of 280 (by decide +kernel) (by decide +kernel)
theorem lkRX3_15 : Cond.fieldLink RX3 15 (TX3 2).1 (TX3 2).2.1 (TX3 2).2.2.1 ∈ TB := tb_of 282 (by decide +kernel) (by decide +kernel)
theorem lkRX3_18 : Cond.fieldLink RX3 18 (TX3 3).1 (TX3 3).2.1 (TX3 3).2.2.1 ∈ TB := tb_of 284 (by decide +kernel) (by decide +kernel)
theorem lkRX3_21 : Cond.fieldLink RX3 21 (TX3 8).1 (TX3 8).2.1 (TX3 8).2.2.1 ∈ TB := tb_of 291 (by decide +kernel) (by decide +kernel)
theorem lkRX3_24 : Cond.fieldLink RX3 24 (TX3 13).1 (TX3 13).2.1 (TX3 13).2.2.1 ∈ TB := tb_of 298 (by decide +kernel) (by decide +kernel)
theorem lkRX3_27 : Cond.fieldLink RX3 27 (TX3 0).1 (TX3 0).2.1 (TX3 0).2.2.1 ∈ TB := tb_of 279 (by decide +kernel) (by decide +kernel)
theorem lkRX3_37 : Cond.fieldLinkNest RX3 37 (TX1 2).1 (TX1 2).2.1 (TX1 2).2.2.1 RX5 ∈ TBN := tbn_of 152 (by decide +kernel) (by decide +kernel)
theorem lkRX3_44 : Cond.fieldLinkNest RX3 44 (TX1 3).1 (TX1 3).2.1 (TX1 3).2.2.1 RX5 ∈ TBN := tbn_of 157 (by decide +kernel) (by decide +kernel)
theorem lkRX3_48 : Cond.fieldLinkNest RX3 48 (TX1 4).1 (TX1 4).2.1 (TX1 4).2.2.1 RX5 ∈ TBN := tbn_of 161 (by decide +kernel) (by decide +kernel)
theorem lkRX3_55 : Cond.fieldLink RX3 55 (TX3 4).1 (TX3 4).2.1 (TX3 4).2.2.1 ∈ TB := tb_of 286 (by decide +kernel) (by decide +kernel)
theorem lkRX3_69 : Cond.fieldLinkNest RX3 69 (TX1 5).1 (TX1 5).2.1 (TX1 5).2.2.1 RX5 ∈ TBN := tbn_of 166 (by decide +kernel) (by decide +kernel)
theorem lkRX3_76 : Cond.fieldLink RX3 76 (TX3 5).1 (TX3 5).2.1 (TX3 5).2.2.1 ∈ TB := tb_of 288 (by decide +kernel) (by decide +kernel)
theorem lkRX3_79 : Cond.fieldLink RX3 79 (TX3 6).1 (TX3 6).2.1 (TX3 6).2.2.1 ∈ TB := tb_of 289 (by decide +kernel) (by decide +kernel)
theorem lkRX3_82 : Cond.fieldLink RX3 82 (TX3 7).1 (TX3 7).2.1 (TX3 7).2.2.1 ∈ TB := tb_of 290 (by decide +kernel) (by decide +kernel)
theorem lkRX3_85 : Cond.fieldLink RX3 85 (TX3 9).1 (TX3 9).2.1 (TX3 9).2.2.1 ∈ TB := tb_of 293 (by decide +kernel) (by decide +kernel)
theorem lkRX3_88 : Cond.fieldLink RX3 88 (TX3 10).1 (TX3 10).2.1 (TX3 10).2.2.1 ∈ TB := tb_of 294 (by decide +kernel) (by decide +kernel)
theorem lkRX3_91 : Cond.fieldLink RX3 91 (TX3 11).1 (TX3 11).2.1 (TX3 11).2.2.1 ∈ TB := tb_of 295 (by decide +kernel) (by decide +kernel)
theorem lkRX3_95 : Cond.fieldLink RX3 95 (TX3 12).1 (TX3 12).2.1 (TX3 12).2.2.1 ∈ TB := tb_of 297 (by decide +kernel) (by decide +kernel)
theorem lkRX3_111 : Cond.fieldLinkNest RX3 111 (TX1 0).1 (TX1 0).2.1 (TX1 0).2.2.1 RX5 ∈ TBN := tbn_of 145 (by decide +kernel) (by decide +kernel)
theorem lkRX3_120 : Cond.fieldLinkNest RX3 120 (TX1 1).1 (TX1 1).2.1 (TX1 1).2.2.1 RX5 ∈ TBN := tbn_of 149 (by decide +kernel) (by decide +kernel)
theorem lkRX3_130 : Cond.fieldLinkNest RX3 130 (TX0 6).1 (TX0 6).2.1 (TX0 6).2.2.1 RX5 ∈ TBN := tbn_of 346 (by decide +kernel) (by decide +kernel)
theorem lkRX3_135 : Cond.fieldLinkNest RX3 135 (TX0 4).1 (TX0 4).2.1 (TX0 4).2.2.1 RX5 ∈ TBN := tbn_of 341 (by decide +kernel) (by decide +kernel)
theorem lkRX3_141 : Cond.fieldLinkNest RX3 141 (TX0 5).1 (TX0 5).2.1 (TX0 5).2.2.1 RX5 ∈ TBN := tbn_of 343 (by decide +kernel) (by decide +kernel)
theorem lkRX3_156 : Cond.fieldLinkNest RX3 156 (TX1 8).1 (TX1 8).2.1 (TX1 8).2.2.1 RX5 ∈ TBN := tbn_of 176 (by decide +kernel) (by decide +kernel)
theorem lkRX3_159 : Cond.fieldLinkNest RX3 159 (TX1 9).1 (TX1 9).2.1 (TX1 9).2.2.1 RX5 ∈ TBN := tbn_of 179 (by decide +kernel) (by decide +kernel)
theorem lkRX3_162 : Cond.fieldLinkNest RX3 162 (TX1 10).1 (TX1 10).2.1 (TX1 10).2.2.1 RX5 ∈ TBN := tbn_of 182 (by decide +kernel) (by decide +kernel)
theorem lkRX4_9 : Cond.fieldLink RX4 9 (TX4 1).1 (TX4 1).2.1 (TX4 1).2.2.1 ∈ TB := tb_of 369 (by decide +kernel) (by decide +kernel)
theorem lkRX4_15 : Cond.fieldLink RX4 15 (TX4 2).1 (TX4 2).2.1 (TX4 2).2.2.1 ∈ TB := tb_of 371 (by decide +kernel) (by decide +kernel)
theorem lkRX4_18 : Cond.fieldLink RX4 18 (TX4 0).1 (TX4 0).2.1 (TX4 0).2.2.1 ∈ TB := tb_of 368 (by decide +kernel) (by decide +kernel)
theorem lkRX4_22 : Cond.fieldLink RX4 22 (TX4 4).1 (TX4 4).2.1 (TX4 4).2.2.1 ∈ TB := tb_of 374 (by decide +kernel) (by decide +kernel)
theorem lkRX4_26 : Cond.fieldLinkNest RX4 26 (TX1 3).1 (TX1 3).2.1 (TX1 3).2.2.1 RX5 ∈ TBN := tbn_of 156 (by decide +kernel) (by decide +kernel)
theorem lkRX4_31 : Cond.fieldLink RX4 31 (TX4 3).1 (TX4 3).2.1 (TX4 3).2.2.1 ∈ TB := tb_of 372 (by decide +kernel) (by decide +kernel)
theorem lkRX4_48 : Cond.fieldLinkNest RX4 48 (TX1 4).1 (TX1 4).2.1 (TX1 4).2.2.1 RX5 ∈ TBN := tbn_of 162 (by decide +kernel) (by decide +kernel)
theorem lkRX4_55 : Cond.fieldLinkNest RX4 55 (TX1 0).1 (TX1 0).2.1 (TX1 0).2.2.1 RX5 ∈ TBN := tbn_of 143 (by decide +kernel) (by decide +kernel)
theorem lkRX6_7 : Cond.fieldLink RX6 7 (TX6 1).1 (TX6 1).2.1 (TX6 1).2.2.1 ∈ TB := tb_of 1216 (by decide +kernel) (by decide +kernel)
theorem lkRX6_13 : Cond.fieldLink RX6 13 (TX6 2).1 (TX6 2).2.1 (TX6 2).2.2.1 ∈ TB := tb_of 1217 (by decide +kernel) (by decide +kernel)
theorem lkRX6_16 : Cond.fieldLink RX6 16 (TX6 6).1 (TX6 6).2.1 (TX6 6).2.2.1 ∈ TB := tb_of 1221 (by decide +kernel) (by decide +kernel)
theorem lkRX6_20 : Cond.fieldLink RX6 20 (TX6 7).1 (TX6 7).2.1 (TX6 7).2.2.1 ∈ TB := tb_of 1222 (by decide +kernel) (by decide +kernel)
theorem lkRX6_23 : Cond.fieldLink RX6 23 (TX6 8).1 (TX6 8).2.1 (TX6 8).2.2.1 ∈ TB := tb_of 1223 (by decide +kernel) (by decide +kernel)
theorem lkRX6_26 : Cond.fieldLink RX6 26 (TX6 9).1 (TX6 9).2.1 (TX6 9).2.2.1 ∈ TB := tb_of 1224 (by decide +kernel) (by decide +kernel)
theorem lkRX6_29 : Cond.fieldLink RX6 29 (TX6 10).1 (TX6 10).2.1 (TX6 10).2.2.1 ∈ TB := tb_of 1225 (by decide +kernel) (by decide +kernel)
theorem lkRX6_32 : Cond.fieldLink RX6 32 (TX6 11).1 (TX6 11).2.1 (TX6 11).2.2.1 ∈ TB := tb_of 1226 (by decide +kernel) (by decide +kernel)
theorem lkRX6_35 : Cond.fieldLink RX6 35 (TX6 12).1 (TX6 12).2.1 (TX6 12).2.2.1 ∈ TB := tb_of 1227 (by decide +kernel) (by decide +kernel)
theorem lkRX6_38 : Cond.fieldLink RX6 38 (TX6 15).1 (TX6 15).2.1 (TX6 15).2.2.1 ∈ TB := tb_of 1230 (by decide +kernel) (by decide +kernel)
theorem lkRX6_41 : Cond.fieldLink RX6 41 (TX6 16).1 (TX6 16).2.1 (TX6 16).2.2.1 ∈ TB := tb_of 1231 (by decide +kernel) (by decide +kernel)
theorem lkRX6_44 : Cond.fieldLink RX6 44 (TX6 36).1 (TX6 36).2.1 (TX6 36).2.2.1 ∈ TB := tb_of 1251 (by decide +kernel) (by decide +kernel)
theorem lkRX6_47 : Cond.fieldLink RX6 47 (TX6 37).1 (TX6 37).2.1 (TX6 37).2.2.1 ∈ TB := tb_of 1252 (by decide +kernel) (by decide +kernel)
theorem lkRX6_50 : Cond.fieldLink RX6 50 (TX6 38).1 (TX6 38).2.1 (TX6 38).2.2.1 ∈ TB := tb_of 1253 (by decide +kernel) (by decide +kernel)
theorem lkRX6_53 : Cond.fieldLink RX6 53 (TX6 39).1 (TX6 39).2.1 (TX6 39).2.2.1 ∈ TB := tb_of 1254 (by decide +kernel) (by decide +kernel)
theorem lkRX6_56 : Cond.fieldLink RX6 56 (TX6 40).1 (TX6 40).2.1 (TX6 40).2.2.1 ∈ TB := tb_of 1255 (by decide +kernel) (by decide +kernel)
theorem lkRX6_59 : Cond.fieldLink RX6 59 (TX6 41).1 (TX6 41).2.1 (TX6 41).2.2.1 ∈ TB := tb_of 1256 (by decide +kernel) (by decide +kernel)
theorem lkRX6_62 : Cond.fieldLink RX6 62 (TX6 42).1 (TX6 42).2.1 (TX6 42).2.2.1 ∈ TB := tb_of 1257 (by decide +kernel) (by decide +kernel)
theorem lkRX6_65 : Cond.fieldLink RX6 65 (TX6 43).1 (TX6 43).2.1 (TX6 43).2.2.1 ∈ TB := tb_of 1258 (by decide +kernel) (by decide +kernel)
theorem lkRX6_68 : Cond.fieldLink RX6 68 (TX6 44).1 (TX6 44).2.1 (TX6 44).2.2.1 ∈ TB := tb_of 1259 (by decide +kernel) (by decide +kernel)
theorem lkRX6_71 : Cond.fieldLink RX6 71 (TX6 45).1 (TX6 45).2.1 (TX6 45).2.2.1 ∈ TB := tb_of 1260 (by decide +kernel) (by decide +kernel)
theorem lkRX6_75 : Cond.fieldLink RX6 75 (TX6 46).1 (TX6 46).2.1 (TX6 46).2.2.1 ∈ TB := tb_of 1261 (by decide +kernel) (by decide +kernel)
theorem lkRX6_78 : Cond.fieldLink RX6 78 (TX6 47).1 (TX6 47).2.1 (TX6 47).2.2.1 ∈ TB := tb_of 1262 (by decide +kernel) (by decide +kernel)
theorem lkRX6_81 : Cond.fieldLink RX6 81 (TX6 48).1 (TX6 48).2.1 (TX6 48).2.2.1 ∈ TB := tb_of 1263 (by decide +kernel) (by decide +kernel)
theorem lkRX6_84 : Cond.fieldLink RX6 84 (TX6 50).1 (TX6 50).2.1 (TX6 50).2.2.1 ∈ TB := tb_of 1265 (by decide +kernel) (by decide +kernel)
theorem lkRX6_87 : Cond.fieldLink RX6 87 (TX6 51).1 (TX6 51).2.1 (TX6 51).2.2.1 ∈ TB := tb_of 1266 (by decide +kernel) (by decide +kernel)
theorem lkRX6_90 : Cond.fieldLink RX6 90 (TX6 52).1 (TX6 52).2.1 (TX6 52).2.2.1 ∈ TB := tb_of 1267 (by decide +kernel) (by decide +kernel)
theorem lkRX6_93 : Cond.fieldLink RX6 93 (TX6 53).1 (TX6 53).2.1 (TX6 53).2.2.1 ∈ TB := tb_of 1268 (by decide +kernel) (by decide +kernel)
theorem lkRX6_96 : Cond.fieldLink RX6 96 (TX6 57).1 (TX6 57).2.1 (TX6 57).2.2.1 ∈ TB := tb_of 1272 (by decide +kernel) (by decide +kernel)
theorem lkRX6_99 : Cond.fieldLink RX6 99 (TX6 58).1 (TX6 58).2.1 (TX6 58).2.2.1 ∈ TB := tb_of 1273 (by decide +kernel) (by decide +kernel)
theorem lkRX6_102 : Cond.fieldLink RX6 102 (TX6 59).1 (TX6 59).2.1 (TX6 59).2.2.1 ∈ TB := tb_of 1274 (by decide +kernel) (by decide +kernel)
theorem lkRX6_105 : Cond.fieldLink RX6 105 (TX6 60).1 (TX6 60).2.1 (TX6 60).2.2.1 ∈ TB := tb_of 1275 (by decide +kernel) (by decide +kernel)
theorem lkRX6_108 : Cond.fieldLink RX6 108 (TX6 62).1 (TX6 62).2.1 (TX6 62).2.2.1 ∈ TB := tb_of 1277 (by decide +kernel) (by decide +kernel)
theorem lkRX6_111 : Cond.fieldLink RX6 111 (TX6 63).1 (TX6 63).2.1 (TX6 63).2.2.1 ∈ TB := tb_of 1278 (by decide +kernel) (by decide +kernel)
theorem lkRX6_114 : Cond.fieldLink RX6 114 (TX6 64).1 (TX6 64).2.1 (TX6 64).2.2.1 ∈ TB := tb_of 1279 (by decide +kernel) (by decide +kernel)
theorem lkRX6_117 : Cond.fieldLink RX6 117 (TX6 66).1 (TX6 66).2.1 (TX6 66).2.2.1 ∈ TB := tb_of 1281 (by decide +kernel) (by decide +kernel)
theorem lkRX6_120 : Cond.fieldLink RX6 120 (TX6 71).1 (TX6 71).2.1 (TX6 71).2.2.1 ∈ TB := tb_of 1286 (by decide +kernel) (by decide +kernel)
theorem lkRX6_123 : Cond.fieldLink RX6 123 (TX6 72).1 (TX6 72).2.1 (TX6 72).2.2.1 ∈ TB := tb_of 1287 (by decide +kernel) (by decide +kernel)
theorem lkRX6_126 : Cond.fieldLink RX6 126 (TX6 73).1 (TX6 73).2.1 (TX6 73).2.2.1 ∈ TB := tb_of 1288 (by decide +kernel) (by decide +kernel)
theorem lkRX6_129 : Cond.fieldLink RX6 129 (TX6 0).1 (TX6 0).2.1 (TX6 0).2.2.1 ∈ TB := tb_of 1215 (by decide +kernel) (by decide +kernel)
theorem lkRX6_132 : Cond.fieldLink RX6 132 (TX6 13).1 (TX6 13).2.1 (TX6 13).2.2.1 ∈ TB := tb_of 1228 (by decide +kernel) (by decide +kernel)
theorem lkRX6_139 : Cond.fieldLink RX6 139 (TX6 17).1 (TX6 17).2.1 (TX6 17).2.2.1 ∈ TB := tb_of 1232 (by decide +kernel) (by decide +kernel)
theorem lkRX6_142 : Cond.fieldLink RX6 142 (TX6 18).1 (TX6 18).2.1 (TX6 18).2.2.1 ∈ TB := tb_of 1233 (by decide +kernel) (by decide +kernel)
theorem lkRX6_149 : Cond.fieldLink RX6 149 (TX6 20).1 (TX6 20).2.1 (TX6 20).2.2.1 ∈ TB := tb_of 1235 (by decide +kernel) (by decide +kernel)
theorem lkRX6_152 : Cond.fieldLink RX6 152 (TX6 24).1 (TX6 24).2.1 (TX6 24).2.2.1 ∈ TB := tb_of 1239 (by decide +kernel) (by decide +kernel)
theorem lkRX6_156 : Cond.fieldLink RX6 156 (TX6 22).1 (TX6 22).2.1 (TX6 22).2.2.1 ∈ TB := tb_of 1237 (by decide +kernel) (by decide +kernel)
theorem lkRX6_159 : Cond.fieldLink RX6 159 (TX6 23).1 (TX6 23).2.1 (TX6 23).2.2.1 ∈ TB := tb_of 1238 (by decide +kernel) (by decide +kernel)
theorem lkRX6_162 : Cond.fieldLink RX6 162 (TX6 19).1 (TX6 19).2.1 (TX6 19).2.2.1 ∈ TB := tb_of 1234 (by decide +kernel) (by decide +kernel)
theorem lkRX6_172 : Cond.fieldLink RX6 172 (TX6 21).1 (TX6 21).2.1 (TX6 21).2.2.1 ∈ TB := tb_of 1236 (by decide +kernel) (by decide +kernel)
theorem lkRX6_185 : Cond.fieldLink RX6 185 (TX6 14).1 (TX6 14).2.1 (TX6 14).2.2.1 ∈ TB := tb_of 1229 (by decide +kernel) (by decide +kernel)
theorem lkRX6_202 : Cond.fieldLink RX6 202 (TX6 31).1 (TX6 31).2.1 (TX6 31).2.2.1 ∈ TB := tb_of 1246 (by decide +kernel) (by decide +kernel)
theorem lkRX6_205 : Cond.fieldLink RX6 205 (TX6 32).1 (TX6 32).2.1 (TX6 32).2.2.1 ∈ TB := tb_of 1247 (by decide +kernel) (by decide +kernel)
theorem lkRX6_221 : Cond.fieldLink RX6 221 (TX6 33).1 (TX6 33).2.1 (TX6 33).2.2.1 ∈ TB := tb_of 1248 (by decide +kernel) (by decide +kernel)
theorem lkRX6_249 : Cond.fieldLink RX6 249 (TX6 25).1 (TX6 25).2.1 (TX6 25).2.2.1 ∈ TB := tb_of 1240 (by decide +kernel) (by decide +kernel)
theorem lkRX6_256 : Cond.fieldLink RX6 256 (TX6 26).1 (TX6 26).2.1 (TX6 26).2.2.1 ∈ TB := tb_of 1241 (by decide +kernel) (by decide +kernel)
theorem lkRX6_259 : Cond.fieldLink RX6 259 (TX6 30).1 (TX6 30).2.1 (TX6 30).2.2.1 ∈ TB := tb_of 1245 (by decide +kernel) (by decide +kernel)
theorem lkRX6_262 : Cond.fieldLink RX6 262 (TX6 34).1 (TX6 34).2.1 (TX6 34).2.2.1 ∈ TB := tb_of 1249 (by decide +kernel) (by decide +kernel)
theorem lkRX6_269 : Cond.fieldLink RX6 269 (TX6 27).1 (TX6 27).2.1 (TX6 27).2.2.1 ∈ TB := tb_of 1242 (by decide +kernel) (by decide +kernel)
theorem lkRX6_272 : Cond.fieldLink RX6 272 (TX6 35).1 (TX6 35).2.1 (TX6 35).2.2.1 ∈ TB := tb_of 1250 (by decide +kernel) (by decide +kernel)
theorem lkRX6_275 : Cond.fieldLink RX6 275 (TX6 28).1 (TX6 28).2.1 (TX6 28).2.2.1 ∈ TB := tb_of 1243 (by decide +kernel) (by decide +kernel)
theorem lkRX6_281 : Cond.fieldLink RX6 281 (TX6 29).1 (TX6 29).2.1 (TX6 29).2.2.1 ∈ TB := tb_of 1244 (by decide +kernel) (by decide +kernel)
theorem lkRX6_297 : Cond.fieldLink RX6 297 (TX6 3).1 (TX6 3).2.1 (TX6 3).2.2.1 ∈ TB := tb_of 1218 (by decide +kernel) (by decide +kernel)
theorem lkRX6_300 : Cond.fieldLink RX6 300 (TX6 4).1 (TX6 4).2.1 (TX6 4).2.2.1 ∈ TB := tb_of 1219 (by decide +kernel) (by decide +kernel)
theorem lkRX6_303 : Cond.fieldLink RX6 303 (TX6 5).1 (TX6 5).2.1 (TX6 5).2.2.1 ∈ TB := tb_of 1220 (by decide +kernel) (by decide +kernel)
theorem lkRX6_310 : Cond.fieldLink RX6 310 (TX6 49).1 (TX6 49).2.1 (TX6 49).2.2.1 ∈ TB := tb_of 1264 (by decide +kernel) (by decide +kernel)
theorem lkRX6_313 : Cond.fieldLink RX6 313 (TX6 65).1 (TX6 65).2.1 (TX6 65).2.2.1 ∈ TB := tb_of 1280 (by decide +kernel) (by decide +kernel)
theorem lkRX6_316 : Cond.fieldLink RX6 316 (TX6 61).1 (TX6 61).2.1 (TX6 61).2.2.1 ∈ TB := tb_of 1276 (by decide +kernel) (by decide +kernel)
theorem lkRX6_320 : Cond.fieldLink RX6 320 (TX6 68).1 (TX6 68).2.1 (TX6 68).2.2.1 ∈ TB := tb_of 1283 (by decide +kernel) (by decide +kernel)
theorem lkRX6_338 : Cond.fieldLink RX6 338 (TX6 54).1 (TX6 54).2.1 (TX6 54).2.2.1 ∈ TB := tb_of 1269 (by decide +kernel) (by decide +kernel)
theorem lkRX6_351 : Cond.fieldLink RX6 351 (TX6 55).1 (TX6 55).2.1 (TX6 55).2.2.1 ∈ TB := tb_of 1270 (by decide +kernel) (by decide +kernel)
theorem lkRX6_354 : Cond.fieldLink RX6 354 (TX6 56).1 (TX6 56).2.1 (TX6 56).2.2.1 ∈ TB := tb_of 1271 (by decide +kernel) (by decide +kernel)
theorem lkRX6_463 : Cond.fieldLink RX6 463 (TX6 67).1 (TX6 67).2.1 (TX6 67).2.2.1 ∈ TB := tb_of 1282 (by decide +kernel) (by decide +kernel)
theorem lkRX6_473 : Cond.fieldLink RX6 473 (TX6 69).1 (TX6 69).2.1 (TX6 69).2.2.1 ∈ TB := tb_of 1284 (by decide +kernel) (by decide +kernel)
theorem lkRX6_476 : Cond.fieldLink RX6 476 (TX6 70).1 (TX6 70).2.1 (TX6 70).2.2.1 ∈ TB := tb_of 1285 (by decide +kernel) (by decide +kernel)
theorem kcRX5_341 : Cond.constant RX5 341 (Int32.ofInt 1103515245) ∈ TB := tb_of 1172 (by decide +kernel) (by decide +kernel)
theorem kcRX6_175 : Cond.constantLong RX6 175 (Int64.ofInt 96) ∈ TB := tb_of 1483 (by decide +kernel) (by decide +kernel)
theorem kcRX6_466 : Cond.constant RX6 466 (Int32.ofInt 1103515245) ∈ TB := tb_of 1860 (by decide +kernel) (by decide +kernel)
theorem kcRJ6_265 : Cond.constant RJ6 265 (Int32.ofInt 1431655765) ∈ TB := tb_of 531 (by decide +kernel) (by decide +kernel)
theorem kcRJ6_266 : Cond.constant RJ6 266 (Int32.ofInt 858993459) ∈ TB := tb_of 532 (by decide +kernel) (by decide +kernel)
theorem kcRJ6_267 : Cond.constant RJ6 267 (Int32.ofInt 252645135) ∈ TB := tb_of 533 (by decide +kernel) (by decide +kernel)
theorem slkRX3_114 : Cond.fieldLink RX3 114 RX5 "STEP_X" "[I" ∈ TB ∨ Cond.fieldLinkNest RX3 114 RX5 "STEP_X" "[I" RX5 ∈ TBN := Or.inr (tbn_of 506 (by decide +kernel) (by decide +kernel))
theorem slkRX3_117 : Cond.fieldLink RX3 117 RX5 "STEP_Y" "[I" ∈ TB ∨ Cond.fieldLinkNest RX3 117 RX5 "STEP_Y" "[I" RX5 ∈ TBN := Or.inr (tbn_of 508 (by decide +kernel) (by decide +kernel))
theorem cplRX5_211 : Cond.methodLink RX5 211 arraycopyName ∈ TB := tb_of 537 (by decide +kernel) (by decide +kernel)
theorem cplRX0_29 : Cond.methodLink RX0 29 arraycopyName ∈ TB := tb_of 390 (by decide +kernel) (by decide +kernel)
theorem cplRX3_31 : Cond.methodLink RX3 31 arraycopyName ∈ TB := tb_of 474 (by decide +kernel) (by decide +kernel)
theorem cplRX4_38 : Cond.methodLink RX4 38 arraycopyName ∈ TB := tb_of 1109 (by decide +kernel) (by decide +kernel)
theorem cd_J6_bitCount_0f7a4 : yJ6_bitCount_0f7a4.cls ≠ "java/lang/invoke/MethodHandle" ∧ yJ6_bitCount_0f7a4.cls ≠ "java/lang/invoke/VarHandle" ∧ (parseMethodDescriptor yJ6_bitCount_0f7a4.desc).map (fun d => d.parameters.length) = some 1 := by decide +kernel
theorem cd_J9_abs_0f7a4 : yJ9_abs_0f7a4.cls ≠ "java/lang/invoke/MethodHandle" ∧ yJ9_abs_0f7a4.cls ≠ "java/lang/invoke/VarHandle" ∧ (parseMethodDescriptor yJ9_abs_0f7a4.desc).map (fun d => d.parameters.length) = some 1 := by decide +kernel
theorem cd_J9_max_7cf53 : yJ9_max_7cf53.cls ≠ "java/lang/invoke/MethodHandle" ∧ yJ9_max_7cf53.cls ≠ "java/lang/invoke/VarHandle" ∧ (parseMethodDescriptor yJ9_max_7cf53.desc).map (fun d => d.parameters.length) = some 2 := by decide +kernel
theorem cd_J9_min_7cf53 : yJ9_min_7cf53.cls ≠ "java/lang/invoke/MethodHandle" ∧ yJ9_min_7cf53.cls ≠ "java/lang/invoke/VarHandle" ∧ (parseMethodDescriptor yJ9_min_7cf53.desc).map (fun d => d.parameters.length) = some 2 := by decide +kernel
theorem cd_X0_begin : yX0_begin.cls ≠ "java/lang/invoke/MethodHandle" ∧ yX0_begin.cls ≠ "java/lang/invoke/VarHandle" ∧ (parseMethodDescriptor yX0_begin.desc).map (fun d => d.parameters.length) = some 1 := by decide +kernel
theorem cd_X0_latest : yX0_latest.cls ≠ "java/lang/invoke/MethodHandle" ∧ yX0_latest.cls ≠ "java/lang/invoke/VarHandle" ∧ (parseMethodDescriptor yX0_latest.desc).map (fun d => d.parameters.length) = some 0 := by decide +kernel
theorem cd_X0_recall : yX0_recall.cls ≠ "java/lang/invoke/MethodHandle" ∧ yX0_recall.cls ≠ "java/lang/invoke/VarHandle" ∧ (parseMethodDescriptor yX0_recall.desc).map (fun d => d.parameters.length) = some 0 := by decide +kernel
theorem cd_X0_remember : yX0_remember.cls ≠ "java/lang/invoke/MethodHandle" ∧ yX0_remember.cls ≠ "java/lang/invoke/VarHandle" ∧ (parseMethodDescriptor yX0_remember.desc).map (fun d => d.parameters.length) = some 0 := by decide +kernel
theorem cd_X0_write : yX0_write.cls ≠ "java/lang/invoke/MethodHandle" ∧ yX0_write.cls ≠ "java/lang/invoke/VarHandle" ∧ (parseMethodDescriptor yX0_write.desc).map (fun d => d.parameters.length) = some 2 := by decide +kernel
theorem cd_X1_cells : yX1_cells.cls ≠ "java/lang/invoke/MethodHandle" ∧ yX1_cells.cls ≠ "java/lang/invoke/VarHandle" ∧ (parseMethodDescriptor yX1_cells.desc).map (fun d => d.parameters.length) = some 0 := by decide +kernel
theorem cd_X1_clear : yX1_clear.cls ≠ "java/lang/invoke/MethodHandle" ∧ yX1_clear.cls ≠ "java/lang/invoke/VarHandle" ∧ (parseMethodDescriptor yX1_clear.desc).map (fun d => d.parameters.length) = some 0 := by decide +kernel
theorem cd_X1_fogOf : yX1_fogOf.cls ≠ "java/lang/invoke/MethodHandle" ∧ yX1_fogOf.cls ≠ "java/lang/invoke/VarHandle" ∧ (parseMethodDescriptor yX1_fogOf.desc).map (fun d => d.parameters.length) = some 1 := by decide +kernel
theorem cd_X1_houseIn : yX1_houseIn.cls ≠ "java/lang/invoke/MethodHandle" ∧ yX1_houseIn.cls ≠ "java/lang/invoke/VarHandle" ∧ (parseMethodDescriptor yX1_houseIn.desc).map (fun d => d.parameters.length) = some 1 := by decide +kernel
theorem cd_X2_isDigit : yX2_isDigit.cls ≠ "java/lang/invoke/MethodHandle" ∧ yX2_isDigit.cls ≠ "java/lang/invoke/VarHandle" ∧ (parseMethodDescriptor yX2_isDigit.desc).map (fun d => d.parameters.length) = some 1 := by decide +kernel
theorem cd_X2_isLetter : yX2_isLetter.cls ≠ "java/lang/invoke/MethodHandle" ∧ yX2_isLetter.cls ≠ "java/lang/invoke/VarHandle" ∧ (parseMethodDescriptor yX2_isLetter.desc).map (fun d => d.parameters.length) = some 1 := by decide +kernel
theorem cd_X2_isSign : yX2_isSign.cls ≠ "java/lang/invoke/MethodHandle" ∧ yX2_isSign.cls ≠ "java/lang/invoke/VarHandle" ∧ (parseMethodDescriptor yX2_isSign.desc).map (fun d => d.parameters.length) = some 1 := by decide +kernel
theorem cd_X2_isWord : yX2_isWord.cls ≠ "java/lang/invoke/MethodHandle" ∧ yX2_isWord.cls ≠ "java/lang/invoke/VarHandle" ∧ (parseMethodDescriptor yX2_isWord.desc).map (fun d => d.parameters.length) = some 1 := by decide +kernel
theorem cd_X2_makeWait : yX2_makeWait.cls ≠ "java/lang/invoke/MethodHandle" ∧ yX2_makeWait.cls ≠ "java/lang/invoke/VarHandle" ∧ (parseMethodDescriptor yX2_makeWait.desc).map (fun d => d.parameters.length) = some 1 := by decide +kernel
theorem cd_X2_numberHere : yX2_numberHere.cls ≠ "java/lang/invoke/MethodHandle" ∧ yX2_numberHere.cls ≠ "java/lang/invoke/VarHandle" ∧ (parseMethodDescriptor yX2_numberHere.desc).map (fun d => d.parameters.length) = some 2 := by decide +kernel
theorem cd_X2_operatorHere : yX2_operatorHere.cls ≠ "java/lang/invoke/MethodHandle" ∧ yX2_operatorHere.cls ≠ "java/lang/invoke/VarHandle" ∧ (parseMethodDescriptor yX2_operatorHere.desc).map (fun d => d.parameters.length) = some 0 := by decide +kernel
theorem cd_X2_put : yX2_put.cls ≠ "java/lang/invoke/MethodHandle" ∧ yX2_put.cls ≠ "java/lang/invoke/VarHandle" ∧ (parseMethodDescriptor yX2_put.desc).map (fun d => d.parameters.length) = some 1 := by decide +kernel
theorem cd_X2_rankOf : yX2_rankOf.cls ≠ "java/lang/invoke/MethodHandle" ∧ yX2_rankOf.cls ≠ "java/lang/invoke/VarHandle" ∧ (parseMethodDescriptor yX2_rankOf.desc).map (fun d => d.parameters.length) = some 1 := by decide +kernel
theorem cd_X2_read : yX2_read.cls ≠ "java/lang/invoke/MethodHandle" ∧ yX2_read.cls ≠ "java/lang/invoke/VarHandle" ∧ (parseMethodDescriptor yX2_read.desc).map (fun d => d.parameters.length) = some 2 := by decide +kernel
theorem cd_X2_readBehind : yX2_readBehind.cls ≠ "java/lang/invoke/MethodHandle" ∧ yX2_readBehind.cls ≠ "java/lang/invoke/VarHandle" ∧ (parseMethodDescriptor yX2_readBehind.desc).map (fun d => d.parameters.length) = some 0 := by decide +kernel
theorem cd_X2_readFogs : yX2_readFogs.cls ≠ "java/lang/invoke/MethodHandle" ∧ yX2_readFogs.cls ≠ "java/lang/invoke/VarHandle" ∧ (parseMethodDescriptor yX2_readFogs.desc).map (fun d => d.parameters.length) = some 0 := by decide +kernel
theorem cd_X2_readHeight : yX2_readHeight.cls ≠ "java/lang/invoke/MethodHandle" ∧ yX2_readHeight.cls ≠ "java/lang/invoke/VarHandle" ∧ (parseMethodDescriptor yX2_readHeight.desc).map (fun d => d.parameters.length) = some 0 := by decide +kernel
theorem cd_X2_readHouse : yX2_readHouse.cls ≠ "java/lang/invoke/MethodHandle" ∧ yX2_readHouse.cls ≠ "java/lang/invoke/VarHandle" ∧ (parseMethodDescriptor yX2_readHouse.desc).map (fun d => d.parameters.length) = some 1 := by decide +kernel
theorem cd_X2_readLaw : yX2_readLaw.cls ≠ "java/lang/invoke/MethodHandle" ∧ yX2_readLaw.cls ≠ "java/lang/invoke/VarHandle" ∧ (parseMethodDescriptor yX2_readLaw.desc).map (fun d => d.parameters.length) = some 0 := by decide +kernel
theorem cd_X2_readLine : yX2_readLine.cls ≠ "java/lang/invoke/MethodHandle" ∧ yX2_readLine.cls ≠ "java/lang/invoke/VarHandle" ∧ (parseMethodDescriptor yX2_readLine.desc).map (fun d => d.parameters.length) = some 0 := by decide +kernel
theorem cd_X2_readPart : yX2_readPart.cls ≠ "java/lang/invoke/MethodHandle" ∧ yX2_readPart.cls ≠ "java/lang/invoke/VarHandle" ∧ (parseMethodDescriptor yX2_readPart.desc).map (fun d => d.parameters.length) = some 1 := by decide +kernel
theorem cd_X2_readSize : yX2_readSize.cls ≠ "java/lang/invoke/MethodHandle" ∧ yX2_readSize.cls ≠ "java/lang/invoke/VarHandle" ∧ (parseMethodDescriptor yX2_readSize.desc).map (fun d => d.parameters.length) = some 0 := by decide +kernel
theorem cd_X2_readTree : yX2_readTree.cls ≠ "java/lang/invoke/MethodHandle" ∧ yX2_readTree.cls ≠ "java/lang/invoke/VarHandle" ∧ (parseMethodDescriptor yX2_readTree.desc).map (fun d => d.parameters.length) = some 0 := by decide +kernel
theorem cd_X2_refuse : yX2_refuse.cls ≠ "java/lang/invoke/MethodHandle" ∧ yX2_refuse.cls ≠ "java/lang/invoke/VarHandle" ∧ (parseMethodDescriptor yX2_refuse.desc).map (fun d => d.parameters.length) = some 1 := by decide +kernel
theorem cd_X2_settle : yX2_settle.cls ≠ "java/lang/invoke/MethodHandle" ∧ yX2_settle.cls ≠ "java/lang/invoke/VarHandle" ∧ (parseMethodDescriptor yX2_settle.desc).map (fun d => d.parameters.length) = some 1 := by decide +kernel
theorem cd_X2_take : yX2_take.cls ≠ "java/lang/invoke/MethodHandle" ∧ yX2_take.cls ≠ "java/lang/invoke/VarHandle" ∧ (parseMethodDescriptor yX2_take.desc).map (fun d => d.parameters.length) = some 0 := by decide +kernel
theorem cd_X2_takeEndOfLine : yX2_takeEndOfLine.cls ≠ "java/lang/invoke/MethodHandle" ∧ yX2_takeEndOfLine.cls ≠ "java/lang/invoke/VarHandle" ∧ (parseMethodDescriptor yX2_takeEndOfLine.desc).map (fun d => d.parameters.length) = some 0 := by decide +kernel
theorem cd_X2_takenCell : yX2_takenCell.cls ≠ "java/lang/invoke/MethodHandle" ∧ yX2_takenCell.cls ≠ "java/lang/invoke/VarHandle" ∧ (parseMethodDescriptor yX2_takenCell.desc).map (fun d => d.parameters.length) = some 1 := by decide +kernel
theorem cd_X2_takenNumber : yX2_takenNumber.cls ≠ "java/lang/invoke/MethodHandle" ∧ yX2_takenNumber.cls ≠ "java/lang/invoke/VarHandle" ∧ (parseMethodDescriptor yX2_takenNumber.desc).map (fun d => d.parameters.length) = some 2 := by decide +kernel
theorem cd_X2_valueHere : yX2_valueHere.cls ≠ "java/lang/invoke/MethodHandle" ∧ yX2_valueHere.cls ≠ "java/lang/invoke/VarHandle" ∧ (parseMethodDescriptor yX2_valueHere.desc).map (fun d => d.parameters.length) = some 0 := by decide +kernel
theorem cd_X3_allWithin : yX3_allWithin.cls ≠ "java/lang/invoke/MethodHandle" ∧ yX3_allWithin.cls ≠ "java/lang/invoke/VarHandle" ∧ (parseMethodDescriptor yX3_allWithin.desc).map (fun d => d.parameters.length) = some 2 := by decide +kernel
theorem cd_X3_dropTree : yX3_dropTree.cls ≠ "java/lang/invoke/MethodHandle" ∧ yX3_dropTree.cls ≠ "java/lang/invoke/VarHandle" ∧ (parseMethodDescriptor yX3_dropTree.desc).map (fun d => d.parameters.length) = some 1 := by decide +kernel
theorem cd_X3_freeCells : yX3_freeCells.cls ≠ "java/lang/invoke/MethodHandle" ∧ yX3_freeCells.cls ≠ "java/lang/invoke/VarHandle" ∧ (parseMethodDescriptor yX3_freeCells.desc).map (fun d => d.parameters.length) = some 0 := by decide +kernel
theorem cd_X3_housesInView : yX3_housesInView.cls ≠ "java/lang/invoke/MethodHandle" ∧ yX3_housesInView.cls ≠ "java/lang/invoke/VarHandle" ∧ (parseMethodDescriptor yX3_housesInView.desc).map (fun d => d.parameters.length) = some 0 := by decide +kernel
theorem cd_X3_housesSeenFrom : yX3_housesSeenFrom.cls ≠ "java/lang/invoke/MethodHandle" ∧ yX3_housesSeenFrom.cls ≠ "java/lang/invoke/VarHandle" ∧ (parseMethodDescriptor yX3_housesSeenFrom.desc).map (fun d => d.parameters.length) = some 1 := by decide +kernel
theorem cd_X3_housesThatCanPay : yX3_housesThatCanPay.cls ≠ "java/lang/invoke/MethodHandle" ∧ yX3_housesThatCanPay.cls ≠ "java/lang/invoke/VarHandle" ∧ (parseMethodDescriptor yX3_housesThatCanPay.desc).map (fun d => d.parameters.length) = some 0 := by decide +kernel
theorem cd_X3_housesThatLie : yX3_housesThatLie.cls ≠ "java/lang/invoke/MethodHandle" ∧ yX3_housesThatLie.cls ≠ "java/lang/invoke/VarHandle" ∧ (parseMethodDescriptor yX3_housesThatLie.desc).map (fun d => d.parameters.length) = some 1 := by decide +kernel
theorem cd_X3_housesThatSee : yX3_housesThatSee.cls ≠ "java/lang/invoke/MethodHandle" ∧ yX3_housesThatSee.cls ≠ "java/lang/invoke/VarHandle" ∧ (parseMethodDescriptor yX3_housesThatSee.desc).map (fun d => d.parameters.length) = some 1 := by decide +kernel
theorem cd_X3_leastPurse : yX3_leastPurse.cls ≠ "java/lang/invoke/MethodHandle" ∧ yX3_leastPurse.cls ≠ "java/lang/invoke/VarHandle" ∧ (parseMethodDescriptor yX3_leastPurse.desc).map (fun d => d.parameters.length) = some 0 := by decide +kernel
theorem cd_X3_look : yX3_look.cls ≠ "java/lang/invoke/MethodHandle" ∧ yX3_look.cls ≠ "java/lang/invoke/VarHandle" ∧ (parseMethodDescriptor yX3_look.desc).map (fun d => d.parameters.length) = some 4 := by decide +kernel
theorem cd_X3_lookAlong : yX3_lookAlong.cls ≠ "java/lang/invoke/MethodHandle" ∧ yX3_lookAlong.cls ≠ "java/lang/invoke/VarHandle" ∧ (parseMethodDescriptor yX3_lookAlong.desc).map (fun d => d.parameters.length) = some 1 := by decide +kernel
theorem cd_X3_lookFrom : yX3_lookFrom.cls ≠ "java/lang/invoke/MethodHandle" ∧ yX3_lookFrom.cls ≠ "java/lang/invoke/VarHandle" ∧ (parseMethodDescriptor yX3_lookFrom.desc).map (fun d => d.parameters.length) = some 1 := by decide +kernel
theorem cd_X3_looksOver : yX3_looksOver.cls ≠ "java/lang/invoke/MethodHandle" ∧ yX3_looksOver.cls ≠ "java/lang/invoke/VarHandle" ∧ (parseMethodDescriptor yX3_looksOver.desc).map (fun d => d.parameters.length) = some 1 := by decide +kernel
theorem cd_X3_milesOf : yX3_milesOf.cls ≠ "java/lang/invoke/MethodHandle" ∧ yX3_milesOf.cls ≠ "java/lang/invoke/VarHandle" ∧ (parseMethodDescriptor yX3_milesOf.desc).map (fun d => d.parameters.length) = some 1 := by decide +kernel
theorem cd_X3_mostBy : yX3_mostBy.cls ≠ "java/lang/invoke/MethodHandle" ∧ yX3_mostBy.cls ≠ "java/lang/invoke/VarHandle" ∧ (parseMethodDescriptor yX3_mostBy.desc).map (fun d => d.parameters.length) = some 1 := by decide +kernel
theorem cd_X3_passYear : yX3_passYear.cls ≠ "java/lang/invoke/MethodHandle" ∧ yX3_passYear.cls ≠ "java/lang/invoke/VarHandle" ∧ (parseMethodDescriptor yX3_passYear.desc).map (fun d => d.parameters.length) = some 0 := by decide +kernel
theorem cd_X3_raise : yX3_raise.cls ≠ "java/lang/invoke/MethodHandle" ∧ yX3_raise.cls ≠ "java/lang/invoke/VarHandle" ∧ (parseMethodDescriptor yX3_raise.desc).map (fun d => d.parameters.length) = some 2 := by decide +kernel
theorem cd_X3_reshape : yX3_reshape.cls ≠ "java/lang/invoke/MethodHandle" ∧ yX3_reshape.cls ≠ "java/lang/invoke/VarHandle" ∧ (parseMethodDescriptor yX3_reshape.desc).map (fun d => d.parameters.length) = some 2 := by decide +kernel
theorem cd_X3_show : yX3_show.cls ≠ "java/lang/invoke/MethodHandle" ∧ yX3_show.cls ≠ "java/lang/invoke/VarHandle" ∧ (parseMethodDescriptor yX3_show.desc).map (fun d => d.parameters.length) = some 2 := by decide +kernel
theorem cd_X3_sumBy : yX3_sumBy.cls ≠ "java/lang/invoke/MethodHandle" ∧ yX3_sumBy.cls ≠ "java/lang/invoke/VarHandle" ∧ (parseMethodDescriptor yX3_sumBy.desc).map (fun d => d.parameters.length) = some 1 := by decide +kernel
theorem cd_X3_taxBy : yX3_taxBy.cls ≠ "java/lang/invoke/MethodHandle" ∧ yX3_taxBy.cls ≠ "java/lang/invoke/VarHandle" ∧ (parseMethodDescriptor yX3_taxBy.desc).map (fun d => d.parameters.length) = some 1 := by decide +kernel
theorem cd_X3_taxOf : yX3_taxOf.cls ≠ "java/lang/invoke/MethodHandle" ∧ yX3_taxOf.cls ≠ "java/lang/invoke/VarHandle" ∧ (parseMethodDescriptor yX3_taxOf.desc).map (fun d => d.parameters.length) = some 1 := by decide +kernel
theorem cd_X3_taxOfAll : yX3_taxOfAll.cls ≠ "java/lang/invoke/MethodHandle" ∧ yX3_taxOfAll.cls ≠ "java/lang/invoke/VarHandle" ∧ (parseMethodDescriptor yX3_taxOfAll.desc).map (fun d => d.parameters.length) = some 0 := by decide +kernel
theorem cd_X3_taxOfVilla : yX3_taxOfVilla.cls ≠ "java/lang/invoke/MethodHandle" ∧ yX3_taxOfVilla.cls ≠ "java/lang/invoke/VarHandle" ∧ (parseMethodDescriptor yX3_taxOfVilla.desc).map (fun d => d.parameters.length) = some 1 := by decide +kernel
theorem cd_X3_together : yX3_together.cls ≠ "java/lang/invoke/MethodHandle" ∧ yX3_together.cls ≠ "java/lang/invoke/VarHandle" ∧ (parseMethodDescriptor yX3_together.desc).map (fun d => d.parameters.length) = some 3 := by decide +kernel
theorem cd_X3_valueOf : yX3_valueOf.cls ≠ "java/lang/invoke/MethodHandle" ∧ yX3_valueOf.cls ≠ "java/lang/invoke/VarHandle" ∧ (parseMethodDescriptor yX3_valueOf.desc).map (fun d => d.parameters.length) = some 1 := by decide +kernel
theorem cd_X4_find : yX4_find.cls ≠ "java/lang/invoke/MethodHandle" ∧ yX4_find.cls ≠ "java/lang/invoke/VarHandle" ∧ (parseMethodDescriptor yX4_find.desc).map (fun d => d.parameters.length) = some 2 := by decide +kernel
theorem cd_X4_goOn : yX4_goOn.cls ≠ "java/lang/invoke/MethodHandle" ∧ yX4_goOn.cls ≠ "java/lang/invoke/VarHandle" ∧ (parseMethodDescriptor yX4_goOn.desc).map (fun d => d.parameters.length) = some 4 := by decide +kernel
theorem cd_X4_stepsBetween : yX4_stepsBetween.cls ≠ "java/lang/invoke/MethodHandle" ∧ yX4_stepsBetween.cls ≠ "java/lang/invoke/VarHandle" ∧ (parseMethodDescriptor yX4_stepsBetween.desc).map (fun d => d.parameters.length) = some 2 := by decide +kernel
theorem cd_X5_actOn : yX5_actOn.cls ≠ "java/lang/invoke/MethodHandle" ∧ yX5_actOn.cls ≠ "java/lang/invoke/VarHandle" ∧ (parseMethodDescriptor yX5_actOn.desc).map (fun d => d.parameters.length) = some 2 := by decide +kernel
theorem cd_X5_draw : yX5_draw.cls ≠ "java/lang/invoke/MethodHandle" ∧ yX5_draw.cls ≠ "java/lang/invoke/VarHandle" ∧ (parseMethodDescriptor yX5_draw.desc).map (fun d => d.parameters.length) = some 2 := by decide +kernel
theorem cd_X5_firsHelp : yX5_firsHelp.cls ≠ "java/lang/invoke/MethodHandle" ∧ yX5_firsHelp.cls ≠ "java/lang/invoke/VarHandle" ∧ (parseMethodDescriptor yX5_firsHelp.desc).map (fun d => d.parameters.length) = some 4 := by decide +kernel
theorem cd_X5_freeNumber : yX5_freeNumber.cls ≠ "java/lang/invoke/MethodHandle" ∧ yX5_freeNumber.cls ≠ "java/lang/invoke/VarHandle" ∧ (parseMethodDescriptor yX5_freeNumber.desc).map (fun d => d.parameters.length) = some 1 := by decide +kernel
theorem cd_X5_hasBit : yX5_hasBit.cls ≠ "java/lang/invoke/MethodHandle" ∧ yX5_hasBit.cls ≠ "java/lang/invoke/VarHandle" ∧ (parseMethodDescriptor yX5_hasBit.desc).map (fun d => d.parameters.length) = some 2 := by decide +kernel
theorem cd_X5_houseBits : yX5_houseBits.cls ≠ "java/lang/invoke/MethodHandle" ∧ yX5_houseBits.cls ≠ "java/lang/invoke/VarHandle" ∧ (parseMethodDescriptor yX5_houseBits.desc).map (fun d => d.parameters.length) = some 0 := by decide +kernel
theorem cd_X5_isLawOrNone : yX5_isLawOrNone.cls ≠ "java/lang/invoke/MethodHandle" ∧ yX5_isLawOrNone.cls ≠ "java/lang/invoke/VarHandle" ∧ (parseMethodDescriptor yX5_isLawOrNone.desc).map (fun d => d.parameters.length) = some 1 := by decide +kernel
theorem cd_X5_isTax : yX5_isTax.cls ≠ "java/lang/invoke/MethodHandle" ∧ yX5_isTax.cls ≠ "java/lang/invoke/VarHandle" ∧ (parseMethodDescriptor yX5_isTax.desc).map (fun d => d.parameters.length) = some 1 := by decide +kernel
theorem cd_X5_keepFirs : yX5_keepFirs.cls ≠ "java/lang/invoke/MethodHandle" ∧ yX5_keepFirs.cls ≠ "java/lang/invoke/VarHandle" ∧ (parseMethodDescriptor yX5_keepFirs.desc).map (fun d => d.parameters.length) = some 3 := by decide +kernel
theorem cd_X5_lossOf : yX5_lossOf.cls ≠ "java/lang/invoke/MethodHandle" ∧ yX5_lossOf.cls ≠ "java/lang/invoke/VarHandle" ∧ (parseMethodDescriptor yX5_lossOf.desc).map (fun d => d.parameters.length) = some 5 := by decide +kernel
theorem cd_X5_needCell : yX5_needCell.cls ≠ "java/lang/invoke/MethodHandle" ∧ yX5_needCell.cls ≠ "java/lang/invoke/VarHandle" ∧ (parseMethodDescriptor yX5_needCell.desc).map (fun d => d.parameters.length) = some 1 := by decide +kernel
theorem cd_X5_needDirection : yX5_needDirection.cls ≠ "java/lang/invoke/MethodHandle" ∧ yX5_needDirection.cls ≠ "java/lang/invoke/VarHandle" ∧ (parseMethodDescriptor yX5_needDirection.desc).map (fun d => d.parameters.length) = some 1 := by decide +kernel
theorem cd_X5_needHouse : yX5_needHouse.cls ≠ "java/lang/invoke/MethodHandle" ∧ yX5_needHouse.cls ≠ "java/lang/invoke/VarHandle" ∧ (parseMethodDescriptor yX5_needHouse.desc).map (fun d => d.parameters.length) = some 1 := by decide +kernel
theorem cd_X5_needTree : yX5_needTree.cls ≠ "java/lang/invoke/MethodHandle" ∧ yX5_needTree.cls ≠ "java/lang/invoke/VarHandle" ∧ (parseMethodDescriptor yX5_needTree.desc).map (fun d => d.parameters.length) = some 1 := by decide +kernel
theorem cd_X5_needWhat : yX5_needWhat.cls ≠ "java/lang/invoke/MethodHandle" ∧ yX5_needWhat.cls ≠ "java/lang/invoke/VarHandle" ∧ (parseMethodDescriptor yX5_needWhat.desc).map (fun d => d.parameters.length) = some 2 := by decide +kernel
theorem cd_X5_nextSeed : yX5_nextSeed.cls ≠ "java/lang/invoke/MethodHandle" ∧ yX5_nextSeed.cls ≠ "java/lang/invoke/VarHandle" ∧ (parseMethodDescriptor yX5_nextSeed.desc).map (fun d => d.parameters.length) = some 1 := by decide +kernel
theorem cd_X5_present : yX5_present.cls ≠ "java/lang/invoke/MethodHandle" ∧ yX5_present.cls ≠ "java/lang/invoke/VarHandle" ∧ (parseMethodDescriptor yX5_present.desc).map (fun d => d.parameters.length) = some 0 := by decide +kernel
theorem cd_X5_putBytes : yX5_putBytes.cls ≠ "java/lang/invoke/MethodHandle" ∧ yX5_putBytes.cls ≠ "java/lang/invoke/VarHandle" ∧ (parseMethodDescriptor yX5_putBytes.desc).map (fun d => d.parameters.length) = some 1 := by decide +kernel
theorem cd_X5_restsWith : yX5_restsWith.cls ≠ "java/lang/invoke/MethodHandle" ∧ yX5_restsWith.cls ≠ "java/lang/invoke/VarHandle" ∧ (parseMethodDescriptor yX5_restsWith.desc).map (fun d => d.parameters.length) = some 6 := by decide +kernel
theorem cd_X5_treeIn : yX5_treeIn.cls ≠ "java/lang/invoke/MethodHandle" ∧ yX5_treeIn.cls ≠ "java/lang/invoke/VarHandle" ∧ (parseMethodDescriptor yX5_treeIn.desc).map (fun d => d.parameters.length) = some 2 := by decide +kernel
theorem cd_X5_treesStanding : yX5_treesStanding.cls ≠ "java/lang/invoke/MethodHandle" ∧ yX5_treesStanding.cls ≠ "java/lang/invoke/VarHandle" ∧ (parseMethodDescriptor yX5_treesStanding.desc).map (fun d => d.parameters.length) = some 1 := by decide +kernel
theorem cd_X6_across : yX6_across.cls ≠ "java/lang/invoke/MethodHandle" ∧ yX6_across.cls ≠ "java/lang/invoke/VarHandle" ∧ (parseMethodDescriptor yX6_across.desc).map (fun d => d.parameters.length) = some 1 := by decide +kernel
theorem cd_X6_arePaying : yX6_arePaying.cls ≠ "java/lang/invoke/MethodHandle" ∧ yX6_arePaying.cls ≠ "java/lang/invoke/VarHandle" ∧ (parseMethodDescriptor yX6_arePaying.desc).map (fun d => d.parameters.length) = some 2 := by decide +kernel
theorem cd_X6_becomes : yX6_becomes.cls ≠ "java/lang/invoke/MethodHandle" ∧ yX6_becomes.cls ≠ "java/lang/invoke/VarHandle" ∧ (parseMethodDescriptor yX6_becomes.desc).map (fun d => d.parameters.length) = some 2 := by decide +kernel
theorem cd_X6_bits : yX6_bits.cls ≠ "java/lang/invoke/MethodHandle" ∧ yX6_bits.cls ≠ "java/lang/invoke/VarHandle" ∧ (parseMethodDescriptor yX6_bits.desc).map (fun d => d.parameters.length) = some 1 := by decide +kernel
theorem cd_X6_byteAt : yX6_byteAt.cls ≠ "java/lang/invoke/MethodHandle" ∧ yX6_byteAt.cls ≠ "java/lang/invoke/VarHandle" ∧ (parseMethodDescriptor yX6_byteAt.desc).map (fun d => d.parameters.length) = some 1 := by decide +kernel
theorem cd_X6_cellNext : yX6_cellNext.cls ≠ "java/lang/invoke/MethodHandle" ∧ yX6_cellNext.cls ≠ "java/lang/invoke/VarHandle" ∧ (parseMethodDescriptor yX6_cellNext.desc).map (fun d => d.parameters.length) = some 1 := by decide +kernel
theorem cd_X6_cells : yX6_cells.cls ≠ "java/lang/invoke/MethodHandle" ∧ yX6_cells.cls ≠ "java/lang/invoke/VarHandle" ∧ (parseMethodDescriptor yX6_cells.desc).map (fun d => d.parameters.length) = some 0 := by decide +kernel
theorem cd_X6_changes : yX6_changes.cls ≠ "java/lang/invoke/MethodHandle" ∧ yX6_changes.cls ≠ "java/lang/invoke/VarHandle" ∧ (parseMethodDescriptor yX6_changes.desc).map (fun d => d.parameters.length) = some 2 := by decide +kernel
theorem cd_X6_closes : yX6_closes.cls ≠ "java/lang/invoke/MethodHandle" ∧ yX6_closes.cls ≠ "java/lang/invoke/VarHandle" ∧ (parseMethodDescriptor yX6_closes.desc).map (fun d => d.parameters.length) = some 0 := by decide +kernel
theorem cd_X6_copies : yX6_copies.cls ≠ "java/lang/invoke/MethodHandle" ∧ yX6_copies.cls ≠ "java/lang/invoke/VarHandle" ∧ (parseMethodDescriptor yX6_copies.desc).map (fun d => d.parameters.length) = some 2 := by decide +kernel
theorem cd_X6_deeper : yX6_deeper.cls ≠ "java/lang/invoke/MethodHandle" ∧ yX6_deeper.cls ≠ "java/lang/invoke/VarHandle" ∧ (parseMethodDescriptor yX6_deeper.desc).map (fun d => d.parameters.length) = some 0 := by decide +kernel
theorem cd_X6_down : yX6_down.cls ≠ "java/lang/invoke/MethodHandle" ∧ yX6_down.cls ≠ "java/lang/invoke/VarHandle" ∧ (parseMethodDescriptor yX6_down.desc).map (fun d => d.parameters.length) = some 1 := by decide +kernel
theorem cd_X6_draw : yX6_draw.cls ≠ "java/lang/invoke/MethodHandle" ∧ yX6_draw.cls ≠ "java/lang/invoke/VarHandle" ∧ (parseMethodDescriptor yX6_draw.desc).map (fun d => d.parameters.length) = some 1 := by decide +kernel
theorem cd_X6_drops : yX6_drops.cls ≠ "java/lang/invoke/MethodHandle" ∧ yX6_drops.cls ≠ "java/lang/invoke/VarHandle" ∧ (parseMethodDescriptor yX6_drops.desc).map (fun d => d.parameters.length) = some 1 := by decide +kernel
theorem cd_X6_expression : yX6_expression.cls ≠ "java/lang/invoke/MethodHandle" ∧ yX6_expression.cls ≠ "java/lang/invoke/VarHandle" ∧ (parseMethodDescriptor yX6_expression.desc).map (fun d => d.parameters.length) = some 0 := by decide +kernel
theorem cd_X6_eyeOf : yX6_eyeOf.cls ≠ "java/lang/invoke/MethodHandle" ∧ yX6_eyeOf.cls ≠ "java/lang/invoke/VarHandle" ∧ (parseMethodDescriptor yX6_eyeOf.desc).map (fun d => d.parameters.length) = some 1 := by decide +kernel
theorem cd_X6_firsFor : yX6_firsFor.cls ≠ "java/lang/invoke/MethodHandle" ∧ yX6_firsFor.cls ≠ "java/lang/invoke/VarHandle" ∧ (parseMethodDescriptor yX6_firsFor.desc).map (fun d => d.parameters.length) = some 2 := by decide +kernel
theorem cd_X6_fogNow : yX6_fogNow.cls ≠ "java/lang/invoke/MethodHandle" ∧ yX6_fogNow.cls ≠ "java/lang/invoke/VarHandle" ∧ (parseMethodDescriptor yX6_fogNow.desc).map (fun d => d.parameters.length) = some 0 := by decide +kernel
theorem cd_X6_goes : yX6_goes.cls ≠ "java/lang/invoke/MethodHandle" ∧ yX6_goes.cls ≠ "java/lang/invoke/VarHandle" ∧ (parseMethodDescriptor yX6_goes.desc).map (fun d => d.parameters.length) = some 0 := by decide +kernel
theorem cd_X6_houseIn : yX6_houseIn.cls ≠ "java/lang/invoke/MethodHandle" ∧ yX6_houseIn.cls ≠ "java/lang/invoke/VarHandle" ∧ (parseMethodDescriptor yX6_houseIn.desc).map (fun d => d.parameters.length) = some 1 := by decide +kernel
theorem cd_X6_housesSeen : yX6_housesSeen.cls ≠ "java/lang/invoke/MethodHandle" ∧ yX6_housesSeen.cls ≠ "java/lang/invoke/VarHandle" ∧ (parseMethodDescriptor yX6_housesSeen.desc).map (fun d => d.parameters.length) = some 1 := by decide +kernel
theorem cd_X6_isBare : yX6_isBare.cls ≠ "java/lang/invoke/MethodHandle" ∧ yX6_isBare.cls ≠ "java/lang/invoke/VarHandle" ∧ (parseMethodDescriptor yX6_isBare.desc).map (fun d => d.parameters.length) = some 1 := by decide +kernel
theorem cd_X6_isCell : yX6_isCell.cls ≠ "java/lang/invoke/MethodHandle" ∧ yX6_isCell.cls ≠ "java/lang/invoke/VarHandle" ∧ (parseMethodDescriptor yX6_isCell.desc).map (fun d => d.parameters.length) = some 1 := by decide +kernel
theorem cd_X6_isDigit : yX6_isDigit.cls ≠ "java/lang/invoke/MethodHandle" ∧ yX6_isDigit.cls ≠ "java/lang/invoke/VarHandle" ∧ (parseMethodDescriptor yX6_isDigit.desc).map (fun d => d.parameters.length) = some 1 := by decide +kernel
theorem cd_X6_isGood : yX6_isGood.cls ≠ "java/lang/invoke/MethodHandle" ∧ yX6_isGood.cls ≠ "java/lang/invoke/VarHandle" ∧ (parseMethodDescriptor yX6_isGood.desc).map (fun d => d.parameters.length) = some 0 := by decide +kernel
theorem cd_X6_isHouse : yX6_isHouse.cls ≠ "java/lang/invoke/MethodHandle" ∧ yX6_isHouse.cls ≠ "java/lang/invoke/VarHandle" ∧ (parseMethodDescriptor yX6_isHouse.desc).map (fun d => d.parameters.length) = some 1 := by decide +kernel
theorem cd_X6_isLetter : yX6_isLetter.cls ≠ "java/lang/invoke/MethodHandle" ∧ yX6_isLetter.cls ≠ "java/lang/invoke/VarHandle" ∧ (parseMethodDescriptor yX6_isLetter.desc).map (fun d => d.parameters.length) = some 1 := by decide +kernel
theorem cd_X6_isOpen : yX6_isOpen.cls ≠ "java/lang/invoke/MethodHandle" ∧ yX6_isOpen.cls ≠ "java/lang/invoke/VarHandle" ∧ (parseMethodDescriptor yX6_isOpen.desc).map (fun d => d.parameters.length) = some 1 := by decide +kernel
theorem cd_X6_isOpened : yX6_isOpened.cls ≠ "java/lang/invoke/MethodHandle" ∧ yX6_isOpened.cls ≠ "java/lang/invoke/VarHandle" ∧ (parseMethodDescriptor yX6_isOpened.desc).map (fun d => d.parameters.length) = some 0 := by decide +kernel
theorem cd_X6_isPoor : yX6_isPoor.cls ≠ "java/lang/invoke/MethodHandle" ∧ yX6_isPoor.cls ≠ "java/lang/invoke/VarHandle" ∧ (parseMethodDescriptor yX6_isPoor.desc).map (fun d => d.parameters.length) = some 0 := by decide +kernel
theorem cd_X6_isRuin : yX6_isRuin.cls ≠ "java/lang/invoke/MethodHandle" ∧ yX6_isRuin.cls ≠ "java/lang/invoke/VarHandle" ∧ (parseMethodDescriptor yX6_isRuin.desc).map (fun d => d.parameters.length) = some 1 := by decide +kernel
theorem cd_X6_isSign : yX6_isSign.cls ≠ "java/lang/invoke/MethodHandle" ∧ yX6_isSign.cls ≠ "java/lang/invoke/VarHandle" ∧ (parseMethodDescriptor yX6_isSign.desc).map (fun d => d.parameters.length) = some 1 := by decide +kernel
theorem cd_X6_isTree : yX6_isTree.cls ≠ "java/lang/invoke/MethodHandle" ∧ yX6_isTree.cls ≠ "java/lang/invoke/VarHandle" ∧ (parseMethodDescriptor yX6_isTree.desc).map (fun d => d.parameters.length) = some 1 := by decide +kernel
theorem cd_X6_isWhat : yX6_isWhat.cls ≠ "java/lang/invoke/MethodHandle" ∧ yX6_isWhat.cls ≠ "java/lang/invoke/VarHandle" ∧ (parseMethodDescriptor yX6_isWhat.desc).map (fun d => d.parameters.length) = some 2 := by decide +kernel
theorem cd_X6_keeps : yX6_keeps.cls ≠ "java/lang/invoke/MethodHandle" ∧ yX6_keeps.cls ≠ "java/lang/invoke/VarHandle" ∧ (parseMethodDescriptor yX6_keeps.desc).map (fun d => d.parameters.length) = some 0 := by decide +kernel
theorem cd_X6_knownWord : yX6_knownWord.cls ≠ "java/lang/invoke/MethodHandle" ∧ yX6_knownWord.cls ≠ "java/lang/invoke/VarHandle" ∧ (parseMethodDescriptor yX6_knownWord.desc).map (fun d => d.parameters.length) = some 0 := by decide +kernel
theorem cd_X6_lays : yX6_lays.cls ≠ "java/lang/invoke/MethodHandle" ∧ yX6_lays.cls ≠ "java/lang/invoke/VarHandle" ∧ (parseMethodDescriptor yX6_lays.desc).map (fun d => d.parameters.length) = some 1 := by decide +kernel
theorem cd_X6_laysOut : yX6_laysOut.cls ≠ "java/lang/invoke/MethodHandle" ∧ yX6_laysOut.cls ≠ "java/lang/invoke/VarHandle" ∧ (parseMethodDescriptor yX6_laysOut.desc).map (fun d => d.parameters.length) = some 0 := by decide +kernel
theorem cd_X6_letters : yX6_letters.cls ≠ "java/lang/invoke/MethodHandle" ∧ yX6_letters.cls ≠ "java/lang/invoke/VarHandle" ∧ (parseMethodDescriptor yX6_letters.desc).map (fun d => d.parameters.length) = some 1 := by decide +kernel
theorem cd_X6_liarsNow : yX6_liarsNow.cls ≠ "java/lang/invoke/MethodHandle" ∧ yX6_liarsNow.cls ≠ "java/lang/invoke/VarHandle" ∧ (parseMethodDescriptor yX6_liarsNow.desc).map (fun d => d.parameters.length) = some 0 := by decide +kernel
theorem cd_X6_line : yX6_line.cls ≠ "java/lang/invoke/MethodHandle" ∧ yX6_line.cls ≠ "java/lang/invoke/VarHandle" ∧ (parseMethodDescriptor yX6_line.desc).map (fun d => d.parameters.length) = some 0 := by decide +kernel
theorem cd_X6_looks : yX6_looks.cls ≠ "java/lang/invoke/MethodHandle" ∧ yX6_looks.cls ≠ "java/lang/invoke/VarHandle" ∧ (parseMethodDescriptor yX6_looks.desc).map (fun d => d.parameters.length) = some 4 := by decide +kernel
theorem cd_X6_loses : yX6_loses.cls ≠ "java/lang/invoke/MethodHandle" ∧ yX6_loses.cls ≠ "java/lang/invoke/VarHandle" ∧ (parseMethodDescriptor yX6_loses.desc).map (fun d => d.parameters.length) = some 4 := by decide +kernel
theorem cd_X6_milesIn : yX6_milesIn.cls ≠ "java/lang/invoke/MethodHandle" ∧ yX6_milesIn.cls ≠ "java/lang/invoke/VarHandle" ∧ (parseMethodDescriptor yX6_milesIn.desc).map (fun d => d.parameters.length) = some 2 := by decide +kernel
theorem cd_X6_mostBy : yX6_mostBy.cls ≠ "java/lang/invoke/MethodHandle" ∧ yX6_mostBy.cls ≠ "java/lang/invoke/VarHandle" ∧ (parseMethodDescriptor yX6_mostBy.desc).map (fun d => d.parameters.length) = some 1 := by decide +kernel
theorem cd_X6_need : yX6_need.cls ≠ "java/lang/invoke/MethodHandle" ∧ yX6_need.cls ≠ "java/lang/invoke/VarHandle" ∧ (parseMethodDescriptor yX6_need.desc).map (fun d => d.parameters.length) = some 1 := by decide +kernel
theorem cd_X6_nextRow : yX6_nextRow.cls ≠ "java/lang/invoke/MethodHandle" ∧ yX6_nextRow.cls ≠ "java/lang/invoke/VarHandle" ∧ (parseMethodDescriptor yX6_nextRow.desc).map (fun d => d.parameters.length) = some 0 := by decide +kernel
theorem cd_X6_number : yX6_number.cls ≠ "java/lang/invoke/MethodHandle" ∧ yX6_number.cls ≠ "java/lang/invoke/VarHandle" ∧ (parseMethodDescriptor yX6_number.desc).map (fun d => d.parameters.length) = some 2 := by decide +kernel
theorem cd_X6_numberHere : yX6_numberHere.cls ≠ "java/lang/invoke/MethodHandle" ∧ yX6_numberHere.cls ≠ "java/lang/invoke/VarHandle" ∧ (parseMethodDescriptor yX6_numberHere.desc).map (fun d => d.parameters.length) = some 2 := by decide +kernel
theorem cd_X6_off : yX6_off.cls ≠ "java/lang/invoke/MethodHandle" ∧ yX6_off.cls ≠ "java/lang/invoke/VarHandle" ∧ (parseMethodDescriptor yX6_off.desc).map (fun d => d.parameters.length) = some 2 := by decide +kernel
theorem cd_X6_operand : yX6_operand.cls ≠ "java/lang/invoke/MethodHandle" ∧ yX6_operand.cls ≠ "java/lang/invoke/VarHandle" ∧ (parseMethodDescriptor yX6_operand.desc).map (fun d => d.parameters.length) = some 1 := by decide +kernel
theorem cd_X6_part : yX6_part.cls ≠ "java/lang/invoke/MethodHandle" ∧ yX6_part.cls ≠ "java/lang/invoke/VarHandle" ∧ (parseMethodDescriptor yX6_part.desc).map (fun d => d.parameters.length) = some 0 := by decide +kernel
theorem cd_X6_puts : yX6_puts.cls ≠ "java/lang/invoke/MethodHandle" ∧ yX6_puts.cls ≠ "java/lang/invoke/VarHandle" ∧ (parseMethodDescriptor yX6_puts.desc).map (fun d => d.parameters.length) = some 1 := by decide +kernel
theorem cd_X6_readsFogs : yX6_readsFogs.cls ≠ "java/lang/invoke/MethodHandle" ∧ yX6_readsFogs.cls ≠ "java/lang/invoke/VarHandle" ∧ (parseMethodDescriptor yX6_readsFogs.desc).map (fun d => d.parameters.length) = some 0 := by decide +kernel
theorem cd_X6_reckons : yX6_reckons.cls ≠ "java/lang/invoke/MethodHandle" ∧ yX6_reckons.cls ≠ "java/lang/invoke/VarHandle" ∧ (parseMethodDescriptor yX6_reckons.desc).map (fun d => d.parameters.length) = some 1 := by decide +kernel
theorem cd_X6_refuses : yX6_refuses.cls ≠ "java/lang/invoke/MethodHandle" ∧ yX6_refuses.cls ≠ "java/lang/invoke/VarHandle" ∧ (parseMethodDescriptor yX6_refuses.desc).map (fun d => d.parameters.length) = some 2 := by decide +kernel
theorem cd_X6_right : yX6_right.cls ≠ "java/lang/invoke/MethodHandle" ∧ yX6_right.cls ≠ "java/lang/invoke/VarHandle" ∧ (parseMethodDescriptor yX6_right.desc).map (fun d => d.parameters.length) = some 2 := by decide +kernel
theorem cd_X6_seenFrom : yX6_seenFrom.cls ≠ "java/lang/invoke/MethodHandle" ∧ yX6_seenFrom.cls ≠ "java/lang/invoke/VarHandle" ∧ (parseMethodDescriptor yX6_seenFrom.desc).map (fun d => d.parameters.length) = some 1 := by decide +kernel
theorem cd_X6_sees : yX6_sees.cls ≠ "java/lang/invoke/MethodHandle" ∧ yX6_sees.cls ≠ "java/lang/invoke/VarHandle" ∧ (parseMethodDescriptor yX6_sees.desc).map (fun d => d.parameters.length) = some 1 := by decide +kernel
theorem cd_X6_spelled : yX6_spelled.cls ≠ "java/lang/invoke/MethodHandle" ∧ yX6_spelled.cls ≠ "java/lang/invoke/VarHandle" ∧ (parseMethodDescriptor yX6_spelled.desc).map (fun d => d.parameters.length) = some 6 := by decide +kernel
theorem cd_X6_stepsTo : yX6_stepsTo.cls ≠ "java/lang/invoke/MethodHandle" ∧ yX6_stepsTo.cls ≠ "java/lang/invoke/VarHandle" ∧ (parseMethodDescriptor yX6_stepsTo.desc).map (fun d => d.parameters.length) = some 2 := by decide +kernel
theorem cd_X6_strength : yX6_strength.cls ≠ "java/lang/invoke/MethodHandle" ∧ yX6_strength.cls ≠ "java/lang/invoke/VarHandle" ∧ (parseMethodDescriptor yX6_strength.desc).map (fun d => d.parameters.length) = some 1 := by decide +kernel
theorem cd_X6_sum : yX6_sum.cls ≠ "java/lang/invoke/MethodHandle" ∧ yX6_sum.cls ≠ "java/lang/invoke/VarHandle" ∧ (parseMethodDescriptor yX6_sum.desc).map (fun d => d.parameters.length) = some 0 := by decide +kernel
theorem cd_X6_sumBy : yX6_sumBy.cls ≠ "java/lang/invoke/MethodHandle" ∧ yX6_sumBy.cls ≠ "java/lang/invoke/VarHandle" ∧ (parseMethodDescriptor yX6_sumBy.desc).map (fun d => d.parameters.length) = some 1 := by decide +kernel
theorem cd_X6_taxBy : yX6_taxBy.cls ≠ "java/lang/invoke/MethodHandle" ∧ yX6_taxBy.cls ≠ "java/lang/invoke/VarHandle" ∧ (parseMethodDescriptor yX6_taxBy.desc).map (fun d => d.parameters.length) = some 2 := by decide +kernel
theorem cd_X6_taxOf : yX6_taxOf.cls ≠ "java/lang/invoke/MethodHandle" ∧ yX6_taxOf.cls ≠ "java/lang/invoke/VarHandle" ∧ (parseMethodDescriptor yX6_taxOf.desc).map (fun d => d.parameters.length) = some 1 := by decide +kernel
theorem cd_X6_treeIn : yX6_treeIn.cls ≠ "java/lang/invoke/MethodHandle" ∧ yX6_treeIn.cls ≠ "java/lang/invoke/VarHandle" ∧ (parseMethodDescriptor yX6_treeIn.desc).map (fun d => d.parameters.length) = some 1 := by decide +kernel
theorem cd_X6_treesStand : yX6_treesStand.cls ≠ "java/lang/invoke/MethodHandle" ∧ yX6_treesStand.cls ≠ "java/lang/invoke/VarHandle" ∧ (parseMethodDescriptor yX6_treesStand.desc).map (fun d => d.parameters.length) = some 0 := by decide +kernel
theorem cd_X6_villaIn : yX6_villaIn.cls ≠ "java/lang/invoke/MethodHandle" ∧ yX6_villaIn.cls ≠ "java/lang/invoke/VarHandle" ∧ (parseMethodDescriptor yX6_villaIn.desc).map (fun d => d.parameters.length) = some 1 := by decide +kernel
theorem cd_X6_waitsFor : yX6_waitsFor.cls ≠ "java/lang/invoke/MethodHandle" ∧ yX6_waitsFor.cls ≠ "java/lang/invoke/VarHandle" ∧ (parseMethodDescriptor yX6_waitsFor.desc).map (fun d => d.parameters.length) = some 1 := by decide +kernel
theorem cd_X6_within : yX6_within.cls ≠ "java/lang/invoke/MethodHandle" ∧ yX6_within.cls ≠ "java/lang/invoke/VarHandle" ∧ (parseMethodDescriptor yX6_within.desc).map (fun d => d.parameters.length) = some 3 := by decide +kernel
theorem cd_X6_works : yX6_works.cls ≠ "java/lang/invoke/MethodHandle" ∧ yX6_works.cls ≠ "java/lang/invoke/VarHandle" ∧ (parseMethodDescriptor yX6_works.desc).map (fun d => d.parameters.length) = some 3 := by decide +kernel
theorem cd_X6_wrong : yX6_wrong.cls ≠ "java/lang/invoke/MethodHandle" ∧ yX6_wrong.cls ≠ "java/lang/invoke/VarHandle" ∧ (parseMethodDescriptor yX6_wrong.desc).map (fun d => d.parameters.length) = some 1 := by decide +kernel
theorem cd_X6_yearGoes : yX6_yearGoes.cls ≠ "java/lang/invoke/MethodHandle" ∧ yX6_yearGoes.cls ≠ "java/lang/invoke/VarHandle" ∧ (parseMethodDescriptor yX6_yearGoes.desc).map (fun d => d.parameters.length) = some 0 := by decide +kernel
