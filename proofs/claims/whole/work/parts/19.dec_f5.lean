theorem dX6_ruined_0 : decode cX6_ruined 0 = .ok (.aload_n 0, 1) := by decide +kernel
theorem dX6_ruined_1 : decode cX6_ruined 1 = .ok (.iconst 0, 1) := by decide +kernel
theorem dX6_ruined_2 : decode cX6_ruined 2 = .ok (.putfield 129, 3) := by decide +kernel
theorem dX6_ruined_5 : decode cX6_ruined 5 = .ok (.aload_n 0, 1) := by decide +kernel
theorem dX6_ruined_6 : decode cX6_ruined 6 = .ok (.aload_n 0, 1) := by decide +kernel
theorem dX6_ruined_7 : decode cX6_ruined 7 = .ok (.getfield 75, 3) := by decide +kernel
theorem dX6_ruined_10 : decode cX6_ruined 10 = .ok (.aload_n 0, 1) := by decide +kernel
theorem dX6_ruined_11 : decode cX6_ruined 11 = .ok (.getfield 78, 3) := by decide +kernel
theorem dX6_ruined_14 : decode cX6_ruined 14 = .ok (.invokevirtual 306, 3) := by decide +kernel
theorem dX6_ruined_17 : decode cX6_ruined 17 = .ok (.iconst 0, 1) := by decide +kernel
theorem dX6_ruined_18 : decode cX6_ruined 18 = .ok (.istore_n 1, 1) := by decide +kernel
theorem dX6_ruined_19 : decode cX6_ruined 19 = .ok (.iload_n 1, 1) := by decide +kernel
theorem dX6_ruined_20 : decode cX6_ruined 20 = .ok (.bipush 50, 2) := by decide +kernel
theorem dX6_ruined_22 : decode cX6_ruined 22 = .ok (.if_icmp .gt 21, 3) := by decide +kernel
theorem dX6_ruined_25 : decode cX6_ruined 25 = .ok (.aload_n 0, 1) := by decide +kernel
theorem dX6_ruined_26 : decode cX6_ruined 26 = .ok (.invokevirtual 460, 3) := by decide +kernel
theorem dX6_ruined_29 : decode cX6_ruined 29 = .ok (.ifCond .ne 14, 3) := by decide +kernel
theorem dX6_ruined_32 : decode cX6_ruined 32 = .ok (.aload_n 0, 1) := by decide +kernel
theorem dX6_ruined_33 : decode cX6_ruined 33 = .ok (.invokevirtual 419, 3) := by decide +kernel
theorem dX6_ruined_36 : decode cX6_ruined 36 = .ok (.pop, 1) := by decide +kernel
theorem dX6_ruined_37 : decode cX6_ruined 37 = .ok (.iinc 1 1, 3) := by decide +kernel
theorem dX6_ruined_40 : decode cX6_ruined 40 = .ok (.goto (-21), 3) := by decide +kernel
theorem dX6_ruined_43 : decode cX6_ruined 43 = .ok (.aload_n 0, 1) := by decide +kernel
theorem dX6_ruined_44 : decode cX6_ruined 44 = .ok (.aload_n 0, 1) := by decide +kernel
theorem dX6_ruined_45 : decode cX6_ruined 45 = .ok (.getfield 78, 3) := by decide +kernel
theorem dX6_ruined_48 : decode cX6_ruined 48 = .ok (.aload_n 0, 1) := by decide +kernel
theorem dX6_ruined_49 : decode cX6_ruined 49 = .ok (.getfield 75, 3) := by decide +kernel
theorem dX6_ruined_52 : decode cX6_ruined 52 = .ok (.invokevirtual 306, 3) := by decide +kernel
theorem dX6_ruined_55 : decode cX6_ruined 55 = .ok (.iload_n 1, 1) := by decide +kernel
theorem dX6_ruined_56 : decode cX6_ruined 56 = .ok (.bipush 50, 2) := by decide +kernel
theorem dX6_ruined_58 : decode cX6_ruined 58 = .ok (.if_icmp .le 7, 3) := by decide +kernel
theorem dX6_ruined_61 : decode cX6_ruined 61 = .ok (.iconst (-1), 1) := by decide +kernel
theorem dX6_ruined_62 : decode cX6_ruined 62 = .ok (.goto 4, 3) := by decide +kernel
theorem dX6_ruined_65 : decode cX6_ruined 65 = .ok (.iload_n 1, 1) := by decide +kernel
theorem dX6_ruined_66 : decode cX6_ruined 66 = .ok (.ireturn, 1) := by decide +kernel
theorem dX6_draw_0 : decode cX6_draw 0 = .ok (.aload_n 0, 1) := by decide +kernel
theorem dX6_draw_1 : decode cX6_draw 1 = .ok (.aload_n 0, 1) := by decide +kernel
theorem dX6_draw_2 : decode cX6_draw 2 = .ok (.getfield 463, 3) := by decide +kernel
theorem dX6_draw_5 : decode cX6_draw 5 = .ok (.ldc_w 466, 3) := by decide +kernel
theorem dX6_draw_8 : decode cX6_draw 8 = .ok (.imul, 1) := by decide +kernel
theorem dX6_draw_9 : decode cX6_draw 9 = .ok (.sipush 12345, 3) := by decide +kernel
theorem dX6_draw_12 : decode cX6_draw 12 = .ok (.iadd, 1) := by decide +kernel
theorem dX6_draw_13 : decode cX6_draw 13 = .ok (.putfield 463, 3) := by decide +kernel
theorem dX6_draw_16 : decode cX6_draw 16 = .ok (.aload_n 0, 1) := by decide +kernel
theorem dX6_draw_17 : decode cX6_draw 17 = .ok (.getfield 463, 3) := by decide +kernel
theorem dX6_draw_20 : decode cX6_draw 20 = .ok (.bipush 16, 2) := by decide +kernel
theorem dX6_draw_22 : decode cX6_draw 22 = .ok (.ishr, 1) := by decide +kernel
theorem dX6_draw_23 : decode cX6_draw 23 = .ok (.sipush 32767, 3) := by decide +kernel
theorem dX6_draw_26 : decode cX6_draw 26 = .ok (.iand, 1) := by decide +kernel
theorem dX6_draw_27 : decode cX6_draw 27 = .ok (.iload_n 1, 1) := by decide +kernel
theorem dX6_draw_28 : decode cX6_draw 28 = .ok (.irem, 1) := by decide +kernel
theorem dX6_draw_29 : decode cX6_draw 29 = .ok (.ireturn, 1) := by decide +kernel
theorem dX6_decades_0 : decode cX6_decades 0 = .ok (.aload_n 0, 1) := by decide +kernel
theorem dX6_decades_1 : decode cX6_decades 1 = .ok (.iconst 0, 1) := by decide +kernel
theorem dX6_decades_2 : decode cX6_decades 2 = .ok (.putfield 129, 3) := by decide +kernel
theorem dX6_decades_5 : decode cX6_decades 5 = .ok (.aload_n 0, 1) := by decide +kernel
theorem dX6_decades_6 : decode cX6_decades 6 = .ok (.iload_n 3, 1) := by decide +kernel
theorem dX6_decades_7 : decode cX6_decades 7 = .ok (.iconst 2, 1) := by decide +kernel
theorem dX6_decades_8 : decode cX6_decades 8 = .ok (.invokevirtual 398, 3) := by decide +kernel
theorem dX6_decades_11 : decode cX6_decades 11 = .ok (.ifCond .eq 18, 3) := by decide +kernel
theorem dX6_decades_14 : decode cX6_decades 14 = .ok (.aload_n 0, 1) := by decide +kernel
theorem dX6_decades_15 : decode cX6_decades 15 = .ok (.iload_n 2, 1) := by decide +kernel
theorem dX6_decades_16 : decode cX6_decades 16 = .ok (.iconst 0, 1) := by decide +kernel
theorem dX6_decades_17 : decode cX6_decades 17 = .ok (.bipush 40, 2) := by decide +kernel
theorem dX6_decades_19 : decode cX6_decades 19 = .ok (.invokestatic 385, 3) := by decide +kernel
theorem dX6_decades_22 : decode cX6_decades 22 = .ok (.iconst 2, 1) := by decide +kernel
theorem dX6_decades_23 : decode cX6_decades 23 = .ok (.invokevirtual 290, 3) := by decide +kernel
theorem dX6_decades_26 : decode cX6_decades 26 = .ok (.ifCond .ne 5, 3) := by decide +kernel
theorem dX6_decades_29 : decode cX6_decades 29 = .ok (.iconst 0, 1) := by decide +kernel
theorem dX6_decades_30 : decode cX6_decades 30 = .ok (.ireturn, 1) := by decide +kernel
theorem dX6_decades_31 : decode cX6_decades 31 = .ok (.aload_n 0, 1) := by decide +kernel
theorem dX6_decades_32 : decode cX6_decades 32 = .ok (.aload_n 0, 1) := by decide +kernel
theorem dX6_decades_33 : decode cX6_decades 33 = .ok (.getfield 75, 3) := by decide +kernel
theorem dX6_decades_36 : decode cX6_decades 36 = .ok (.aload_n 0, 1) := by decide +kernel
theorem dX6_decades_37 : decode cX6_decades 37 = .ok (.getfield 78, 3) := by decide +kernel
theorem dX6_decades_40 : decode cX6_decades 40 = .ok (.invokevirtual 306, 3) := by decide +kernel
theorem dX6_decades_43 : decode cX6_decades 43 = .ok (.aload_n 0, 1) := by decide +kernel
theorem dX6_decades_44 : decode cX6_decades 44 = .ok (.iload_n 1, 1) := by decide +kernel
theorem dX6_decades_45 : decode cX6_decades 45 = .ok (.putfield 463, 3) := by decide +kernel
theorem dX6_decades_48 : decode cX6_decades 48 = .ok (.iconst 0, 1) := by decide +kernel
theorem dX6_decades_49 : decode cX6_decades 49 = .ok (.istore 4, 2) := by decide +kernel
theorem dX6_decades_51 : decode cX6_decades 51 = .ok (.iconst 0, 1) := by decide +kernel
theorem dX6_decades_52 : decode cX6_decades 52 = .ok (.istore 5, 2) := by decide +kernel
theorem dX6_decades_54 : decode cX6_decades 54 = .ok (.iload 5, 2) := by decide +kernel
theorem dX6_decades_56 : decode cX6_decades 56 = .ok (.iload_n 2, 1) := by decide +kernel
theorem dX6_decades_57 : decode cX6_decades 57 = .ok (.if_icmp .ge 60, 3) := by decide +kernel
theorem dX6_decades_60 : decode cX6_decades 60 = .ok (.aload_n 0, 1) := by decide +kernel
theorem dX6_decades_61 : decode cX6_decades 61 = .ok (.aload_n 0, 1) := by decide +kernel
theorem dX6_decades_62 : decode cX6_decades 62 = .ok (.aload_n 0, 1) := by decide +kernel
theorem dX6_decades_63 : decode cX6_decades 63 = .ok (.invokevirtual 323, 3) := by decide +kernel
theorem dX6_decades_66 : decode cX6_decades 66 = .ok (.invokevirtual 467, 3) := by decide +kernel
theorem dX6_decades_69 : decode cX6_decades 69 = .ok (.invokevirtual 329, 3) := by decide +kernel
theorem dX6_decades_72 : decode cX6_decades 72 = .ok (.istore 6, 2) := by decide +kernel
theorem dX6_decades_74 : decode cX6_decades 74 = .ok (.iload 6, 2) := by decide +kernel
theorem dX6_decades_76 : decode cX6_decades 76 = .ok (.iconst (-1), 1) := by decide +kernel
theorem dX6_decades_77 : decode cX6_decades 77 = .ok (.if_icmp .eq 13, 3) := by decide +kernel
theorem dX6_decades_80 : decode cX6_decades 80 = .ok (.aload_n 0, 1) := by decide +kernel
theorem dX6_decades_81 : decode cX6_decades 81 = .ok (.getfield 75, 3) := by decide +kernel
theorem dX6_decades_84 : decode cX6_decades 84 = .ok (.iconst 0, 1) := by decide +kernel
theorem dX6_decades_85 : decode cX6_decades 85 = .ok (.iload 6, 2) := by decide +kernel
theorem dX6_decades_87 : decode cX6_decades 87 = .ok (.iadd, 1) := by decide +kernel
theorem dX6_decades_88 : decode cX6_decades 88 = .ok (.iconst (-1), 1) := by decide +kernel
theorem dX6_decades_89 : decode cX6_decades 89 = .ok (.iastore, 1) := by decide +kernel
theorem dX6_decades_90 : decode cX6_decades 90 = .ok (.aload_n 0, 1) := by decide +kernel
theorem dX6_decades_91 : decode cX6_decades 91 = .ok (.aload_n 0, 1) := by decide +kernel
theorem dX6_decades_92 : decode cX6_decades 92 = .ok (.bipush 9, 2) := by decide +kernel
theorem dX6_decades_94 : decode cX6_decades 94 = .ok (.invokevirtual 467, 3) := by decide +kernel
theorem dX6_decades_97 : decode cX6_decades 97 = .ok (.iconst 1, 1) := by decide +kernel
theorem dX6_decades_98 : decode cX6_decades 98 = .ok (.iadd, 1) := by decide +kernel
theorem dX6_decades_99 : decode cX6_decades 99 = .ok (.putfield 87, 3) := by decide +kernel
theorem dX6_decades_102 : decode cX6_decades 102 = .ok (.iload 4, 2) := by decide +kernel
theorem dX6_decades_104 : decode cX6_decades 104 = .ok (.aload_n 0, 1) := by decide +kernel
theorem dX6_decades_105 : decode cX6_decades 105 = .ok (.invokevirtual 419, 3) := by decide +kernel
theorem dX6_decades_108 : decode cX6_decades 108 = .ok (.iadd, 1) := by decide +kernel
theorem dX6_decades_109 : decode cX6_decades 109 = .ok (.istore 4, 2) := by decide +kernel
theorem dX6_decades_111 : decode cX6_decades 111 = .ok (.iinc 5 1, 3) := by decide +kernel
theorem dX6_decades_114 : decode cX6_decades 114 = .ok (.goto (-60), 3) := by decide +kernel
theorem dX6_decades_117 : decode cX6_decades 117 = .ok (.aload_n 0, 1) := by decide +kernel
theorem dX6_decades_118 : decode cX6_decades 118 = .ok (.iconst (-1), 1) := by decide +kernel
theorem dX6_decades_119 : decode cX6_decades 119 = .ok (.putfield 87, 3) := by decide +kernel
theorem dX6_decades_122 : decode cX6_decades 122 = .ok (.aload_n 0, 1) := by decide +kernel
theorem dX6_decades_123 : decode cX6_decades 123 = .ok (.invokevirtual 389, 3) := by decide +kernel
theorem dX6_decades_126 : decode cX6_decades 126 = .ok (.istore 5, 2) := by decide +kernel
theorem dX6_decades_128 : decode cX6_decades 128 = .ok (.iconst 0, 1) := by decide +kernel
theorem dX6_decades_129 : decode cX6_decades 129 = .ok (.istore 6, 2) := by decide +kernel
theorem dX6_decades_131 : decode cX6_decades 131 = .ok (.iconst 0, 1) := by decide +kernel
theorem dX6_decades_132 : decode cX6_decades 132 = .ok (.istore 7, 2) := by decide +kernel
theorem dX6_decades_134 : decode cX6_decades 134 = .ok (.iload 7, 2) := by decide +kernel
theorem dX6_decades_136 : decode cX6_decades 136 = .ok (.aload_n 0, 1) := by decide +kernel
theorem dX6_decades_137 : decode cX6_decades 137 = .ok (.getfield 297, 3) := by decide +kernel
theorem dX6_decades_140 : decode cX6_decades 140 = .ok (.if_icmp .ge 46, 3) := by decide +kernel
theorem dX6_decades_143 : decode cX6_decades 143 = .ok (.iload 7, 2) := by decide +kernel
theorem dX6_decades_145 : decode cX6_decades 145 = .ok (.ifCond .eq 18, 3) := by decide +kernel
theorem dX6_decades_148 : decode cX6_decades 148 = .ok (.aload_n 0, 1) := by decide +kernel
theorem dX6_decades_149 : decode cX6_decades 149 = .ok (.getfield 75, 3) := by decide +kernel
theorem dX6_decades_152 : decode cX6_decades 152 = .ok (.bipush 36, 2) := by decide +kernel
theorem dX6_decades_154 : decode cX6_decades 154 = .ok (.iload 7, 2) := by decide +kernel
theorem dX6_decades_156 : decode cX6_decades 156 = .ok (.iadd, 1) := by decide +kernel
theorem dX6_decades_157 : decode cX6_decades 157 = .ok (.iaload, 1) := by decide +kernel
theorem dX6_decades_158 : decode cX6_decades 158 = .ok (.iload 6, 2) := by decide +kernel
theorem dX6_decades_160 : decode cX6_decades 160 = .ok (.if_icmp .ge 16, 3) := by decide +kernel
theorem dX6_decades_163 : decode cX6_decades 163 = .ok (.aload_n 0, 1) := by decide +kernel
theorem dX6_decades_164 : decode cX6_decades 164 = .ok (.getfield 75, 3) := by decide +kernel
theorem dX6_decades_167 : decode cX6_decades 167 = .ok (.bipush 36, 2) := by decide +kernel
theorem dX6_decades_169 : decode cX6_decades 169 = .ok (.iload 7, 2) := by decide +kernel
theorem dX6_decades_171 : decode cX6_decades 171 = .ok (.iadd, 1) := by decide +kernel
theorem dX6_decades_172 : decode cX6_decades 172 = .ok (.iaload, 1) := by decide +kernel
theorem dX6_decades_173 : decode cX6_decades 173 = .ok (.goto 5, 3) := by decide +kernel
theorem dX6_decades_176 : decode cX6_decades 176 = .ok (.iload 6, 2) := by decide +kernel
theorem dX6_decades_178 : decode cX6_decades 178 = .ok (.istore 6, 2) := by decide +kernel
theorem dX6_decades_180 : decode cX6_decades 180 = .ok (.iinc 7 1, 3) := by decide +kernel
theorem dX6_decades_183 : decode cX6_decades 183 = .ok (.goto (-49), 3) := by decide +kernel
theorem dX6_decades_186 : decode cX6_decades 186 = .ok (.aload_n 0, 1) := by decide +kernel
theorem dX6_decades_187 : decode cX6_decades 187 = .ok (.aload_n 0, 1) := by decide +kernel
theorem dX6_decades_188 : decode cX6_decades 188 = .ok (.getfield 78, 3) := by decide +kernel
theorem dX6_decades_191 : decode cX6_decades 191 = .ok (.aload_n 0, 1) := by decide +kernel
theorem dX6_decades_192 : decode cX6_decades 192 = .ok (.getfield 75, 3) := by decide +kernel
theorem dX6_decades_195 : decode cX6_decades 195 = .ok (.invokevirtual 306, 3) := by decide +kernel
theorem dX6_decades_198 : decode cX6_decades 198 = .ok (.iload_n 3, 1) := by decide +kernel
theorem dX6_decades_199 : decode cX6_decades 199 = .ok (.ifCond .ne 8, 3) := by decide +kernel
theorem dX6_decades_202 : decode cX6_decades 202 = .ok (.iload 4, 2) := by decide +kernel
theorem dX6_decades_204 : decode cX6_decades 204 = .ok (.goto 15, 3) := by decide +kernel
theorem dX6_decades_207 : decode cX6_decades 207 = .ok (.iload_n 3, 1) := by decide +kernel
theorem dX6_decades_208 : decode cX6_decades 208 = .ok (.iconst 1, 1) := by decide +kernel
theorem dX6_decades_209 : decode cX6_decades 209 = .ok (.if_icmp .ne 8, 3) := by decide +kernel
theorem dX6_decades_212 : decode cX6_decades 212 = .ok (.iload 5, 2) := by decide +kernel
theorem dX6_decades_214 : decode cX6_decades 214 = .ok (.goto 5, 3) := by decide +kernel
theorem dX6_decades_217 : decode cX6_decades 217 = .ok (.iload 6, 2) := by decide +kernel
theorem dX6_decades_219 : decode cX6_decades 219 = .ok (.ireturn, 1) := by decide +kernel
theorem dX6_villaIn_0 : decode cX6_villaIn 0 = .ok (.iconst 0, 1) := by decide +kernel
theorem dX6_villaIn_1 : decode cX6_villaIn 1 = .ok (.istore_n 2, 1) := by decide +kernel
theorem dX6_villaIn_2 : decode cX6_villaIn 2 = .ok (.iconst 0, 1) := by decide +kernel
theorem dX6_villaIn_3 : decode cX6_villaIn 3 = .ok (.istore_n 3, 1) := by decide +kernel
theorem dX6_villaIn_4 : decode cX6_villaIn 4 = .ok (.aload_n 0, 1) := by decide +kernel
theorem dX6_villaIn_5 : decode cX6_villaIn 5 = .ok (.lconst 0, 1) := by decide +kernel
theorem dX6_villaIn_6 : decode cX6_villaIn 6 = .ok (.putfield 338, 3) := by decide +kernel
theorem dX6_villaIn_9 : decode cX6_villaIn 9 = .ok (.iconst 0, 1) := by decide +kernel
theorem dX6_villaIn_10 : decode cX6_villaIn 10 = .ok (.istore 4, 2) := by decide +kernel
theorem dX6_villaIn_12 : decode cX6_villaIn 12 = .ok (.iload 4, 2) := by decide +kernel
theorem dX6_villaIn_14 : decode cX6_villaIn 14 = .ok (.bipush 8, 2) := by decide +kernel
theorem dX6_villaIn_16 : decode cX6_villaIn 16 = .ok (.if_icmp .ge 48, 3) := by decide +kernel
theorem dX6_villaIn_19 : decode cX6_villaIn 19 = .ok (.aload_n 0, 1) := by decide +kernel
theorem dX6_villaIn_20 : decode cX6_villaIn 20 = .ok (.iload_n 1, 1) := by decide +kernel
theorem dX6_villaIn_21 : decode cX6_villaIn 21 = .ok (.aload_n 0, 1) := by decide +kernel
theorem dX6_villaIn_22 : decode cX6_villaIn 22 = .ok (.getfield 16, 3) := by decide +kernel
theorem dX6_villaIn_25 : decode cX6_villaIn 25 = .ok (.iload_n 1, 1) := by decide +kernel
theorem dX6_villaIn_26 : decode cX6_villaIn 26 = .ok (.iaload, 1) := by decide +kernel
theorem dX6_villaIn_27 : decode cX6_villaIn 27 = .ok (.iconst 2, 1) := by decide +kernel
theorem dX6_villaIn_28 : decode cX6_villaIn 28 = .ok (.iadd, 1) := by decide +kernel
theorem dX6_villaIn_29 : decode cX6_villaIn 29 = .ok (.iload 4, 2) := by decide +kernel
theorem dX6_villaIn_31 : decode cX6_villaIn 31 = .ok (.aload_n 0, 1) := by decide +kernel
theorem dX6_villaIn_32 : decode cX6_villaIn 32 = .ok (.invokevirtual 344, 3) := by decide +kernel
theorem dX6_villaIn_35 : decode cX6_villaIn 35 = .ok (.invokevirtual 347, 3) := by decide +kernel
theorem dX6_villaIn_38 : decode cX6_villaIn 38 = .ok (.istore 5, 2) := by decide +kernel
theorem dX6_villaIn_40 : decode cX6_villaIn 40 = .ok (.iload_n 2, 1) := by decide +kernel
theorem dX6_villaIn_41 : decode cX6_villaIn 41 = .ok (.iload 5, 2) := by decide +kernel
theorem dX6_villaIn_43 : decode cX6_villaIn 43 = .ok (.iadd, 1) := by decide +kernel
theorem dX6_villaIn_44 : decode cX6_villaIn 44 = .ok (.istore_n 2, 1) := by decide +kernel
theorem dX6_villaIn_45 : decode cX6_villaIn 45 = .ok (.iload 5, 2) := by decide +kernel
theorem dX6_villaIn_47 : decode cX6_villaIn 47 = .ok (.iload_n 3, 1) := by decide +kernel
theorem dX6_villaIn_48 : decode cX6_villaIn 48 = .ok (.if_icmp .le 8, 3) := by decide +kernel
theorem dX6_villaIn_51 : decode cX6_villaIn 51 = .ok (.iload 5, 2) := by decide +kernel
theorem dX6_villaIn_53 : decode cX6_villaIn 53 = .ok (.goto 4, 3) := by decide +kernel
theorem dX6_villaIn_56 : decode cX6_villaIn 56 = .ok (.iload_n 3, 1) := by decide +kernel
theorem dX6_villaIn_57 : decode cX6_villaIn 57 = .ok (.istore_n 3, 1) := by decide +kernel
theorem dX6_villaIn_58 : decode cX6_villaIn 58 = .ok (.iinc 4 1, 3) := by decide +kernel
theorem dX6_villaIn_61 : decode cX6_villaIn 61 = .ok (.goto (-49), 3) := by decide +kernel
theorem dX6_villaIn_64 : decode cX6_villaIn 64 = .ok (.aload_n 0, 1) := by decide +kernel
theorem dX6_villaIn_65 : decode cX6_villaIn 65 = .ok (.getfield 75, 3) := by decide +kernel
theorem dX6_villaIn_68 : decode cX6_villaIn 68 = .ok (.bipush 60, 2) := by decide +kernel
theorem dX6_villaIn_70 : decode cX6_villaIn 70 = .ok (.iaload, 1) := by decide +kernel
theorem dX6_villaIn_71 : decode cX6_villaIn 71 = .ok (.iconst (-1), 1) := by decide +kernel
theorem dX6_villaIn_72 : decode cX6_villaIn 72 = .ok (.if_icmp .ne 5, 3) := by decide +kernel
theorem dX6_villaIn_75 : decode cX6_villaIn 75 = .ok (.iload_n 2, 1) := by decide +kernel
theorem dX6_villaIn_76 : decode cX6_villaIn 76 = .ok (.ireturn, 1) := by decide +kernel
theorem dX6_villaIn_77 : decode cX6_villaIn 77 = .ok (.aload_n 0, 1) := by decide +kernel
theorem dX6_villaIn_78 : decode cX6_villaIn 78 = .ok (.getfield 96, 3) := by decide +kernel
theorem dX6_villaIn_81 : decode cX6_villaIn 81 = .ok (.iconst 0, 1) := by decide +kernel
theorem dX6_villaIn_82 : decode cX6_villaIn 82 = .ok (.iload_n 2, 1) := by decide +kernel
theorem dX6_villaIn_83 : decode cX6_villaIn 83 = .ok (.iastore, 1) := by decide +kernel
theorem dX6_villaIn_84 : decode cX6_villaIn 84 = .ok (.aload_n 0, 1) := by decide +kernel
theorem dX6_villaIn_85 : decode cX6_villaIn 85 = .ok (.getfield 96, 3) := by decide +kernel
theorem dX6_villaIn_88 : decode cX6_villaIn 88 = .ok (.iconst 1, 1) := by decide +kernel
theorem dX6_villaIn_89 : decode cX6_villaIn 89 = .ok (.iload_n 3, 1) := by decide +kernel
theorem dX6_villaIn_90 : decode cX6_villaIn 90 = .ok (.iastore, 1) := by decide +kernel
theorem dX6_villaIn_91 : decode cX6_villaIn 91 = .ok (.aload_n 0, 1) := by decide +kernel
theorem dX6_villaIn_92 : decode cX6_villaIn 92 = .ok (.getfield 96, 3) := by decide +kernel
theorem dX6_villaIn_95 : decode cX6_villaIn 95 = .ok (.iconst 2, 1) := by decide +kernel
theorem dX6_villaIn_96 : decode cX6_villaIn 96 = .ok (.aload_n 0, 1) := by decide +kernel
theorem dX6_villaIn_97 : decode cX6_villaIn 97 = .ok (.getfield 16, 3) := by decide +kernel
theorem dX6_villaIn_100 : decode cX6_villaIn 100 = .ok (.iload_n 1, 1) := by decide +kernel
theorem dX6_villaIn_101 : decode cX6_villaIn 101 = .ok (.iaload, 1) := by decide +kernel
theorem dX6_villaIn_102 : decode cX6_villaIn 102 = .ok (.iastore, 1) := by decide +kernel
theorem dX6_villaIn_103 : decode cX6_villaIn 103 = .ok (.aload_n 0, 1) := by decide +kernel
theorem dX6_villaIn_104 : decode cX6_villaIn 104 = .ok (.getfield 96, 3) := by decide +kernel
theorem dX6_villaIn_107 : decode cX6_villaIn 107 = .ok (.iconst 3, 1) := by decide +kernel
theorem dX6_villaIn_108 : decode cX6_villaIn 108 = .ok (.iconst 0, 1) := by decide +kernel
theorem dX6_villaIn_109 : decode cX6_villaIn 109 = .ok (.iastore, 1) := by decide +kernel
theorem dX6_villaIn_110 : decode cX6_villaIn 110 = .ok (.aload_n 0, 1) := by decide +kernel
theorem dX6_villaIn_111 : decode cX6_villaIn 111 = .ok (.getfield 96, 3) := by decide +kernel
theorem dX6_villaIn_114 : decode cX6_villaIn 114 = .ok (.iconst 4, 1) := by decide +kernel
theorem dX6_villaIn_115 : decode cX6_villaIn 115 = .ok (.aload_n 0, 1) := by decide +kernel
theorem dX6_villaIn_116 : decode cX6_villaIn 116 = .ok (.getfield 75, 3) := by decide +kernel
theorem dX6_villaIn_119 : decode cX6_villaIn 119 = .ok (.bipush 61, 2) := by decide +kernel
theorem dX6_villaIn_121 : decode cX6_villaIn 121 = .ok (.iaload, 1) := by decide +kernel
theorem dX6_villaIn_122 : decode cX6_villaIn 122 = .ok (.iastore, 1) := by decide +kernel
theorem dX6_villaIn_123 : decode cX6_villaIn 123 = .ok (.aload_n 0, 1) := by decide +kernel
theorem dX6_villaIn_124 : decode cX6_villaIn 124 = .ok (.getfield 96, 3) := by decide +kernel
theorem dX6_villaIn_127 : decode cX6_villaIn 127 = .ok (.iconst 5, 1) := by decide +kernel
theorem dX6_villaIn_128 : decode cX6_villaIn 128 = .ok (.aload_n 0, 1) := by decide +kernel
theorem dX6_villaIn_129 : decode cX6_villaIn 129 = .ok (.iconst (-1), 1) := by decide +kernel
theorem dX6_villaIn_130 : decode cX6_villaIn 130 = .ok (.invokevirtual 367, 3) := by decide +kernel
theorem dX6_villaIn_133 : decode cX6_villaIn 133 = .ok (.invokestatic 370, 3) := by decide +kernel
theorem dX6_villaIn_136 : decode cX6_villaIn 136 = .ok (.iastore, 1) := by decide +kernel
theorem dX6_villaIn_137 : decode cX6_villaIn 137 = .ok (.aload_n 0, 1) := by decide +kernel
theorem dX6_villaIn_138 : decode cX6_villaIn 138 = .ok (.getfield 96, 3) := by decide +kernel
theorem dX6_villaIn_141 : decode cX6_villaIn 141 = .ok (.bipush 6, 2) := by decide +kernel
theorem dX6_villaIn_143 : decode cX6_villaIn 143 = .ok (.iconst 0, 1) := by decide +kernel
theorem dX6_villaIn_144 : decode cX6_villaIn 144 = .ok (.iastore, 1) := by decide +kernel
theorem dX6_villaIn_145 : decode cX6_villaIn 145 = .ok (.aload_n 0, 1) := by decide +kernel
theorem dX6_villaIn_146 : decode cX6_villaIn 146 = .ok (.aload_n 0, 1) := by decide +kernel
theorem dX6_villaIn_147 : decode cX6_villaIn 147 = .ok (.getfield 29, 3) := by decide +kernel
theorem dX6_villaIn_150 : decode cX6_villaIn 150 = .ok (.aload_n 0, 1) := by decide +kernel
theorem dX6_villaIn_151 : decode cX6_villaIn 151 = .ok (.getfield 75, 3) := by decide +kernel
theorem dX6_villaIn_154 : decode cX6_villaIn 154 = .ok (.bipush 60, 2) := by decide +kernel
theorem dX6_villaIn_156 : decode cX6_villaIn 156 = .ok (.iaload, 1) := by decide +kernel
theorem dX6_villaIn_157 : decode cX6_villaIn 157 = .ok (.iaload, 1) := by decide +kernel
theorem dX6_villaIn_158 : decode cX6_villaIn 158 = .ok (.invokevirtual 373, 3) := by decide +kernel
theorem dX6_villaIn_161 : decode cX6_villaIn 161 = .ok (.istore 4, 2) := by decide +kernel
theorem dX6_villaIn_163 : decode cX6_villaIn 163 = .ok (.iload 4, 2) := by decide +kernel
theorem dX6_villaIn_165 : decode cX6_villaIn 165 = .ok (.ifCond .ge 7, 3) := by decide +kernel
theorem dX6_villaIn_168 : decode cX6_villaIn 168 = .ok (.iconst 0, 1) := by decide +kernel
theorem dX6_villaIn_169 : decode cX6_villaIn 169 = .ok (.goto 19, 3) := by decide +kernel
theorem dX6_villaIn_172 : decode cX6_villaIn 172 = .ok (.iload 4, 2) := by decide +kernel
theorem dX6_villaIn_174 : decode cX6_villaIn 174 = .ok (.sipush 999, 3) := by decide +kernel
theorem dX6_villaIn_177 : decode cX6_villaIn 177 = .ok (.if_icmp .le 9, 3) := by decide +kernel
theorem dX6_villaIn_180 : decode cX6_villaIn 180 = .ok (.sipush 999, 3) := by decide +kernel
theorem dX6_villaIn_183 : decode cX6_villaIn 183 = .ok (.goto 5, 3) := by decide +kernel
theorem dX6_villaIn_186 : decode cX6_villaIn 186 = .ok (.iload 4, 2) := by decide +kernel
theorem dX6_villaIn_188 : decode cX6_villaIn 188 = .ok (.ireturn, 1) := by decide +kernel
theorem dX6_hollow_0 : decode cX6_hollow 0 = .ok (.aload_n 0, 1) := by decide +kernel
theorem dX6_hollow_1 : decode cX6_hollow 1 = .ok (.iconst 0, 1) := by decide +kernel
theorem dX6_hollow_2 : decode cX6_hollow 2 = .ok (.putfield 129, 3) := by decide +kernel
theorem dX6_hollow_5 : decode cX6_hollow 5 = .ok (.aload_n 0, 1) := by decide +kernel
theorem dX6_hollow_6 : decode cX6_hollow 6 = .ok (.iload_n 1, 1) := by decide +kernel
theorem dX6_hollow_7 : decode cX6_hollow 7 = .ok (.iconst 1, 1) := by decide +kernel
theorem dX6_hollow_8 : decode cX6_hollow 8 = .ok (.invokevirtual 398, 3) := by decide +kernel
theorem dX6_hollow_11 : decode cX6_hollow 11 = .ok (.ifCond .ne 5, 3) := by decide +kernel
theorem dX6_hollow_14 : decode cX6_hollow 14 = .ok (.iconst 0, 1) := by decide +kernel
theorem dX6_hollow_15 : decode cX6_hollow 15 = .ok (.ireturn, 1) := by decide +kernel
theorem dX6_hollow_16 : decode cX6_hollow 16 = .ok (.aload_n 0, 1) := by decide +kernel
theorem dX6_hollow_17 : decode cX6_hollow 17 = .ok (.invokevirtual 379, 3) := by decide +kernel
theorem dX6_hollow_20 : decode cX6_hollow 20 = .ok (.iconst (-1), 1) := by decide +kernel
theorem dX6_hollow_21 : decode cX6_hollow 21 = .ok (.istore_n 2, 1) := by decide +kernel
theorem dX6_hollow_22 : decode cX6_hollow 22 = .ok (.iconst (-1), 1) := by decide +kernel
theorem dX6_hollow_23 : decode cX6_hollow 23 = .ok (.istore_n 3, 1) := by decide +kernel
theorem dX6_hollow_24 : decode cX6_hollow 24 = .ok (.iconst 0, 1) := by decide +kernel
theorem dX6_hollow_25 : decode cX6_hollow 25 = .ok (.istore 4, 2) := by decide +kernel
theorem dX6_hollow_27 : decode cX6_hollow 27 = .ok (.iload 4, 2) := by decide +kernel
theorem dX6_hollow_29 : decode cX6_hollow 29 = .ok (.aload_n 0, 1) := by decide +kernel
theorem dX6_hollow_30 : decode cX6_hollow 30 = .ok (.invokevirtual 323, 3) := by decide +kernel
theorem dX6_hollow_33 : decode cX6_hollow 33 = .ok (.if_icmp .ge 49, 3) := by decide +kernel
theorem dX6_hollow_36 : decode cX6_hollow 36 = .ok (.aload_n 0, 1) := by decide +kernel
theorem dX6_hollow_37 : decode cX6_hollow 37 = .ok (.iload 4, 2) := by decide +kernel
theorem dX6_hollow_39 : decode cX6_hollow 39 = .ok (.invokevirtual 422, 3) := by decide +kernel
theorem dX6_hollow_42 : decode cX6_hollow 42 = .ok (.ifCond .ne 6, 3) := by decide +kernel
theorem dX6_hollow_45 : decode cX6_hollow 45 = .ok (.goto 31, 3) := by decide +kernel
theorem dX6_hollow_48 : decode cX6_hollow 48 = .ok (.aload_n 0, 1) := by decide +kernel
theorem dX6_hollow_49 : decode cX6_hollow 49 = .ok (.iload 4, 2) := by decide +kernel
theorem dX6_hollow_51 : decode cX6_hollow 51 = .ok (.invokevirtual 470, 3) := by decide +kernel
theorem dX6_hollow_54 : decode cX6_hollow 54 = .ok (.istore 5, 2) := by decide +kernel
theorem dX6_hollow_56 : decode cX6_hollow 56 = .ok (.iload_n 2, 1) := by decide +kernel
theorem dX6_hollow_57 : decode cX6_hollow 57 = .ok (.iconst (-1), 1) := by decide +kernel
theorem dX6_hollow_58 : decode cX6_hollow 58 = .ok (.if_icmp .eq 12, 3) := by decide +kernel
theorem dX6_hollow_61 : decode cX6_hollow 61 = .ok (.iload 5, 2) := by decide +kernel
theorem dX6_hollow_63 : decode cX6_hollow 63 = .ok (.iload_n 3, 1) := by decide +kernel
theorem dX6_hollow_64 : decode cX6_hollow 64 = .ok (.if_icmp .lt 6, 3) := by decide +kernel
theorem dX6_hollow_67 : decode cX6_hollow 67 = .ok (.goto 9, 3) := by decide +kernel
theorem dX6_hollow_70 : decode cX6_hollow 70 = .ok (.iload 4, 2) := by decide +kernel
theorem dX6_hollow_72 : decode cX6_hollow 72 = .ok (.istore_n 2, 1) := by decide +kernel
theorem dX6_hollow_73 : decode cX6_hollow 73 = .ok (.iload 5, 2) := by decide +kernel
theorem dX6_hollow_75 : decode cX6_hollow 75 = .ok (.istore_n 3, 1) := by decide +kernel
theorem dX6_hollow_76 : decode cX6_hollow 76 = .ok (.iinc 4 1, 3) := by decide +kernel
theorem dX6_hollow_79 : decode cX6_hollow 79 = .ok (.goto (-52), 3) := by decide +kernel
theorem dX6_hollow_82 : decode cX6_hollow 82 = .ok (.iload_n 1, 1) := by decide +kernel
theorem dX6_hollow_83 : decode cX6_hollow 83 = .ok (.ifCond .ne 7, 3) := by decide +kernel
theorem dX6_hollow_86 : decode cX6_hollow 86 = .ok (.iload_n 2, 1) := by decide +kernel
theorem dX6_hollow_87 : decode cX6_hollow 87 = .ok (.goto 4, 3) := by decide +kernel
theorem dX6_hollow_90 : decode cX6_hollow 90 = .ok (.iload_n 3, 1) := by decide +kernel
theorem dX6_hollow_91 : decode cX6_hollow 91 = .ok (.ireturn, 1) := by decide +kernel
theorem dX6_sale_0 : decode cX6_sale 0 = .ok (.aload_n 0, 1) := by decide +kernel
theorem dX6_sale_1 : decode cX6_sale 1 = .ok (.iconst 0, 1) := by decide +kernel
theorem dX6_sale_2 : decode cX6_sale 2 = .ok (.putfield 129, 3) := by decide +kernel
theorem dX6_sale_5 : decode cX6_sale 5 = .ok (.aload_n 0, 1) := by decide +kernel
theorem dX6_sale_6 : decode cX6_sale 6 = .ok (.iload_n 1, 1) := by decide +kernel
theorem dX6_sale_7 : decode cX6_sale 7 = .ok (.invokevirtual 407, 3) := by decide +kernel
theorem dX6_sale_10 : decode cX6_sale 10 = .ok (.ifCond .ne 5, 3) := by decide +kernel
theorem dX6_sale_13 : decode cX6_sale 13 = .ok (.iconst 0, 1) := by decide +kernel
theorem dX6_sale_14 : decode cX6_sale 14 = .ok (.ireturn, 1) := by decide +kernel
theorem dX6_sale_15 : decode cX6_sale 15 = .ok (.aload_n 0, 1) := by decide +kernel
theorem dX6_sale_16 : decode cX6_sale 16 = .ok (.invokevirtual 379, 3) := by decide +kernel
theorem dX6_sale_19 : decode cX6_sale 19 = .ok (.aload_n 0, 1) := by decide +kernel
theorem dX6_sale_20 : decode cX6_sale 20 = .ok (.getfield 75, 3) := by decide +kernel
theorem dX6_sale_23 : decode cX6_sale 23 = .ok (.bipush 54, 2) := by decide +kernel
theorem dX6_sale_25 : decode cX6_sale 25 = .ok (.iload_n 1, 1) := by decide +kernel
theorem dX6_sale_26 : decode cX6_sale 26 = .ok (.iadd, 1) := by decide +kernel
theorem dX6_sale_27 : decode cX6_sale 27 = .ok (.iaload, 1) := by decide +kernel
theorem dX6_sale_28 : decode cX6_sale 28 = .ok (.istore_n 2, 1) := by decide +kernel
theorem dX6_sale_29 : decode cX6_sale 29 = .ok (.iconst (-1), 1) := by decide +kernel
theorem dX6_sale_30 : decode cX6_sale 30 = .ok (.istore_n 3, 1) := by decide +kernel
theorem dX6_sale_31 : decode cX6_sale 31 = .ok (.aload_n 0, 1) := by decide +kernel
theorem dX6_sale_32 : decode cX6_sale 32 = .ok (.iload_n 1, 1) := by decide +kernel
theorem dX6_sale_33 : decode cX6_sale 33 = .ok (.invokevirtual 410, 3) := by decide +kernel
theorem dX6_sale_36 : decode cX6_sale 36 = .ok (.istore 4, 2) := by decide +kernel
theorem dX6_sale_38 : decode cX6_sale 38 = .ok (.iconst 0, 1) := by decide +kernel
theorem dX6_sale_39 : decode cX6_sale 39 = .ok (.istore 5, 2) := by decide +kernel
theorem dX6_sale_41 : decode cX6_sale 41 = .ok (.iload 5, 2) := by decide +kernel
theorem dX6_sale_43 : decode cX6_sale 43 = .ok (.bipush 8, 2) := by decide +kernel
theorem dX6_sale_45 : decode cX6_sale 45 = .ok (.if_icmp .ge 61, 3) := by decide +kernel
theorem dX6_sale_48 : decode cX6_sale 48 = .ok (.iload_n 2, 1) := by decide +kernel
theorem dX6_sale_49 : decode cX6_sale 49 = .ok (.iload 5, 2) := by decide +kernel
theorem dX6_sale_51 : decode cX6_sale 51 = .ok (.ishr, 1) := by decide +kernel
theorem dX6_sale_52 : decode cX6_sale 52 = .ok (.iconst 1, 1) := by decide +kernel
theorem dX6_sale_53 : decode cX6_sale 53 = .ok (.iand, 1) := by decide +kernel
theorem dX6_sale_54 : decode cX6_sale 54 = .ok (.iconst 1, 1) := by decide +kernel
theorem dX6_sale_55 : decode cX6_sale 55 = .ok (.if_icmp .ne 6, 3) := by decide +kernel
theorem dX6_sale_58 : decode cX6_sale 58 = .ok (.goto 42, 3) := by decide +kernel
theorem dX6_sale_61 : decode cX6_sale 61 = .ok (.aload_n 0, 1) := by decide +kernel
theorem dX6_sale_62 : decode cX6_sale 62 = .ok (.getfield 75, 3) := by decide +kernel
theorem dX6_sale_65 : decode cX6_sale 65 = .ok (.bipush 54, 2) := by decide +kernel
theorem dX6_sale_67 : decode cX6_sale 67 = .ok (.iload_n 1, 1) := by decide +kernel
theorem dX6_sale_68 : decode cX6_sale 68 = .ok (.iadd, 1) := by decide +kernel
theorem dX6_sale_69 : decode cX6_sale 69 = .ok (.iload_n 2, 1) := by decide +kernel
theorem dX6_sale_70 : decode cX6_sale 70 = .ok (.iconst 1, 1) := by decide +kernel
theorem dX6_sale_71 : decode cX6_sale 71 = .ok (.iload 5, 2) := by decide +kernel
theorem dX6_sale_73 : decode cX6_sale 73 = .ok (.ishl, 1) := by decide +kernel
theorem dX6_sale_74 : decode cX6_sale 74 = .ok (.ior, 1) := by decide +kernel
theorem dX6_sale_75 : decode cX6_sale 75 = .ok (.iastore, 1) := by decide +kernel
theorem dX6_sale_76 : decode cX6_sale 76 = .ok (.aload_n 0, 1) := by decide +kernel
theorem dX6_sale_77 : decode cX6_sale 77 = .ok (.iload_n 1, 1) := by decide +kernel
theorem dX6_sale_78 : decode cX6_sale 78 = .ok (.invokevirtual 410, 3) := by decide +kernel
theorem dX6_sale_81 : decode cX6_sale 81 = .ok (.istore 6, 2) := by decide +kernel
theorem dX6_sale_83 : decode cX6_sale 83 = .ok (.iload 6, 2) := by decide +kernel
theorem dX6_sale_85 : decode cX6_sale 85 = .ok (.iload 4, 2) := by decide +kernel
theorem dX6_sale_87 : decode cX6_sale 87 = .ok (.if_icmp .lt 6, 3) := by decide +kernel
theorem dX6_sale_90 : decode cX6_sale 90 = .ok (.goto 10, 3) := by decide +kernel
theorem dX6_sale_93 : decode cX6_sale 93 = .ok (.iload 5, 2) := by decide +kernel
theorem dX6_sale_95 : decode cX6_sale 95 = .ok (.istore_n 3, 1) := by decide +kernel
theorem dX6_sale_96 : decode cX6_sale 96 = .ok (.iload 6, 2) := by decide +kernel
theorem dX6_sale_98 : decode cX6_sale 98 = .ok (.istore 4, 2) := by decide +kernel
theorem dX6_sale_100 : decode cX6_sale 100 = .ok (.iinc 5 1, 3) := by decide +kernel
theorem dX6_sale_103 : decode cX6_sale 103 = .ok (.goto (-62), 3) := by decide +kernel
theorem dX6_sale_106 : decode cX6_sale 106 = .ok (.aload_n 0, 1) := by decide +kernel
theorem dX6_sale_107 : decode cX6_sale 107 = .ok (.getfield 75, 3) := by decide +kernel
theorem dX6_sale_110 : decode cX6_sale 110 = .ok (.bipush 54, 2) := by decide +kernel
theorem dX6_sale_112 : decode cX6_sale 112 = .ok (.iload_n 1, 1) := by decide +kernel
theorem dX6_sale_113 : decode cX6_sale 113 = .ok (.iadd, 1) := by decide +kernel
theorem dX6_sale_114 : decode cX6_sale 114 = .ok (.iload_n 2, 1) := by decide +kernel
theorem dX6_sale_115 : decode cX6_sale 115 = .ok (.iastore, 1) := by decide +kernel
theorem dX6_sale_116 : decode cX6_sale 116 = .ok (.iload_n 3, 1) := by decide +kernel
theorem dX6_sale_117 : decode cX6_sale 117 = .ok (.ireturn, 1) := by decide +kernel
theorem dX6_shade_0 : decode cX6_shade 0 = .ok (.aload_n 0, 1) := by decide +kernel
theorem dX6_shade_1 : decode cX6_shade 1 = .ok (.iconst 0, 1) := by decide +kernel
theorem dX6_shade_2 : decode cX6_shade 2 = .ok (.putfield 129, 3) := by decide +kernel
theorem dX6_shade_5 : decode cX6_shade 5 = .ok (.aload_n 0, 1) := by decide +kernel
theorem dX6_shade_6 : decode cX6_shade 6 = .ok (.iload_n 1, 1) := by decide +kernel
theorem dX6_shade_7 : decode cX6_shade 7 = .ok (.invokevirtual 407, 3) := by decide +kernel
theorem dX6_shade_10 : decode cX6_shade 10 = .ok (.ifCond .eq 29, 3) := by decide +kernel
theorem dX6_shade_13 : decode cX6_shade 13 = .ok (.aload_n 0, 1) := by decide +kernel
theorem dX6_shade_14 : decode cX6_shade 14 = .ok (.iload_n 2, 1) := by decide +kernel
theorem dX6_shade_15 : decode cX6_shade 15 = .ok (.invokevirtual 407, 3) := by decide +kernel
theorem dX6_shade_18 : decode cX6_shade 18 = .ok (.ifCond .eq 21, 3) := by decide +kernel
theorem dX6_shade_21 : decode cX6_shade 21 = .ok (.aload_n 0, 1) := by decide +kernel
theorem dX6_shade_22 : decode cX6_shade 22 = .ok (.iload_n 1, 1) := by decide +kernel
theorem dX6_shade_23 : decode cX6_shade 23 = .ok (.iload_n 2, 1) := by decide +kernel
theorem dX6_shade_24 : decode cX6_shade 24 = .ok (.if_icmp .eq 7, 3) := by decide +kernel
theorem dX6_shade_27 : decode cX6_shade 27 = .ok (.iconst 1, 1) := by decide +kernel
theorem dX6_shade_28 : decode cX6_shade 28 = .ok (.goto 4, 3) := by decide +kernel
theorem dX6_shade_31 : decode cX6_shade 31 = .ok (.iconst 0, 1) := by decide +kernel
theorem dX6_shade_32 : decode cX6_shade 32 = .ok (.iconst 2, 1) := by decide +kernel
theorem dX6_shade_33 : decode cX6_shade 33 = .ok (.invokevirtual 290, 3) := by decide +kernel
theorem dX6_shade_36 : decode cX6_shade 36 = .ok (.ifCond .ne 5, 3) := by decide +kernel
theorem dX6_shade_39 : decode cX6_shade 39 = .ok (.iconst 0, 1) := by decide +kernel
theorem dX6_shade_40 : decode cX6_shade 40 = .ok (.ireturn, 1) := by decide +kernel
theorem dX6_shade_41 : decode cX6_shade 41 = .ok (.aload_n 0, 1) := by decide +kernel
theorem dX6_shade_42 : decode cX6_shade 42 = .ok (.getfield 75, 3) := by decide +kernel
theorem dX6_shade_45 : decode cX6_shade 45 = .ok (.bipush 48, 2) := by decide +kernel
theorem dX6_shade_47 : decode cX6_shade 47 = .ok (.iload_n 2, 1) := by decide +kernel
theorem dX6_shade_48 : decode cX6_shade 48 = .ok (.iadd, 1) := by decide +kernel
theorem dX6_shade_49 : decode cX6_shade 49 = .ok (.iaload, 1) := by decide +kernel
theorem dX6_shade_50 : decode cX6_shade 50 = .ok (.istore_n 3, 1) := by decide +kernel
theorem dX6_shade_51 : decode cX6_shade 51 = .ok (.iconst (-1), 1) := by decide +kernel
theorem dX6_shade_52 : decode cX6_shade 52 = .ok (.istore 4, 2) := by decide +kernel
theorem dX6_shade_54 : decode cX6_shade 54 = .ok (.iconst 0, 1) := by decide +kernel
theorem dX6_shade_55 : decode cX6_shade 55 = .ok (.istore 5, 2) := by decide +kernel
theorem dX6_shade_57 : decode cX6_shade 57 = .ok (.iconst 0, 1) := by decide +kernel
theorem dX6_shade_58 : decode cX6_shade 58 = .ok (.istore 6, 2) := by decide +kernel
theorem dX6_shade_60 : decode cX6_shade 60 = .ok (.iload 6, 2) := by decide +kernel
theorem dX6_shade_62 : decode cX6_shade 62 = .ok (.iconst 5, 1) := by decide +kernel
theorem dX6_shade_63 : decode cX6_shade 63 = .ok (.if_icmp .gt 55, 3) := by decide +kernel
theorem dX6_shade_66 : decode cX6_shade 66 = .ok (.aload_n 0, 1) := by decide +kernel
theorem dX6_shade_67 : decode cX6_shade 67 = .ok (.getfield 75, 3) := by decide +kernel
theorem dX6_shade_70 : decode cX6_shade 70 = .ok (.bipush 48, 2) := by decide +kernel
theorem dX6_shade_72 : decode cX6_shade 72 = .ok (.iload_n 2, 1) := by decide +kernel
theorem dX6_shade_73 : decode cX6_shade 73 = .ok (.iadd, 1) := by decide +kernel
theorem dX6_shade_74 : decode cX6_shade 74 = .ok (.iload 6, 2) := by decide +kernel
theorem dX6_shade_76 : decode cX6_shade 76 = .ok (.iastore, 1) := by decide +kernel
theorem dX6_shade_77 : decode cX6_shade 77 = .ok (.aload_n 0, 1) := by decide +kernel
theorem dX6_shade_78 : decode cX6_shade 78 = .ok (.invokevirtual 379, 3) := by decide +kernel
theorem dX6_shade_81 : decode cX6_shade 81 = .ok (.aload_n 0, 1) := by decide +kernel
theorem dX6_shade_82 : decode cX6_shade 82 = .ok (.iload_n 1, 1) := by decide +kernel
theorem dX6_shade_83 : decode cX6_shade 83 = .ok (.invokevirtual 410, 3) := by decide +kernel
theorem dX6_shade_86 : decode cX6_shade 86 = .ok (.istore 7, 2) := by decide +kernel
theorem dX6_shade_88 : decode cX6_shade 88 = .ok (.iload 4, 2) := by decide +kernel
theorem dX6_shade_90 : decode cX6_shade 90 = .ok (.iconst (-1), 1) := by decide +kernel
theorem dX6_shade_91 : decode cX6_shade 91 = .ok (.if_icmp .eq 13, 3) := by decide +kernel
theorem dX6_shade_94 : decode cX6_shade 94 = .ok (.iload 7, 2) := by decide +kernel
theorem dX6_shade_96 : decode cX6_shade 96 = .ok (.iload 5, 2) := by decide +kernel
theorem dX6_shade_98 : decode cX6_shade 98 = .ok (.if_icmp .lt 6, 3) := by decide +kernel
theorem dX6_shade_101 : decode cX6_shade 101 = .ok (.goto 11, 3) := by decide +kernel
theorem dX6_shade_104 : decode cX6_shade 104 = .ok (.iload 6, 2) := by decide +kernel
theorem dX6_shade_106 : decode cX6_shade 106 = .ok (.istore 4, 2) := by decide +kernel
theorem dX6_shade_108 : decode cX6_shade 108 = .ok (.iload 7, 2) := by decide +kernel
theorem dX6_shade_110 : decode cX6_shade 110 = .ok (.istore 5, 2) := by decide +kernel
theorem dX6_shade_112 : decode cX6_shade 112 = .ok (.iinc 6 1, 3) := by decide +kernel
theorem dX6_shade_115 : decode cX6_shade 115 = .ok (.goto (-55), 3) := by decide +kernel
theorem dX6_shade_118 : decode cX6_shade 118 = .ok (.aload_n 0, 1) := by decide +kernel
theorem dX6_shade_119 : decode cX6_shade 119 = .ok (.getfield 75, 3) := by decide +kernel
theorem dX6_shade_122 : decode cX6_shade 122 = .ok (.bipush 48, 2) := by decide +kernel
theorem dX6_shade_124 : decode cX6_shade 124 = .ok (.iload_n 2, 1) := by decide +kernel
theorem dX6_shade_125 : decode cX6_shade 125 = .ok (.iadd, 1) := by decide +kernel
theorem dX6_shade_126 : decode cX6_shade 126 = .ok (.iload_n 3, 1) := by decide +kernel
theorem dX6_shade_127 : decode cX6_shade 127 = .ok (.iastore, 1) := by decide +kernel
theorem dX6_shade_128 : decode cX6_shade 128 = .ok (.iload 4, 2) := by decide +kernel
theorem dX6_shade_130 : decode cX6_shade 130 = .ok (.ireturn, 1) := by decide +kernel
theorem dX6_dearest_0 : decode cX6_dearest 0 = .ok (.aload_n 0, 1) := by decide +kernel
theorem dX6_dearest_1 : decode cX6_dearest 1 = .ok (.iconst 0, 1) := by decide +kernel
theorem dX6_dearest_2 : decode cX6_dearest 2 = .ok (.putfield 129, 3) := by decide +kernel
theorem dX6_dearest_5 : decode cX6_dearest 5 = .ok (.aload_n 0, 1) := by decide +kernel
theorem dX6_dearest_6 : decode cX6_dearest 6 = .ok (.iload_n 1, 1) := by decide +kernel
theorem dX6_dearest_7 : decode cX6_dearest 7 = .ok (.iconst 1, 1) := by decide +kernel
theorem dX6_dearest_8 : decode cX6_dearest 8 = .ok (.bipush 20, 2) := by decide +kernel
theorem dX6_dearest_10 : decode cX6_dearest 10 = .ok (.invokestatic 385, 3) := by decide +kernel
theorem dX6_dearest_13 : decode cX6_dearest 13 = .ok (.iconst 1, 1) := by decide +kernel
theorem dX6_dearest_14 : decode cX6_dearest 14 = .ok (.invokevirtual 290, 3) := by decide +kernel
theorem dX6_dearest_17 : decode cX6_dearest 17 = .ok (.ifCond .ne 5, 3) := by decide +kernel
theorem dX6_dearest_20 : decode cX6_dearest 20 = .ok (.iconst 0, 1) := by decide +kernel
theorem dX6_dearest_21 : decode cX6_dearest 21 = .ok (.ireturn, 1) := by decide +kernel
theorem dX6_dearest_22 : decode cX6_dearest 22 = .ok (.aload_n 0, 1) := by decide +kernel
theorem dX6_dearest_23 : decode cX6_dearest 23 = .ok (.aload_n 0, 1) := by decide +kernel
theorem dX6_dearest_24 : decode cX6_dearest 24 = .ok (.getfield 75, 3) := by decide +kernel
theorem dX6_dearest_27 : decode cX6_dearest 27 = .ok (.aload_n 0, 1) := by decide +kernel
theorem dX6_dearest_28 : decode cX6_dearest 28 = .ok (.getfield 78, 3) := by decide +kernel
theorem dX6_dearest_31 : decode cX6_dearest 31 = .ok (.invokevirtual 306, 3) := by decide +kernel
theorem dX6_dearest_34 : decode cX6_dearest 34 = .ok (.iconst (-1), 1) := by decide +kernel
theorem dX6_dearest_35 : decode cX6_dearest 35 = .ok (.istore_n 2, 1) := by decide +kernel
theorem dX6_dearest_36 : decode cX6_dearest 36 = .ok (.iconst 0, 1) := by decide +kernel
theorem dX6_dearest_37 : decode cX6_dearest 37 = .ok (.istore_n 3, 1) := by decide +kernel
theorem dX6_dearest_38 : decode cX6_dearest 38 = .ok (.iconst 0, 1) := by decide +kernel
theorem dX6_dearest_39 : decode cX6_dearest 39 = .ok (.istore 4, 2) := by decide +kernel
theorem dX6_dearest_41 : decode cX6_dearest 41 = .ok (.iload 4, 2) := by decide +kernel
theorem dX6_dearest_43 : decode cX6_dearest 43 = .ok (.iload_n 1, 1) := by decide +kernel
theorem dX6_dearest_44 : decode cX6_dearest 44 = .ok (.if_icmp .ge 44, 3) := by decide +kernel
theorem dX6_dearest_47 : decode cX6_dearest 47 = .ok (.aload_n 0, 1) := by decide +kernel
theorem dX6_dearest_48 : decode cX6_dearest 48 = .ok (.getfield 75, 3) := by decide +kernel
theorem dX6_dearest_51 : decode cX6_dearest 51 = .ok (.bipush 61, 2) := by decide +kernel
theorem dX6_dearest_53 : decode cX6_dearest 53 = .ok (.iaload, 1) := by decide +kernel
theorem dX6_dearest_54 : decode cX6_dearest 54 = .ok (.istore 5, 2) := by decide +kernel
theorem dX6_dearest_56 : decode cX6_dearest 56 = .ok (.aload_n 0, 1) := by decide +kernel
theorem dX6_dearest_57 : decode cX6_dearest 57 = .ok (.invokevirtual 419, 3) := by decide +kernel
theorem dX6_dearest_60 : decode cX6_dearest 60 = .ok (.istore 6, 2) := by decide +kernel
theorem dX6_dearest_62 : decode cX6_dearest 62 = .ok (.iload_n 2, 1) := by decide +kernel
theorem dX6_dearest_63 : decode cX6_dearest 63 = .ok (.iconst (-1), 1) := by decide +kernel
theorem dX6_dearest_64 : decode cX6_dearest 64 = .ok (.if_icmp .eq 12, 3) := by decide +kernel
theorem dX6_dearest_67 : decode cX6_dearest 67 = .ok (.iload 6, 2) := by decide +kernel
theorem dX6_dearest_69 : decode cX6_dearest 69 = .ok (.iload_n 3, 1) := by decide +kernel
theorem dX6_dearest_70 : decode cX6_dearest 70 = .ok (.if_icmp .gt 6, 3) := by decide +kernel
theorem dX6_dearest_73 : decode cX6_dearest 73 = .ok (.goto 9, 3) := by decide +kernel
theorem dX6_dearest_76 : decode cX6_dearest 76 = .ok (.iload 5, 2) := by decide +kernel
theorem dX6_dearest_78 : decode cX6_dearest 78 = .ok (.istore_n 2, 1) := by decide +kernel
theorem dX6_dearest_79 : decode cX6_dearest 79 = .ok (.iload 6, 2) := by decide +kernel
theorem dX6_dearest_81 : decode cX6_dearest 81 = .ok (.istore_n 3, 1) := by decide +kernel
theorem dX6_dearest_82 : decode cX6_dearest 82 = .ok (.iinc 4 1, 3) := by decide +kernel
theorem dX6_dearest_85 : decode cX6_dearest 85 = .ok (.goto (-44), 3) := by decide +kernel
theorem dX6_dearest_88 : decode cX6_dearest 88 = .ok (.aload_n 0, 1) := by decide +kernel
theorem dX6_dearest_89 : decode cX6_dearest 89 = .ok (.aload_n 0, 1) := by decide +kernel
theorem dX6_dearest_90 : decode cX6_dearest 90 = .ok (.getfield 78, 3) := by decide +kernel
theorem dX6_dearest_93 : decode cX6_dearest 93 = .ok (.aload_n 0, 1) := by decide +kernel
theorem dX6_dearest_94 : decode cX6_dearest 94 = .ok (.getfield 75, 3) := by decide +kernel
theorem dX6_dearest_97 : decode cX6_dearest 97 = .ok (.invokevirtual 306, 3) := by decide +kernel
theorem dX6_dearest_100 : decode cX6_dearest 100 = .ok (.iload_n 2, 1) := by decide +kernel
theorem dX6_dearest_101 : decode cX6_dearest 101 = .ok (.ireturn, 1) := by decide +kernel
theorem dX6_image_0 : decode cX6_image 0 = .ok (.aload_n 0, 1) := by decide +kernel
theorem dX6_image_1 : decode cX6_image 1 = .ok (.iconst 0, 1) := by decide +kernel
theorem dX6_image_2 : decode cX6_image 2 = .ok (.putfield 129, 3) := by decide +kernel
theorem dX6_image_5 : decode cX6_image 5 = .ok (.aload_n 0, 1) := by decide +kernel
theorem dX6_image_6 : decode cX6_image 6 = .ok (.iconst 1, 1) := by decide +kernel
theorem dX6_image_7 : decode cX6_image 7 = .ok (.putfield 320, 3) := by decide +kernel
theorem dX6_image_10 : decode cX6_image 10 = .ok (.aload_n 0, 1) := by decide +kernel
theorem dX6_image_11 : decode cX6_image 11 = .ok (.aload_n 0, 1) := by decide +kernel
theorem dX6_image_12 : decode cX6_image 12 = .ok (.getfield 310, 3) := by decide +kernel
theorem dX6_image_15 : decode cX6_image 15 = .ok (.putfield 473, 3) := by decide +kernel
theorem dX6_image_18 : decode cX6_image 18 = .ok (.aload_n 0, 1) := by decide +kernel
theorem dX6_image_19 : decode cX6_image 19 = .ok (.aload_n 0, 1) := by decide +kernel
theorem dX6_image_20 : decode cX6_image 20 = .ok (.getfield 313, 3) := by decide +kernel
theorem dX6_image_23 : decode cX6_image 23 = .ok (.putfield 476, 3) := by decide +kernel
theorem dX6_image_26 : decode cX6_image 26 = .ok (.aload_n 0, 1) := by decide +kernel
theorem dX6_image_27 : decode cX6_image 27 = .ok (.aload_n 0, 1) := by decide +kernel
theorem dX6_image_28 : decode cX6_image 28 = .ok (.getfield 75, 3) := by decide +kernel
theorem dX6_image_31 : decode cX6_image 31 = .ok (.aload_n 0, 1) := by decide +kernel
theorem dX6_image_32 : decode cX6_image 32 = .ok (.getfield 120, 3) := by decide +kernel
theorem dX6_image_35 : decode cX6_image 35 = .ok (.invokevirtual 306, 3) := by decide +kernel
theorem dX6_image_38 : decode cX6_image 38 = .ok (.aload_n 0, 1) := by decide +kernel
theorem dX6_image_39 : decode cX6_image 39 = .ok (.aload_n 0, 1) := by decide +kernel
theorem dX6_image_40 : decode cX6_image 40 = .ok (.getfield 81, 3) := by decide +kernel
theorem dX6_image_43 : decode cX6_image 43 = .ok (.aload_n 0, 1) := by decide +kernel
theorem dX6_image_44 : decode cX6_image 44 = .ok (.getfield 123, 3) := by decide +kernel
theorem dX6_image_47 : decode cX6_image 47 = .ok (.invokevirtual 306, 3) := by decide +kernel
theorem dX6_image_50 : decode cX6_image 50 = .ok (.aload_n 0, 1) := by decide +kernel
theorem dX6_image_51 : decode cX6_image 51 = .ok (.aload_n 0, 1) := by decide +kernel
theorem dX6_image_52 : decode cX6_image 52 = .ok (.getfield 117, 3) := by decide +kernel
theorem dX6_image_55 : decode cX6_image 55 = .ok (.aload_n 0, 1) := by decide +kernel
theorem dX6_image_56 : decode cX6_image 56 = .ok (.getfield 126, 3) := by decide +kernel
theorem dX6_image_59 : decode cX6_image 59 = .ok (.invokevirtual 306, 3) := by decide +kernel
theorem dX6_image_62 : decode cX6_image 62 = .ok (.return_, 1) := by decide +kernel
theorem dX6_restore_0 : decode cX6_restore 0 = .ok (.aload_n 0, 1) := by decide +kernel
theorem dX6_restore_1 : decode cX6_restore 1 = .ok (.iconst 0, 1) := by decide +kernel
theorem dX6_restore_2 : decode cX6_restore 2 = .ok (.putfield 129, 3) := by decide +kernel
theorem dX6_restore_5 : decode cX6_restore 5 = .ok (.aload_n 0, 1) := by decide +kernel
theorem dX6_restore_6 : decode cX6_restore 6 = .ok (.getfield 320, 3) := by decide +kernel
theorem dX6_restore_9 : decode cX6_restore 9 = .ok (.ifCond .ne 5, 3) := by decide +kernel
theorem dX6_restore_12 : decode cX6_restore 12 = .ok (.iconst 0, 1) := by decide +kernel
theorem dX6_restore_13 : decode cX6_restore 13 = .ok (.ireturn, 1) := by decide +kernel
theorem dX6_restore_14 : decode cX6_restore 14 = .ok (.aload_n 0, 1) := by decide +kernel
theorem dX6_restore_15 : decode cX6_restore 15 = .ok (.aload_n 0, 1) := by decide +kernel
theorem dX6_restore_16 : decode cX6_restore 16 = .ok (.getfield 473, 3) := by decide +kernel
theorem dX6_restore_19 : decode cX6_restore 19 = .ok (.putfield 310, 3) := by decide +kernel
theorem dX6_restore_22 : decode cX6_restore 22 = .ok (.aload_n 0, 1) := by decide +kernel
theorem dX6_restore_23 : decode cX6_restore 23 = .ok (.aload_n 0, 1) := by decide +kernel
theorem dX6_restore_24 : decode cX6_restore 24 = .ok (.getfield 476, 3) := by decide +kernel
theorem dX6_restore_27 : decode cX6_restore 27 = .ok (.putfield 313, 3) := by decide +kernel
theorem dX6_restore_30 : decode cX6_restore 30 = .ok (.aload_n 0, 1) := by decide +kernel
theorem dX6_restore_31 : decode cX6_restore 31 = .ok (.aload_n 0, 1) := by decide +kernel
theorem dX6_restore_32 : decode cX6_restore 32 = .ok (.getfield 120, 3) := by decide +kernel
theorem dX6_restore_35 : decode cX6_restore 35 = .ok (.aload_n 0, 1) := by decide +kernel
theorem dX6_restore_36 : decode cX6_restore 36 = .ok (.getfield 75, 3) := by decide +kernel
theorem dX6_restore_39 : decode cX6_restore 39 = .ok (.invokevirtual 306, 3) := by decide +kernel
theorem dX6_restore_42 : decode cX6_restore 42 = .ok (.aload_n 0, 1) := by decide +kernel
theorem dX6_restore_43 : decode cX6_restore 43 = .ok (.aload_n 0, 1) := by decide +kernel
theorem dX6_restore_44 : decode cX6_restore 44 = .ok (.getfield 123, 3) := by decide +kernel
theorem dX6_restore_47 : decode cX6_restore 47 = .ok (.aload_n 0, 1) := by decide +kernel
theorem dX6_restore_48 : decode cX6_restore 48 = .ok (.getfield 81, 3) := by decide +kernel
theorem dX6_restore_51 : decode cX6_restore 51 = .ok (.invokevirtual 306, 3) := by decide +kernel
theorem dX6_restore_54 : decode cX6_restore 54 = .ok (.aload_n 0, 1) := by decide +kernel
theorem dX6_restore_55 : decode cX6_restore 55 = .ok (.aload_n 0, 1) := by decide +kernel
theorem dX6_restore_56 : decode cX6_restore 56 = .ok (.getfield 126, 3) := by decide +kernel
theorem dX6_restore_59 : decode cX6_restore 59 = .ok (.aload_n 0, 1) := by decide +kernel
theorem dX6_restore_60 : decode cX6_restore 60 = .ok (.getfield 117, 3) := by decide +kernel
theorem dX6_restore_63 : decode cX6_restore 63 = .ok (.invokevirtual 306, 3) := by decide +kernel
theorem dX6_restore_66 : decode cX6_restore 66 = .ok (.iconst 1, 1) := by decide +kernel
theorem dX6_restore_67 : decode cX6_restore 67 = .ok (.ireturn, 1) := by decide +kernel
