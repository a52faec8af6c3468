theorem dX6_heights_46 : decode cX6_heights 46 = .ok (.aload_n 0, 1) := by decide +kernel
theorem dX6_heights_47 : decode cX6_heights 47 = .ok (.getfield 16, 3) := by decide +kernel
theorem dX6_heights_50 : decode cX6_heights 50 = .ok (.iload_n 1, 1) := by decide +kernel
theorem dX6_heights_51 : decode cX6_heights 51 = .ok (.iload 6, 2) := by decide +kernel
theorem dX6_heights_53 : decode cX6_heights 53 = .ok (.iastore, 1) := by decide +kernel
theorem dX6_heights_54 : decode cX6_heights 54 = .ok (.aload_n 0, 1) := by decide +kernel
theorem dX6_heights_55 : decode cX6_heights 55 = .ok (.invokevirtual 457, 3) := by decide +kernel
theorem dX6_heights_58 : decode cX6_heights 58 = .ok (.ifCond .eq 6, 3) := by decide +kernel
theorem dX6_heights_61 : decode cX6_heights 61 = .ok (.goto 10, 3) := by decide +kernel
theorem dX6_heights_64 : decode cX6_heights 64 = .ok (.iinc 4 1, 3) := by decide +kernel
theorem dX6_heights_67 : decode cX6_heights 67 = .ok (.iload 6, 2) := by decide +kernel
theorem dX6_heights_69 : decode cX6_heights 69 = .ok (.istore 5, 2) := by decide +kernel
theorem dX6_heights_71 : decode cX6_heights 71 = .ok (.iinc 6 (-1), 3) := by decide +kernel
theorem dX6_heights_74 : decode cX6_heights 74 = .ok (.goto (-33), 3) := by decide +kernel
theorem dX6_heights_77 : decode cX6_heights 77 = .ok (.aload_n 0, 1) := by decide +kernel
theorem dX6_heights_78 : decode cX6_heights 78 = .ok (.getfield 16, 3) := by decide +kernel
theorem dX6_heights_81 : decode cX6_heights 81 = .ok (.iload_n 1, 1) := by decide +kernel
theorem dX6_heights_82 : decode cX6_heights 82 = .ok (.iload_n 3, 1) := by decide +kernel
theorem dX6_heights_83 : decode cX6_heights 83 = .ok (.iastore, 1) := by decide +kernel
theorem dX6_heights_84 : decode cX6_heights 84 = .ok (.iload_n 2, 1) := by decide +kernel
theorem dX6_heights_85 : decode cX6_heights 85 = .ok (.ifCond .ne 8, 3) := by decide +kernel
theorem dX6_heights_88 : decode cX6_heights 88 = .ok (.iload 4, 2) := by decide +kernel
theorem dX6_heights_90 : decode cX6_heights 90 = .ok (.goto 5, 3) := by decide +kernel
theorem dX6_heights_93 : decode cX6_heights 93 = .ok (.iload 5, 2) := by decide +kernel
theorem dX6_heights_95 : decode cX6_heights 95 = .ok (.ireturn, 1) := by decide +kernel
theorem dX6_cheat_0 : decode cX6_cheat 0 = .ok (.aload_n 0, 1) := by decide +kernel
theorem dX6_cheat_1 : decode cX6_cheat 1 = .ok (.iconst 0, 1) := by decide +kernel
theorem dX6_cheat_2 : decode cX6_cheat 2 = .ok (.putfield 129, 3) := by decide +kernel
theorem dX6_cheat_5 : decode cX6_cheat 5 = .ok (.iconst (-1), 1) := by decide +kernel
theorem dX6_cheat_6 : decode cX6_cheat 6 = .ok (.istore_n 1, 1) := by decide +kernel
theorem dX6_cheat_7 : decode cX6_cheat 7 = .ok (.aload_n 0, 1) := by decide +kernel
theorem dX6_cheat_8 : decode cX6_cheat 8 = .ok (.invokevirtual 457, 3) := by decide +kernel
theorem dX6_cheat_11 : decode cX6_cheat 11 = .ok (.invokestatic 370, 3) := by decide +kernel
theorem dX6_cheat_14 : decode cX6_cheat 14 = .ok (.istore_n 2, 1) := by decide +kernel
theorem dX6_cheat_15 : decode cX6_cheat 15 = .ok (.iconst 0, 1) := by decide +kernel
theorem dX6_cheat_16 : decode cX6_cheat 16 = .ok (.istore_n 3, 1) := by decide +kernel
theorem dX6_cheat_17 : decode cX6_cheat 17 = .ok (.iload_n 3, 1) := by decide +kernel
theorem dX6_cheat_18 : decode cX6_cheat 18 = .ok (.aload_n 0, 1) := by decide +kernel
theorem dX6_cheat_19 : decode cX6_cheat 19 = .ok (.invokevirtual 323, 3) := by decide +kernel
theorem dX6_cheat_22 : decode cX6_cheat 22 = .ok (.if_icmp .ge 97, 3) := by decide +kernel
theorem dX6_cheat_25 : decode cX6_cheat 25 = .ok (.aload_n 0, 1) := by decide +kernel
theorem dX6_cheat_26 : decode cX6_cheat 26 = .ok (.getfield 16, 3) := by decide +kernel
theorem dX6_cheat_29 : decode cX6_cheat 29 = .ok (.iload_n 3, 1) := by decide +kernel
theorem dX6_cheat_30 : decode cX6_cheat 30 = .ok (.iaload, 1) := by decide +kernel
theorem dX6_cheat_31 : decode cX6_cheat 31 = .ok (.istore 4, 2) := by decide +kernel
theorem dX6_cheat_33 : decode cX6_cheat 33 = .ok (.iconst 0, 1) := by decide +kernel
theorem dX6_cheat_34 : decode cX6_cheat 34 = .ok (.istore 5, 2) := by decide +kernel
theorem dX6_cheat_36 : decode cX6_cheat 36 = .ok (.iload 5, 2) := by decide +kernel
theorem dX6_cheat_38 : decode cX6_cheat 38 = .ok (.bipush 9, 2) := by decide +kernel
theorem dX6_cheat_40 : decode cX6_cheat 40 = .ok (.if_icmp .gt 73, 3) := by decide +kernel
theorem dX6_cheat_43 : decode cX6_cheat 43 = .ok (.aload_n 0, 1) := by decide +kernel
theorem dX6_cheat_44 : decode cX6_cheat 44 = .ok (.iload_n 3, 1) := by decide +kernel
theorem dX6_cheat_45 : decode cX6_cheat 45 = .ok (.invokevirtual 326, 3) := by decide +kernel
theorem dX6_cheat_48 : decode cX6_cheat 48 = .ok (.iconst (-1), 1) := by decide +kernel
theorem dX6_cheat_49 : decode cX6_cheat 49 = .ok (.if_icmp .ne 64, 3) := by decide +kernel
theorem dX6_cheat_52 : decode cX6_cheat 52 = .ok (.iload 5, 2) := by decide +kernel
theorem dX6_cheat_54 : decode cX6_cheat 54 = .ok (.iload 4, 2) := by decide +kernel
theorem dX6_cheat_56 : decode cX6_cheat 56 = .ok (.if_icmp .ne 6, 3) := by decide +kernel
theorem dX6_cheat_59 : decode cX6_cheat 59 = .ok (.goto 48, 3) := by decide +kernel
theorem dX6_cheat_62 : decode cX6_cheat 62 = .ok (.aload_n 0, 1) := by decide +kernel
theorem dX6_cheat_63 : decode cX6_cheat 63 = .ok (.getfield 16, 3) := by decide +kernel
theorem dX6_cheat_66 : decode cX6_cheat 66 = .ok (.iload_n 3, 1) := by decide +kernel
theorem dX6_cheat_67 : decode cX6_cheat 67 = .ok (.iload 5, 2) := by decide +kernel
theorem dX6_cheat_69 : decode cX6_cheat 69 = .ok (.iastore, 1) := by decide +kernel
theorem dX6_cheat_70 : decode cX6_cheat 70 = .ok (.aload_n 0, 1) := by decide +kernel
theorem dX6_cheat_71 : decode cX6_cheat 71 = .ok (.invokevirtual 457, 3) := by decide +kernel
theorem dX6_cheat_74 : decode cX6_cheat 74 = .ok (.invokestatic 370, 3) := by decide +kernel
theorem dX6_cheat_77 : decode cX6_cheat 77 = .ok (.istore 6, 2) := by decide +kernel
theorem dX6_cheat_79 : decode cX6_cheat 79 = .ok (.aload_n 0, 1) := by decide +kernel
theorem dX6_cheat_80 : decode cX6_cheat 80 = .ok (.getfield 16, 3) := by decide +kernel
theorem dX6_cheat_83 : decode cX6_cheat 83 = .ok (.iload_n 3, 1) := by decide +kernel
theorem dX6_cheat_84 : decode cX6_cheat 84 = .ok (.iload 4, 2) := by decide +kernel
theorem dX6_cheat_86 : decode cX6_cheat 86 = .ok (.iastore, 1) := by decide +kernel
theorem dX6_cheat_87 : decode cX6_cheat 87 = .ok (.iload 6, 2) := by decide +kernel
theorem dX6_cheat_89 : decode cX6_cheat 89 = .ok (.iload_n 2, 1) := by decide +kernel
theorem dX6_cheat_90 : decode cX6_cheat 90 = .ok (.if_icmp .lt 6, 3) := by decide +kernel
theorem dX6_cheat_93 : decode cX6_cheat 93 = .ok (.goto 14, 3) := by decide +kernel
theorem dX6_cheat_96 : decode cX6_cheat 96 = .ok (.bipush 10, 2) := by decide +kernel
theorem dX6_cheat_98 : decode cX6_cheat 98 = .ok (.iload_n 3, 1) := by decide +kernel
theorem dX6_cheat_99 : decode cX6_cheat 99 = .ok (.imul, 1) := by decide +kernel
theorem dX6_cheat_100 : decode cX6_cheat 100 = .ok (.iload 5, 2) := by decide +kernel
theorem dX6_cheat_102 : decode cX6_cheat 102 = .ok (.iadd, 1) := by decide +kernel
theorem dX6_cheat_103 : decode cX6_cheat 103 = .ok (.istore_n 1, 1) := by decide +kernel
theorem dX6_cheat_104 : decode cX6_cheat 104 = .ok (.iload 6, 2) := by decide +kernel
theorem dX6_cheat_106 : decode cX6_cheat 106 = .ok (.istore_n 2, 1) := by decide +kernel
theorem dX6_cheat_107 : decode cX6_cheat 107 = .ok (.iinc 5 1, 3) := by decide +kernel
theorem dX6_cheat_110 : decode cX6_cheat 110 = .ok (.goto (-74), 3) := by decide +kernel
theorem dX6_cheat_113 : decode cX6_cheat 113 = .ok (.iinc 3 1, 3) := by decide +kernel
theorem dX6_cheat_116 : decode cX6_cheat 116 = .ok (.goto (-99), 3) := by decide +kernel
theorem dX6_cheat_119 : decode cX6_cheat 119 = .ok (.iload_n 1, 1) := by decide +kernel
theorem dX6_cheat_120 : decode cX6_cheat 120 = .ok (.ireturn, 1) := by decide +kernel
theorem dX6_isPoor_0 : decode cX6_isPoor 0 = .ok (.iconst 0, 1) := by decide +kernel
theorem dX6_isPoor_1 : decode cX6_isPoor 1 = .ok (.istore_n 1, 1) := by decide +kernel
theorem dX6_isPoor_2 : decode cX6_isPoor 2 = .ok (.iload_n 1, 1) := by decide +kernel
theorem dX6_isPoor_3 : decode cX6_isPoor 3 = .ok (.aload_n 0, 1) := by decide +kernel
theorem dX6_isPoor_4 : decode cX6_isPoor 4 = .ok (.getfield 297, 3) := by decide +kernel
theorem dX6_isPoor_7 : decode cX6_isPoor 7 = .ok (.if_icmp .ge 23, 3) := by decide +kernel
theorem dX6_isPoor_10 : decode cX6_isPoor 10 = .ok (.aload_n 0, 1) := by decide +kernel
theorem dX6_isPoor_11 : decode cX6_isPoor 11 = .ok (.getfield 75, 3) := by decide +kernel
theorem dX6_isPoor_14 : decode cX6_isPoor 14 = .ok (.bipush 36, 2) := by decide +kernel
theorem dX6_isPoor_16 : decode cX6_isPoor 16 = .ok (.iload_n 1, 1) := by decide +kernel
theorem dX6_isPoor_17 : decode cX6_isPoor 17 = .ok (.iadd, 1) := by decide +kernel
theorem dX6_isPoor_18 : decode cX6_isPoor 18 = .ok (.iaload, 1) := by decide +kernel
theorem dX6_isPoor_19 : decode cX6_isPoor 19 = .ok (.ifCond .ge 5, 3) := by decide +kernel
theorem dX6_isPoor_22 : decode cX6_isPoor 22 = .ok (.iconst 1, 1) := by decide +kernel
theorem dX6_isPoor_23 : decode cX6_isPoor 23 = .ok (.ireturn, 1) := by decide +kernel
theorem dX6_isPoor_24 : decode cX6_isPoor 24 = .ok (.iinc 1 1, 3) := by decide +kernel
theorem dX6_isPoor_27 : decode cX6_isPoor 27 = .ok (.goto (-25), 3) := by decide +kernel
theorem dX6_isPoor_30 : decode cX6_isPoor 30 = .ok (.iconst 0, 1) := by decide +kernel
theorem dX6_isPoor_31 : decode cX6_isPoor 31 = .ok (.ireturn, 1) := by decide +kernel
theorem dX6_ruined_0 : decode cX6_ruined 0 = .ok (.aload_n 0, 1) := by decide +kernel
theorem dX6_ruined_1 : decode cX6_ruined 1 = .ok (.iconst 0, 1) := by decide +kernel
theorem dX6_ruined_2 : decode cX6_ruined 2 = .ok (.putfield 129, 3) := by decide +kernel
theorem dX6_ruined_5 : decode cX6_ruined 5 = .ok (.aload_n 0, 1) := by decide +kernel
theorem dX6_ruined_6 : decode cX6_ruined 6 = .ok (.aload_n 0, 1) := by decide +kernel
theorem dX6_ruined_7 : decode cX6_ruined 7 = .ok (.getfield 75, 3) := by decide +kernel
theorem dX6_ruined_10 : decode cX6_ruined 10 = .ok (.aload_n 0, 1) := by decide +kernel
theorem dX6_ruined_11 : decode cX6_ruined 11 = .ok (.getfield 78, 3) := by decide +kernel
theorem dX6_ruined_14 : decode cX6_ruined 14 = .ok (.invokevirtual 306, 3) := by decide +kernel
theorem dX6_ruined_17 : decode cX6_ruined 17 = .ok (.iconst 0, 1) := by decide +kernel
theorem dX6_ruined_18 : decode cX6_ruined 18 = .ok (.istore_n 1, 1) := by decide +kernel
theorem dX6_ruined_19 : decode cX6_ruined 19 = .ok (.iload_n 1, 1) := by decide +kernel
theorem dX6_ruined_20 : decode cX6_ruined 20 = .ok (.bipush 50, 2) := by decide +kernel
theorem dX6_ruined_22 : decode cX6_ruined 22 = .ok (.if_icmp .gt 21, 3) := by decide +kernel
theorem dX6_ruined_25 : decode cX6_ruined 25 = .ok (.aload_n 0, 1) := by decide +kernel
theorem dX6_ruined_26 : decode cX6_ruined 26 = .ok (.invokevirtual 460, 3) := by decide +kernel
theorem dX6_ruined_29 : decode cX6_ruined 29 = .ok (.ifCond .ne 14, 3) := by decide +kernel
theorem dX6_ruined_32 : decode cX6_ruined 32 = .ok (.aload_n 0, 1) := by decide +kernel
theorem dX6_ruined_33 : decode cX6_ruined 33 = .ok (.invokevirtual 419, 3) := by decide +kernel
theorem dX6_ruined_36 : decode cX6_ruined 36 = .ok (.pop, 1) := by decide +kernel
theorem dX6_ruined_37 : decode cX6_ruined 37 = .ok (.iinc 1 1, 3) := by decide +kernel
theorem dX6_ruined_40 : decode cX6_ruined 40 = .ok (.goto (-21), 3) := by decide +kernel
theorem dX6_ruined_43 : decode cX6_ruined 43 = .ok (.aload_n 0, 1) := by decide +kernel
theorem dX6_ruined_44 : decode cX6_ruined 44 = .ok (.aload_n 0, 1) := by decide +kernel
theorem dX6_ruined_45 : decode cX6_ruined 45 = .ok (.getfield 78, 3) := by decide +kernel
theorem dX6_ruined_48 : decode cX6_ruined 48 = .ok (.aload_n 0, 1) := by decide +kernel
theorem dX6_ruined_49 : decode cX6_ruined 49 = .ok (.getfield 75, 3) := by decide +kernel
theorem dX6_ruined_52 : decode cX6_ruined 52 = .ok (.invokevirtual 306, 3) := by decide +kernel
theorem dX6_ruined_55 : decode cX6_ruined 55 = .ok (.iload_n 1, 1) := by decide +kernel
theorem dX6_ruined_56 : decode cX6_ruined 56 = .ok (.bipush 50, 2) := by decide +kernel
theorem dX6_ruined_58 : decode cX6_ruined 58 = .ok (.if_icmp .le 7, 3) := by decide +kernel
theorem dX6_ruined_61 : decode cX6_ruined 61 = .ok (.iconst (-1), 1) := by decide +kernel
theorem dX6_ruined_62 : decode cX6_ruined 62 = .ok (.goto 4, 3) := by decide +kernel
theorem dX6_ruined_65 : decode cX6_ruined 65 = .ok (.iload_n 1, 1) := by decide +kernel
theorem dX6_ruined_66 : decode cX6_ruined 66 = .ok (.ireturn, 1) := by decide +kernel
theorem dX6_draw_0 : decode cX6_draw 0 = .ok (.aload_n 0, 1) := by decide +kernel
theorem dX6_draw_1 : decode cX6_draw 1 = .ok (.aload_n 0, 1) := by decide +kernel
theorem dX6_draw_2 : decode cX6_draw 2 = .ok (.getfield 463, 3) := by decide +kernel
theorem dX6_draw_5 : decode cX6_draw 5 = .ok (.ldc_w 466, 3) := by decide +kernel
theorem dX6_draw_8 : decode cX6_draw 8 = .ok (.imul, 1) := by decide +kernel
theorem dX6_draw_9 : decode cX6_draw 9 = .ok (.sipush 12345, 3) := by decide +kernel
theorem dX6_draw_12 : decode cX6_draw 12 = .ok (.iadd, 1) := by decide +kernel
theorem dX6_draw_13 : decode cX6_draw 13 = .ok (.putfield 463, 3) := by decide +kernel
theorem dX6_draw_16 : decode cX6_draw 16 = .ok (.aload_n 0, 1) := by decide +kernel
theorem dX6_draw_17 : decode cX6_draw 17 = .ok (.getfield 463, 3) := by decide +kernel
theorem dX6_draw_20 : decode cX6_draw 20 = .ok (.bipush 16, 2) := by decide +kernel
theorem dX6_draw_22 : decode cX6_draw 22 = .ok (.ishr, 1) := by decide +kernel
theorem dX6_draw_23 : decode cX6_draw 23 = .ok (.sipush 32767, 3) := by decide +kernel
theorem dX6_draw_26 : decode cX6_draw 26 = .ok (.iand, 1) := by decide +kernel
theorem dX6_draw_27 : decode cX6_draw 27 = .ok (.iload_n 1, 1) := by decide +kernel
theorem dX6_draw_28 : decode cX6_draw 28 = .ok (.irem, 1) := by decide +kernel
theorem dX6_draw_29 : decode cX6_draw 29 = .ok (.ireturn, 1) := by decide +kernel
theorem dX6_decades_0 : decode cX6_decades 0 = .ok (.aload_n 0, 1) := by decide +kernel
theorem dX6_decades_1 : decode cX6_decades 1 = .ok (.iconst 0, 1) := by decide +kernel
theorem dX6_decades_2 : decode cX6_decades 2 = .ok (.putfield 129, 3) := by decide +kernel
theorem dX6_decades_5 : decode cX6_decades 5 = .ok (.aload_n 0, 1) := by decide +kernel
theorem dX6_decades_6 : decode cX6_decades 6 = .ok (.iload_n 3, 1) := by decide +kernel
theorem dX6_decades_7 : decode cX6_decades 7 = .ok (.iconst 2, 1) := by decide +kernel
theorem dX6_decades_8 : decode cX6_decades 8 = .ok (.invokevirtual 398, 3) := by decide +kernel
theorem dX6_decades_11 : decode cX6_decades 11 = .ok (.ifCond .eq 18, 3) := by decide +kernel
theorem dX6_decades_14 : decode cX6_decades 14 = .ok (.aload_n 0, 1) := by decide +kernel
theorem dX6_decades_15 : decode cX6_decades 15 = .ok (.iload_n 2, 1) := by decide +kernel
theorem dX6_decades_16 : decode cX6_decades 16 = .ok (.iconst 0, 1) := by decide +kernel
theorem dX6_decades_17 : decode cX6_decades 17 = .ok (.bipush 40, 2) := by decide +kernel
theorem dX6_decades_19 : decode cX6_decades 19 = .ok (.invokestatic 385, 3) := by decide +kernel
theorem dX6_decades_22 : decode cX6_decades 22 = .ok (.iconst 2, 1) := by decide +kernel
theorem dX6_decades_23 : decode cX6_decades 23 = .ok (.invokevirtual 290, 3) := by decide +kernel
theorem dX6_decades_26 : decode cX6_decades 26 = .ok (.ifCond .ne 5, 3) := by decide +kernel
theorem dX6_decades_29 : decode cX6_decades 29 = .ok (.iconst 0, 1) := by decide +kernel
theorem dX6_decades_30 : decode cX6_decades 30 = .ok (.ireturn, 1) := by decide +kernel
theorem dX6_decades_31 : decode cX6_decades 31 = .ok (.aload_n 0, 1) := by decide +kernel
theorem dX6_decades_32 : decode cX6_decades 32 = .ok (.aload_n 0, 1) := by decide +kernel
theorem dX6_decades_33 : decode cX6_decades 33 = .ok (.getfield 75, 3) := by decide +kernel
theorem dX6_decades_36 : decode cX6_decades 36 = .ok (.aload_n 0, 1) := by decide +kernel
theorem dX6_decades_37 : decode cX6_decades 37 = .ok (.getfield 78, 3) := by decide +kernel
theorem dX6_decades_40 : decode cX6_decades 40 = .ok (.invokevirtual 306, 3) := by decide +kernel
theorem dX6_decades_43 : decode cX6_decades 43 = .ok (.aload_n 0, 1) := by decide +kernel
theorem dX6_decades_44 : decode cX6_decades 44 = .ok (.iload_n 1, 1) := by decide +kernel
theorem dX6_decades_45 : decode cX6_decades 45 = .ok (.putfield 463, 3) := by decide +kernel
theorem dX6_decades_48 : decode cX6_decades 48 = .ok (.iconst 0, 1) := by decide +kernel
theorem dX6_decades_49 : decode cX6_decades 49 = .ok (.istore 4, 2) := by decide +kernel
theorem dX6_decades_51 : decode cX6_decades 51 = .ok (.iconst 0, 1) := by decide +kernel
theorem dX6_decades_52 : decode cX6_decades 52 = .ok (.istore 5, 2) := by decide +kernel
theorem dX6_decades_54 : decode cX6_decades 54 = .ok (.iload 5, 2) := by decide +kernel
theorem dX6_decades_56 : decode cX6_decades 56 = .ok (.iload_n 2, 1) := by decide +kernel
theorem dX6_decades_57 : decode cX6_decades 57 = .ok (.if_icmp .ge 60, 3) := by decide +kernel
theorem dX6_decades_60 : decode cX6_decades 60 = .ok (.aload_n 0, 1) := by decide +kernel
theorem dX6_decades_61 : decode cX6_decades 61 = .ok (.aload_n 0, 1) := by decide +kernel
theorem dX6_decades_62 : decode cX6_decades 62 = .ok (.aload_n 0, 1) := by decide +kernel
theorem dX6_decades_63 : decode cX6_decades 63 = .ok (.invokevirtual 323, 3) := by decide +kernel
theorem dX6_decades_66 : decode cX6_decades 66 = .ok (.invokevirtual 467, 3) := by decide +kernel
theorem dX6_decades_69 : decode cX6_decades 69 = .ok (.invokevirtual 329, 3) := by decide +kernel
theorem dX6_decades_72 : decode cX6_decades 72 = .ok (.istore 6, 2) := by decide +kernel
theorem dX6_decades_74 : decode cX6_decades 74 = .ok (.iload 6, 2) := by decide +kernel
theorem dX6_decades_76 : decode cX6_decades 76 = .ok (.iconst (-1), 1) := by decide +kernel
theorem dX6_decades_77 : decode cX6_decades 77 = .ok (.if_icmp .eq 13, 3) := by decide +kernel
theorem dX6_decades_80 : decode cX6_decades 80 = .ok (.aload_n 0, 1) := by decide +kernel
theorem dX6_decades_81 : decode cX6_decades 81 = .ok (.getfield 75, 3) := by decide +kernel
theorem dX6_decades_84 : decode cX6_decades 84 = .ok (.iconst 0, 1) := by decide +kernel
theorem dX6_decades_85 : decode cX6_decades 85 = .ok (.iload 6, 2) := by decide +kernel
theorem dX6_decades_87 : decode cX6_decades 87 = .ok (.iadd, 1) := by decide +kernel
theorem dX6_decades_88 : decode cX6_decades 88 = .ok (.iconst (-1), 1) := by decide +kernel
theorem dX6_decades_89 : decode cX6_decades 89 = .ok (.iastore, 1) := by decide +kernel
theorem dX6_decades_90 : decode cX6_decades 90 = .ok (.aload_n 0, 1) := by decide +kernel
theorem dX6_decades_91 : decode cX6_decades 91 = .ok (.aload_n 0, 1) := by decide +kernel
theorem dX6_decades_92 : decode cX6_decades 92 = .ok (.bipush 9, 2) := by decide +kernel
theorem dX6_decades_94 : decode cX6_decades 94 = .ok (.invokevirtual 467, 3) := by decide +kernel
theorem dX6_decades_97 : decode cX6_decades 97 = .ok (.iconst 1, 1) := by decide +kernel
theorem dX6_decades_98 : decode cX6_decades 98 = .ok (.iadd, 1) := by decide +kernel
theorem dX6_decades_99 : decode cX6_decades 99 = .ok (.putfield 87, 3) := by decide +kernel
theorem dX6_decades_102 : decode cX6_decades 102 = .ok (.iload 4, 2) := by decide +kernel
theorem dX6_decades_104 : decode cX6_decades 104 = .ok (.aload_n 0, 1) := by decide +kernel
theorem dX6_decades_105 : decode cX6_decades 105 = .ok (.invokevirtual 419, 3) := by decide +kernel
theorem dX6_decades_108 : decode cX6_decades 108 = .ok (.iadd, 1) := by decide +kernel
theorem dX6_decades_109 : decode cX6_decades 109 = .ok (.istore 4, 2) := by decide +kernel
theorem dX6_decades_111 : decode cX6_decades 111 = .ok (.iinc 5 1, 3) := by decide +kernel
theorem dX6_decades_114 : decode cX6_decades 114 = .ok (.goto (-60), 3) := by decide +kernel
theorem dX6_decades_117 : decode cX6_decades 117 = .ok (.aload_n 0, 1) := by decide +kernel
theorem dX6_decades_118 : decode cX6_decades 118 = .ok (.iconst (-1), 1) := by decide +kernel
theorem dX6_decades_119 : decode cX6_decades 119 = .ok (.putfield 87, 3) := by decide +kernel
theorem dX6_decades_122 : decode cX6_decades 122 = .ok (.aload_n 0, 1) := by decide +kernel
theorem dX6_decades_123 : decode cX6_decades 123 = .ok (.invokevirtual 389, 3) := by decide +kernel
theorem dX6_decades_126 : decode cX6_decades 126 = .ok (.istore 5, 2) := by decide +kernel
theorem dX6_decades_128 : decode cX6_decades 128 = .ok (.iconst 0, 1) := by decide +kernel
theorem dX6_decades_129 : decode cX6_decades 129 = .ok (.istore 6, 2) := by decide +kernel
theorem dX6_decades_131 : decode cX6_decades 131 = .ok (.iconst 0, 1) := by decide +kernel
theorem dX6_decades_132 : decode cX6_decades 132 = .ok (.istore 7, 2) := by decide +kernel
theorem dX6_decades_134 : decode cX6_decades 134 = .ok (.iload 7, 2) := by decide +kernel
theorem dX6_decades_136 : decode cX6_decades 136 = .ok (.aload_n 0, 1) := by decide +kernel
theorem dX6_decades_137 : decode cX6_decades 137 = .ok (.getfield 297, 3) := by decide +kernel
theorem dX6_decades_140 : decode cX6_decades 140 = .ok (.if_icmp .ge 46, 3) := by decide +kernel
theorem dX6_decades_143 : decode cX6_decades 143 = .ok (.iload 7, 2) := by decide +kernel
theorem dX6_decades_145 : decode cX6_decades 145 = .ok (.ifCond .eq 18, 3) := by decide +kernel
theorem dX6_decades_148 : decode cX6_decades 148 = .ok (.aload_n 0, 1) := by decide +kernel
theorem dX6_decades_149 : decode cX6_decades 149 = .ok (.getfield 75, 3) := by decide +kernel
theorem dX6_decades_152 : decode cX6_decades 152 = .ok (.bipush 36, 2) := by decide +kernel
theorem dX6_decades_154 : decode cX6_decades 154 = .ok (.iload 7, 2) := by decide +kernel
theorem dX6_decades_156 : decode cX6_decades 156 = .ok (.iadd, 1) := by decide +kernel
theorem dX6_decades_157 : decode cX6_decades 157 = .ok (.iaload, 1) := by decide +kernel
theorem dX6_decades_158 : decode cX6_decades 158 = .ok (.iload 6, 2) := by decide +kernel
theorem dX6_decades_160 : decode cX6_decades 160 = .ok (.if_icmp .ge 16, 3) := by decide +kernel
theorem dX6_decades_163 : decode cX6_decades 163 = .ok (.aload_n 0, 1) := by decide +kernel
theorem dX6_decades_164 : decode cX6_decades 164 = .ok (.getfield 75, 3) := by decide +kernel
theorem dX6_decades_167 : decode cX6_decades 167 = .ok (.bipush 36, 2) := by decide +kernel
theorem dX6_decades_169 : decode cX6_decades 169 = .ok (.iload 7, 2) := by decide +kernel
theorem dX6_decades_171 : decode cX6_decades 171 = .ok (.iadd, 1) := by decide +kernel
theorem dX6_decades_172 : decode cX6_decades 172 = .ok (.iaload, 1) := by decide +kernel
theorem dX6_decades_173 : decode cX6_decades 173 = .ok (.goto 5, 3) := by decide +kernel
theorem dX6_decades_176 : decode cX6_decades 176 = .ok (.iload 6, 2) := by decide +kernel
theorem dX6_decades_178 : decode cX6_decades 178 = .ok (.istore 6, 2) := by decide +kernel
theorem dX6_decades_180 : decode cX6_decades 180 = .ok (.iinc 7 1, 3) := by decide +kernel
theorem dX6_decades_183 : decode cX6_decades 183 = .ok (.goto (-49), 3) := by decide +kernel
theorem dX6_decades_186 : decode cX6_decades 186 = .ok (.aload_n 0, 1) := by decide +kernel
theorem dX6_decades_187 : decode cX6_decades 187 = .ok (.aload_n 0, 1) := by decide +kernel
theorem dX6_decades_188 : decode cX6_decades 188 = .ok (.getfield 78, 3) := by decide +kernel
theorem dX6_decades_191 : decode cX6_decades 191 = .ok (.aload_n 0, 1) := by decide +kernel
theorem dX6_decades_192 : decode cX6_decades 192 = .ok (.getfield 75, 3) := by decide +kernel
theorem dX6_decades_195 : decode cX6_decades 195 = .ok (.invokevirtual 306, 3) := by decide +kernel
theorem dX6_decades_198 : decode cX6_decades 198 = .ok (.iload_n 3, 1) := by decide +kernel
theorem dX6_decades_199 : decode cX6_decades 199 = .ok (.ifCond .ne 8, 3) := by decide +kernel
theorem dX6_decades_202 : decode cX6_decades 202 = .ok (.iload 4, 2) := by decide +kernel
theorem dX6_decades_204 : decode cX6_decades 204 = .ok (.goto 15, 3) := by decide +kernel
theorem dX6_decades_207 : decode cX6_decades 207 = .ok (.iload_n 3, 1) := by decide +kernel
theorem dX6_decades_208 : decode cX6_decades 208 = .ok (.iconst 1, 1) := by decide +kernel
theorem dX6_decades_209 : decode cX6_decades 209 = .ok (.if_icmp .ne 8, 3) := by decide +kernel
theorem dX6_decades_212 : decode cX6_decades 212 = .ok (.iload 5, 2) := by decide +kernel
theorem dX6_decades_214 : decode cX6_decades 214 = .ok (.goto 5, 3) := by decide +kernel
theorem dX6_decades_217 : decode cX6_decades 217 = .ok (.iload 6, 2) := by decide +kernel
theorem dX6_decades_219 : decode cX6_decades 219 = .ok (.ireturn, 1) := by decide +kernel
theorem dX6_villaIn_0 : decode cX6_villaIn 0 = .ok (.iconst 0, 1) := by decide +kernel
theorem dX6_villaIn_1 : decode cX6_villaIn 1 = .ok (.istore_n 2, 1) := by decide +kernel
theorem dX6_villaIn_2 : decode cX6_villaIn 2 = .ok (.iconst 0, 1) := by decide +kernel
theorem dX6_villaIn_3 : decode cX6_villaIn 3 = .ok (.istore_n 3, 1) := by decide +kernel
theorem dX6_villaIn_4 : decode cX6_villaIn 4 = .ok (.aload_n 0, 1) := by decide +kernel
theorem dX6_villaIn_5 : decode cX6_villaIn 5 = .ok (.lconst 0, 1) := by decide +kernel
theorem dX6_villaIn_6 : decode cX6_villaIn 6 = .ok (.putfield 338, 3) := by decide +kernel
theorem dX6_villaIn_9 : decode cX6_villaIn 9 = .ok (.iconst 0, 1) := by decide +kernel
theorem dX6_villaIn_10 : decode cX6_villaIn 10 = .ok (.istore 4, 2) := by decide +kernel
theorem dX6_villaIn_12 : decode cX6_villaIn 12 = .ok (.iload 4, 2) := by decide +kernel
theorem dX6_villaIn_14 : decode cX6_villaIn 14 = .ok (.bipush 8, 2) := by decide +kernel
theorem dX6_villaIn_16 : decode cX6_villaIn 16 = .ok (.if_icmp .ge 48, 3) := by decide +kernel
theorem dX6_villaIn_19 : decode cX6_villaIn 19 = .ok (.aload_n 0, 1) := by decide +kernel
theorem dX6_villaIn_20 : decode cX6_villaIn 20 = .ok (.iload_n 1, 1) := by decide +kernel
theorem dX6_villaIn_21 : decode cX6_villaIn 21 = .ok (.aload_n 0, 1) := by decide +kernel
theorem dX6_villaIn_22 : decode cX6_villaIn 22 = .ok (.getfield 16, 3) := by decide +kernel
theorem dX6_villaIn_25 : decode cX6_villaIn 25 = .ok (.iload_n 1, 1) := by decide +kernel
theorem dX6_villaIn_26 : decode cX6_villaIn 26 = .ok (.iaload, 1) := by decide +kernel
theorem dX6_villaIn_27 : decode cX6_villaIn 27 = .ok (.iconst 2, 1) := by decide +kernel
theorem dX6_villaIn_28 : decode cX6_villaIn 28 = .ok (.iadd, 1) := by decide +kernel
theorem dX6_villaIn_29 : decode cX6_villaIn 29 = .ok (.iload 4, 2) := by decide +kernel
theorem dX6_villaIn_31 : decode cX6_villaIn 31 = .ok (.aload_n 0, 1) := by decide +kernel
theorem dX6_villaIn_32 : decode cX6_villaIn 32 = .ok (.invokevirtual 344, 3) := by decide +kernel
theorem dX6_villaIn_35 : decode cX6_villaIn 35 = .ok (.invokevirtual 347, 3) := by decide +kernel
theorem dX6_villaIn_38 : decode cX6_villaIn 38 = .ok (.istore 5, 2) := by decide +kernel
theorem dX6_villaIn_40 : decode cX6_villaIn 40 = .ok (.iload_n 2, 1) := by decide +kernel
theorem dX6_villaIn_41 : decode cX6_villaIn 41 = .ok (.iload 5, 2) := by decide +kernel
theorem dX6_villaIn_43 : decode cX6_villaIn 43 = .ok (.iadd, 1) := by decide +kernel
theorem dX6_villaIn_44 : decode cX6_villaIn 44 = .ok (.istore_n 2, 1) := by decide +kernel
theorem dX6_villaIn_45 : decode cX6_villaIn 45 = .ok (.iload 5, 2) := by decide +kernel
theorem dX6_villaIn_47 : decode cX6_villaIn 47 = .ok (.iload_n 3, 1) := by decide +kernel
theorem dX6_villaIn_48 : decode cX6_villaIn 48 = .ok (.if_icmp .le 8, 3) := by decide +kernel
theorem dX6_villaIn_51 : decode cX6_villaIn 51 = .ok (.iload 5, 2) := by decide +kernel
theorem dX6_villaIn_53 : decode cX6_villaIn 53 = .ok (.goto 4, 3) := by decide +kernel
theorem dX6_villaIn_56 : decode cX6_villaIn 56 = .ok (.iload_n 3, 1) := by decide +kernel
theorem dX6_villaIn_57 : decode cX6_villaIn 57 = .ok (.istore_n 3, 1) := by decide +kernel
theorem dX6_villaIn_58 : decode cX6_villaIn 58 = .ok (.iinc 4 1, 3) := by decide +kernel
theorem dX6_villaIn_61 : decode cX6_villaIn 61 = .ok (.goto (-49), 3) := by decide +kernel
theorem dX6_villaIn_64 : decode cX6_villaIn 64 = .ok (.aload_n 0, 1) := by decide +kernel
theorem dX6_villaIn_65 : decode cX6_villaIn 65 = .ok (.getfield 75, 3) := by decide +kernel
theorem dX6_villaIn_68 : decode cX6_villaIn 68 = .ok (.bipush 60, 2) := by decide +kernel
theorem dX6_villaIn_70 : decode cX6_villaIn 70 = .ok (.iaload, 1) := by decide +kernel
theorem dX6_villaIn_71 : decode cX6_villaIn 71 = .ok (.iconst (-1), 1) := by decide +kernel
theorem dX6_villaIn_72 : decode cX6_villaIn 72 = .ok (.if_icmp .ne 5, 3) := by decide +kernel
theorem dX6_villaIn_75 : decode cX6_villaIn 75 = .ok (.iload_n 2, 1) := by decide +kernel
theorem dX6_villaIn_76 : decode cX6_villaIn 76 = .ok (.ireturn, 1) := by decide +kernel
theorem dX6_villaIn_77 : decode cX6_villaIn 77 = .ok (.aload_n 0, 1) := by decide +kernel
theorem dX6_villaIn_78 : decode cX6_villaIn 78 = .ok (.getfield 96, 3) := by decide +kernel
theorem dX6_villaIn_81 : decode cX6_villaIn 81 = .ok (.iconst 0, 1) := by decide +kernel
theorem dX6_villaIn_82 : decode cX6_villaIn 82 = .ok (.iload_n 2, 1) := by decide +kernel
theorem dX6_villaIn_83 : decode cX6_villaIn 83 = .ok (.iastore, 1) := by decide +kernel
theorem dX6_villaIn_84 : decode cX6_villaIn 84 = .ok (.aload_n 0, 1) := by decide +kernel
theorem dX6_villaIn_85 : decode cX6_villaIn 85 = .ok (.getfield 96, 3) := by decide +kernel
theorem dX6_villaIn_88 : decode cX6_villaIn 88 = .ok (.iconst 1, 1) := by decide +kernel
theorem dX6_villaIn_89 : decode cX6_villaIn 89 = .ok (.iload_n 3, 1) := by decide +kernel
theorem dX6_villaIn_90 : decode cX6_villaIn 90 = .ok (.iastore, 1) := by decide +kernel
theorem dX6_villaIn_91 : decode cX6_villaIn 91 = .ok (.aload_n 0, 1) := by decide +kernel
theorem dX6_villaIn_92 : decode cX6_villaIn 92 = .ok (.getfield 96, 3) := by decide +kernel
theorem dX6_villaIn_95 : decode cX6_villaIn 95 = .ok (.iconst 2, 1) := by decide +kernel
theorem dX6_villaIn_96 : decode cX6_villaIn 96 = .ok (.aload_n 0, 1) := by decide +kernel
theorem dX6_villaIn_97 : decode cX6_villaIn 97 = .ok (.getfield 16, 3) := by decide +kernel
theorem dX6_villaIn_100 : decode cX6_villaIn 100 = .ok (.iload_n 1, 1) := by decide +kernel
theorem dX6_villaIn_101 : decode cX6_villaIn 101 = .ok (.iaload, 1) := by decide +kernel
theorem dX6_villaIn_102 : decode cX6_villaIn 102 = .ok (.iastore, 1) := by decide +kernel
theorem dX6_villaIn_103 : decode cX6_villaIn 103 = .ok (.aload_n 0, 1) := by decide +kernel
theorem dX6_villaIn_104 : decode cX6_villaIn 104 = .ok (.getfield 96, 3) := by decide +kernel
theorem dX6_villaIn_107 : decode cX6_villaIn 107 = .ok (.iconst 3, 1) := by decide +kernel
theorem dX6_villaIn_108 : decode cX6_villaIn 108 = .ok (.iconst 0, 1) := by decide +kernel
theorem dX6_villaIn_109 : decode cX6_villaIn 109 = .ok (.iastore, 1) := by decide +kernel
theorem dX6_villaIn_110 : decode cX6_villaIn 110 = .ok (.aload_n 0, 1) := by decide +kernel
theorem dX6_villaIn_111 : decode cX6_villaIn 111 = .ok (.getfield 96, 3) := by decide +kernel
theorem dX6_villaIn_114 : decode cX6_villaIn 114 = .ok (.iconst 4, 1) := by decide +kernel
theorem dX6_villaIn_115 : decode cX6_villaIn 115 = .ok (.aload_n 0, 1) := by decide +kernel
theorem dX6_villaIn_116 : decode cX6_villaIn 116 = .ok (.getfield 75, 3) := by decide +kernel
theorem dX6_villaIn_119 : decode cX6_villaIn 119 = .ok (.bipush 61, 2) := by decide +kernel
theorem dX6_villaIn_121 : decode cX6_villaIn 121 = .ok (.iaload, 1) := by decide +kernel
theorem dX6_villaIn_122 : decode cX6_villaIn 122 = .ok (.iastore, 1) := by decide +kernel
theorem dX6_villaIn_123 : decode cX6_villaIn 123 = .ok (.aload_n 0, 1) := by decide +kernel
theorem dX6_villaIn_124 : decode cX6_villaIn 124 = .ok (.getfield 96, 3) := by decide +kernel
theorem dX6_villaIn_127 : decode cX6_villaIn 127 = .ok (.iconst 5, 1) := by decide +kernel
theorem dX6_villaIn_128 : decode cX6_villaIn 128 = .ok (.aload_n 0, 1) := by decide +kernel
theorem dX6_villaIn_129 : decode cX6_villaIn 129 = .ok (.iconst (-1), 1) := by decide +kernel
theorem dX6_villaIn_130 : decode cX6_villaIn 130 = .ok (.invokevirtual 367, 3) := by decide +kernel
theorem dX6_villaIn_133 : decode cX6_villaIn 133 = .ok (.invokestatic 370, 3) := by decide +kernel
theorem dX6_villaIn_136 : decode cX6_villaIn 136 = .ok (.iastore, 1) := by decide +kernel
theorem dX6_villaIn_137 : decode cX6_villaIn 137 = .ok (.aload_n 0, 1) := by decide +kernel
theorem dX6_villaIn_138 : decode cX6_villaIn 138 = .ok (.getfield 96, 3) := by decide +kernel
theorem dX6_villaIn_141 : decode cX6_villaIn 141 = .ok (.bipush 6, 2) := by decide +kernel
theorem dX6_villaIn_143 : decode cX6_villaIn 143 = .ok (.iconst 0, 1) := by decide +kernel
theorem dX6_villaIn_144 : decode cX6_villaIn 144 = .ok (.iastore, 1) := by decide +kernel
theorem dX6_villaIn_145 : decode cX6_villaIn 145 = .ok (.aload_n 0, 1) := by decide +kernel
theorem dX6_villaIn_146 : decode cX6_villaIn 146 = .ok (.aload_n 0, 1) := by decide +kernel
theorem dX6_villaIn_147 : decode cX6_villaIn 147 = .ok (.getfield 29, 3) := by decide +kernel
theorem dX6_villaIn_150 : decode cX6_villaIn 150 = .ok (.aload_n 0, 1) := by decide +kernel
theorem dX6_villaIn_151 : decode cX6_villaIn 151 = .ok (.getfield 75, 3) := by decide +kernel
theorem dX6_villaIn_154 : decode cX6_villaIn 154 = .ok (.bipush 60, 2) := by decide +kernel
theorem dX6_villaIn_156 : decode cX6_villaIn 156 = .ok (.iaload, 1) := by decide +kernel
theorem dX6_villaIn_157 : decode cX6_villaIn 157 = .ok (.iaload, 1) := by decide +kernel
theorem dX6_villaIn_158 : decode cX6_villaIn 158 = .ok (.invokevirtual 373, 3) := by decide +kernel
theorem dX6_villaIn_161 : decode cX6_villaIn 161 = .ok (.istore 4, 2) := by decide +kernel
theorem dX6_villaIn_163 : decode cX6_villaIn 163 = .ok (.iload 4, 2) := by decide +kernel
theorem dX6_villaIn_165 : decode cX6_villaIn 165 = .ok (.ifCond .ge 7, 3) := by decide +kernel
theorem dX6_villaIn_168 : decode cX6_villaIn 168 = .ok (.iconst 0, 1) := by decide +kernel
theorem dX6_villaIn_169 : decode cX6_villaIn 169 = .ok (.goto 19, 3) := by decide +kernel
theorem dX6_villaIn_172 : decode cX6_villaIn 172 = .ok (.iload 4, 2) := by decide +kernel
theorem dX6_villaIn_174 : decode cX6_villaIn 174 = .ok (.sipush 999, 3) := by decide +kernel
theorem dX6_villaIn_177 : decode cX6_villaIn 177 = .ok (.if_icmp .le 9, 3) := by decide +kernel
theorem dX6_villaIn_180 : decode cX6_villaIn 180 = .ok (.sipush 999, 3) := by decide +kernel
theorem dX6_villaIn_183 : decode cX6_villaIn 183 = .ok (.goto 5, 3) := by decide +kernel
theorem dX6_villaIn_186 : decode cX6_villaIn 186 = .ok (.iload 4, 2) := by decide +kernel
theorem dX6_villaIn_188 : decode cX6_villaIn 188 = .ok (.ireturn, 1) := by decide +kernel
theorem dX6_hollow_0 : decode cX6_hollow 0 = .ok (.aload_n 0, 1) := by decide +kernel
theorem dX6_hollow_1 : decode cX6_hollow 1 = .ok (.iconst 0, 1) := by decide +kernel
theorem dX6_hollow_2 : decode cX6_hollow 2 = .ok (.putfield 129, 3) := by decide +kernel
theorem dX6_hollow_5 : decode cX6_hollow 5 = .ok (.aload_n 0, 1) := by decide +kernel
theorem dX6_hollow_6 : decode cX6_hollow 6 = .ok (.iload_n 1, 1) := by decide +kernel
theorem dX6_hollow_7 : decode cX6_hollow 7 = .ok (.iconst 1, 1) := by decide +kernel
theorem dX6_hollow_8 : decode cX6_hollow 8 = .ok (.invokevirtual 398, 3) := by decide +kernel
theorem dX6_hollow_11 : decode cX6_hollow 11 = .ok (.ifCond .ne 5, 3) := by decide +kernel
theorem dX6_hollow_14 : decode cX6_hollow 14 = .ok (.iconst 0, 1) := by decide +kernel
theorem dX6_hollow_15 : decode cX6_hollow 15 = .ok (.ireturn, 1) := by decide +kernel
theorem dX6_hollow_16 : decode cX6_hollow 16 = .ok (.aload_n 0, 1) := by decide +kernel
theorem dX6_hollow_17 : decode cX6_hollow 17 = .ok (.invokevirtual 379, 3) := by decide +kernel
theorem dX6_hollow_20 : decode cX6_hollow 20 = .ok (.iconst (-1), 1) := by decide +kernel
theorem dX6_hollow_21 : decode cX6_hollow 21 = .ok (.istore_n 2, 1) := by decide +kernel
theorem dX6_hollow_22 : decode cX6_hollow 22 = .ok (.iconst (-1), 1) := by decide +kernel
theorem dX6_hollow_23 : decode cX6_hollow 23 = .ok (.istore_n 3, 1) := by decide +kernel
theorem dX6_hollow_24 : decode cX6_hollow 24 = .ok (.iconst 0, 1) := by decide +kernel
theorem dX6_hollow_25 : decode cX6_hollow 25 = .ok (.istore 4, 2) := by decide +kernel
theorem dX6_hollow_27 : decode cX6_hollow 27 = .ok (.iload 4, 2) := by decide +kernel
theorem dX6_hollow_29 : decode cX6_hollow 29 = .ok (.aload_n 0, 1) := by decide +kernel
theorem dX6_hollow_30 : decode cX6_hollow 30 = .ok (.invokevirtual 323, 3) := by decide +kernel
theorem dX6_hollow_33 : decode cX6_hollow 33 = .ok (.if_icmp .ge 49, 3) := by decide +kernel
theorem dX6_hollow_36 : decode cX6_hollow 36 = .ok (.aload_n 0, 1) := by decide +kernel
theorem dX6_hollow_37 : decode cX6_hollow 37 = .ok (.iload 4, 2) := by decide +kernel
theorem dX6_hollow_39 : decode cX6_hollow 39 = .ok (.invokevirtual 422, 3) := by decide +kernel
theorem dX6_hollow_42 : decode cX6_hollow 42 = .ok (.ifCond .ne 6, 3) := by decide +kernel
theorem dX6_hollow_45 : decode cX6_hollow 45 = .ok (.goto 31, 3) := by decide +kernel
theorem dX6_hollow_48 : decode cX6_hollow 48 = .ok (.aload_n 0, 1) := by decide +kernel
theorem dX6_hollow_49 : decode cX6_hollow 49 = .ok (.iload 4, 2) := by decide +kernel
theorem dX6_hollow_51 : decode cX6_hollow 51 = .ok (.invokevirtual 470, 3) := by decide +kernel
theorem dX6_hollow_54 : decode cX6_hollow 54 = .ok (.istore 5, 2) := by decide +kernel
theorem dX6_hollow_56 : decode cX6_hollow 56 = .ok (.iload_n 2, 1) := by decide +kernel
theorem dX6_hollow_57 : decode cX6_hollow 57 = .ok (.iconst (-1), 1) := by decide +kernel
theorem dX6_hollow_58 : decode cX6_hollow 58 = .ok (.if_icmp .eq 12, 3) := by decide +kernel
theorem dX6_hollow_61 : decode cX6_hollow 61 = .ok (.iload 5, 2) := by decide +kernel
theorem dX6_hollow_63 : decode cX6_hollow 63 = .ok (.iload_n 3, 1) := by decide +kernel
theorem dX6_hollow_64 : decode cX6_hollow 64 = .ok (.if_icmp .lt 6, 3) := by decide +kernel
theorem dX6_hollow_67 : decode cX6_hollow 67 = .ok (.goto 9, 3) := by decide +kernel
theorem dX6_hollow_70 : decode cX6_hollow 70 = .ok (.iload 4, 2) := by decide +kernel
theorem dX6_hollow_72 : decode cX6_hollow 72 = .ok (.istore_n 2, 1) := by decide +kernel
theorem dX6_hollow_73 : decode cX6_hollow 73 = .ok (.iload 5, 2) := by decide +kernel
theorem dX6_hollow_75 : decode cX6_hollow 75 = .ok (.istore_n 3, 1) := by decide +kernel
theorem dX6_hollow_76 : decode cX6_hollow 76 = .ok (.iinc 4 1, 3) := by decide +kernel
theorem dX6_hollow_79 : decode cX6_hollow 79 = .ok (.goto (-52), 3) := by decide +kernel
theorem dX6_hollow_82 : decode cX6_hollow 82 = .ok (.iload_n 1, 1) := by decide +kernel
theorem dX6_hollow_83 : decode cX6_hollow 83 = .ok (.ifCond .ne 7, 3) := by decide +kernel
theorem dX6_hollow_86 : decode cX6_hollow 86 = .ok (.iload_n 2, 1) := by decide +kernel
theorem dX6_hollow_87 : decode cX6_hollow 87 = .ok (.goto 4, 3) := by decide +kernel
theorem dX6_hollow_90 : decode cX6_hollow 90 = .ok (.iload_n 3, 1) := by decide +kernel
theorem dX6_hollow_91 : decode cX6_hollow 91 = .ok (.ireturn, 1) := by decide +kernel
theorem dX6_sale_0 : decode cX6_sale 0 = .ok (.aload_n 0, 1) := by decide +kernel
theorem dX6_sale_1 : decode cX6_sale 1 = .ok (.iconst 0, 1) := by decide +kernel
theorem dX6_sale_2 : decode cX6_sale 2 = .ok (.putfield 129, 3) := by decide +kernel
theorem dX6_sale_5 : decode cX6_sale 5 = .ok (.aload_n 0, 1) := by decide +kernel
theorem dX6_sale_6 : decode cX6_sale 6 = .ok (.iload_n 1, 1) := by decide +kernel
theorem dX6_sale_7 : decode cX6_sale 7 = .ok (.invokevirtual 407, 3) := by decide +kernel
theorem dX6_sale_10 : decode cX6_sale 10 = .ok (.ifCond .ne 5, 3) := by decide +kernel
theorem dX6_sale_13 : decode cX6_sale 13 = .ok (.iconst 0, 1) := by decide +kernel
theorem dX6_sale_14 : decode cX6_sale 14 = .ok (.ireturn, 1) := by decide +kernel
theorem dX6_sale_15 : decode cX6_sale 15 = .ok (.aload_n 0, 1) := by decide +kernel
theorem dX6_sale_16 : decode cX6_sale 16 = .ok (.invokevirtual 379, 3) := by decide +kernel
theorem dX6_sale_19 : decode cX6_sale 19 = .ok (.aload_n 0, 1) := by decide +kernel
theorem dX6_sale_20 : decode cX6_sale 20 = .ok (.getfield 75, 3) := by decide +kernel
theorem dX6_sale_23 : decode cX6_sale 23 = .ok (.bipush 54, 2) := by decide +kernel
theorem dX6_sale_25 : decode cX6_sale 25 = .ok (.iload_n 1, 1) := by decide +kernel
theorem dX6_sale_26 : decode cX6_sale 26 = .ok (.iadd, 1) := by decide +kernel
theorem dX6_sale_27 : decode cX6_sale 27 = .ok (.iaload, 1) := by decide +kernel
theorem dX6_sale_28 : decode cX6_sale 28 = .ok (.istore_n 2, 1) := by decide +kernel
theorem dX6_sale_29 : decode cX6_sale 29 = .ok (.iconst (-1), 1) := by decide +kernel
theorem dX6_sale_30 : decode cX6_sale 30 = .ok (.istore_n 3, 1) := by decide +kernel
theorem dX6_sale_31 : decode cX6_sale 31 = .ok (.aload_n 0, 1) := by decide +kernel
theorem dX6_sale_32 : decode cX6_sale 32 = .ok (.iload_n 1, 1) := by decide +kernel
theorem dX6_sale_33 : decode cX6_sale 33 = .ok (.invokevirtual 410, 3) := by decide +kernel
theorem dX6_sale_36 : decode cX6_sale 36 = .ok (.istore 4, 2) := by decide +kernel
theorem dX6_sale_38 : decode cX6_sale 38 = .ok (.iconst 0, 1) := by decide +kernel
theorem dX6_sale_39 : decode cX6_sale 39 = .ok (.istore 5, 2) := by decide +kernel
theorem dX6_sale_41 : decode cX6_sale 41 = .ok (.iload 5, 2) := by decide +kernel
theorem dX6_sale_43 : decode cX6_sale 43 = .ok (.bipush 8, 2) := by decide +kernel
theorem dX6_sale_45 : decode cX6_sale 45 = .ok (.if_icmp .ge 61, 3) := by decide +kernel
theorem dX6_sale_48 : decode cX6_sale 48 = .ok (.iload_n 2, 1) := by decide +kernel
theorem dX6_sale_49 : decode cX6_sale 49 = .ok (.iload 5, 2) := by decide +kernel
theorem dX6_sale_51 : decode cX6_sale 51 = .ok (.ishr, 1) := by decide +kernel
theorem dX6_sale_52 : decode cX6_sale 52 = .ok (.iconst 1, 1) := by decide +kernel
theorem dX6_sale_53 : decode cX6_sale 53 = .ok (.iand, 1) := by decide +kernel
theorem dX6_sale_54 : decode cX6_sale 54 = .ok (.iconst 1, 1) := by decide +kernel
theorem dX6_sale_55 : decode cX6_sale 55 = .ok (.if_icmp .ne 6, 3) := by decide +kernel
theorem dX6_sale_58 : decode cX6_sale 58 = .ok (.goto 42, 3) := by decide +kernel
theorem dX6_sale_61 : decode cX6_sale 61 = .ok (.aload_n 0, 1) := by decide +kernel
theorem dX6_sale_62 : decode cX6_sale 62 = .ok (.getfield 75, 3) := by decide +kernel
theorem dX6_sale_65 : decode cX6_sale 65 = .ok (.bipush 54, 2) := by decide +kernel
theorem dX6_sale_67 : decode cX6_sale 67 = .ok (.iload_n 1, 1) := by decide +kernel
theorem dX6_sale_68 : decode cX6_sale 68 = .ok (.iadd, 1) := by decide +kernel
theorem dX6_sale_69 : decode cX6_sale 69 = .ok (.iload_n 2, 1) := by decide +kernel
theorem dX6_sale_70 : decode cX6_sale 70 = .ok (.iconst 1, 1) := by decide +kernel
theorem dX6_sale_71 : decode cX6_sale 71 = .ok (.iload 5, 2) := by decide +kernel
theorem dX6_sale_73 : decode cX6_sale 73 = .ok (.ishl, 1) := by decide +kernel
theorem dX6_sale_74 : decode cX6_sale 74 = .ok (.ior, 1) := by decide +kernel
theorem dX6_sale_75 : decode cX6_sale 75 = .ok (.iastore, 1) := by decide +kernel
theorem dX6_sale_76 : decode cX6_sale 76 = .ok (.aload_n 0, 1) := by decide +kernel
theorem dX6_sale_77 : decode cX6_sale 77 = .ok (.iload_n 1, 1) := by decide +kernel
theorem dX6_sale_78 : decode cX6_sale 78 = .ok (.invokevirtual 410, 3) := by decide +kernel
theorem dX6_sale_81 : decode cX6_sale 81 = .ok (.istore 6, 2) := by decide +kernel
theorem dX6_sale_83 : decode cX6_sale 83 = .ok (.iload 6, 2) := by decide +kernel
theorem dX6_sale_85 : decode cX6_sale 85 = .ok (.iload 4, 2) := by decide +kernel
theorem dX6_sale_87 : decode cX6_sale 87 = .ok (.if_icmp .lt 6, 3) := by decide +kernel
theorem dX6_sale_90 : decode cX6_sale 90 = .ok (.goto 10, 3) := by decide +kernel
theorem dX6_sale_93 : decode cX6_sale 93 = .ok (.iload 5, 2) := by decide +kernel
theorem dX6_sale_95 : decode cX6_sale 95 = .ok (.istore_n 3, 1) := by decide +kernel
theorem dX6_sale_96 : decode cX6_sale 96 = .ok (.iload 6, 2) := by decide +kernel
theorem dX6_sale_98 : decode cX6_sale 98 = .ok (.istore 4, 2) := by decide +kernel
theorem dX6_sale_100 : decode cX6_sale 100 = .ok (.iinc 5 1, 3) := by decide +kernel
theorem dX6_sale_103 : decode cX6_sale 103 = .ok (.goto (-62), 3) := by decide +kernel
theorem dX6_sale_106 : decode cX6_sale 106 = .ok (.aload_n 0, 1) := by decide +kernel
theorem dX6_sale_107 : decode cX6_sale 107 = .ok (.getfield 75, 3) := by decide +kernel
theorem dX6_sale_110 : decode cX6_sale 110 = .ok (.bipush 54, 2) := by decide +kernel
theorem dX6_sale_112 : decode cX6_sale 112 = .ok (.iload_n 1, 1) := by decide +kernel
theorem dX6_sale_113 : decode cX6_sale 113 = .ok (.iadd, 1) := by decide +kernel
theorem dX6_sale_114 : decode cX6_sale 114 = .ok (.iload_n 2, 1) := by decide +kernel
theorem dX6_sale_115 : decode cX6_sale 115 = .ok (.iastore, 1) := by decide +kernel
theorem dX6_sale_116 : decode cX6_sale 116 = .ok (.iload_n 3, 1) := by decide +kernel
theorem dX6_sale_117 : decode cX6_sale 117 = .ok (.ireturn, 1) := by decide +kernel
theorem dX6_shade_0 : decode cX6_shade 0 = .ok (.aload_n 0, 1) := by decide +kernel
theorem dX6_shade_1 : decode cX6_shade 1 = .ok (.iconst 0, 1) := by decide +kernel
theorem dX6_shade_2 : decode cX6_shade 2 = .ok (.putfield 129, 3) := by decide +kernel
theorem dX6_shade_5 : decode cX6_shade 5 = .ok (.aload_n 0, 1) := by decide +kernel
theorem dX6_shade_6 : decode cX6_shade 6 = .ok (.iload_n 1, 1) := by decide +kernel
theorem dX6_shade_7 : decode cX6_shade 7 = .ok (.invokevirtual 407, 3) := by decide +kernel
theorem dX6_shade_10 : decode cX6_shade 10 = .ok (.ifCond .eq 29, 3) := by decide +kernel
theorem dX6_shade_13 : decode cX6_shade 13 = .ok (.aload_n 0, 1) := by decide +kernel
theorem dX6_shade_14 : decode cX6_shade 14 = .ok (.iload_n 2, 1) := by decide +kernel
theorem dX6_shade_15 : decode cX6_shade 15 = .ok (.invokevirtual 407, 3) := by decide +kernel
theorem dX6_shade_18 : decode cX6_shade 18 = .ok (.ifCond .eq 21, 3) := by decide +kernel
theorem dX6_shade_21 : decode cX6_shade 21 = .ok (.aload_n 0, 1) := by decide +kernel
theorem dX6_shade_22 : decode cX6_shade 22 = .ok (.iload_n 1, 1) := by decide +kernel
theorem dX6_shade_23 : decode cX6_shade 23 = .ok (.iload_n 2, 1) := by decide +kernel
theorem dX6_shade_24 : decode cX6_shade 24 = .ok (.if_icmp .eq 7, 3) := by decide +kernel
theorem dX6_shade_27 : decode cX6_shade 27 = .ok (.iconst 1, 1) := by decide +kernel
theorem dX6_shade_28 : decode cX6_shade 28 = .ok (.goto 4, 3) := by decide +kernel
theorem dX6_shade_31 : decode cX6_shade 31 = .ok (.iconst 0, 1) := by decide +kernel
theorem dX6_shade_32 : decode cX6_shade 32 = .ok (.iconst 2, 1) := by decide +kernel
theorem dX6_shade_33 : decode cX6_shade 33 = .ok (.invokevirtual 290, 3) := by decide +kernel
theorem dX6_shade_36 : decode cX6_shade 36 = .ok (.ifCond .ne 5, 3) := by decide +kernel
theorem dX6_shade_39 : decode cX6_shade 39 = .ok (.iconst 0, 1) := by decide +kernel
theorem dX6_shade_40 : decode cX6_shade 40 = .ok (.ireturn, 1) := by decide +kernel
theorem dX6_shade_41 : decode cX6_shade 41 = .ok (.aload_n 0, 1) := by decide +kernel
theorem dX6_shade_42 : decode cX6_shade 42 = .ok (.getfield 75, 3) := by decide +kernel
theorem dX6_shade_45 : decode cX6_shade 45 = .ok (.bipush 48, 2) := by decide +kernel
theorem dX6_shade_47 : decode cX6_shade 47 = .ok (.iload_n 2, 1) := by decide +kernel
theorem dX6_shade_48 : decode cX6_shade 48 = .ok (.iadd, 1) := by decide +kernel
theorem dX6_shade_49 : decode cX6_shade 49 = .ok (.iaload, 1) := by decide +kernel
theorem dX6_shade_50 : decode cX6_shade 50 = .ok (.istore_n 3, 1) := by decide +kernel
theorem dX6_shade_51 : decode cX6_shade 51 = .ok (.iconst (-1), 1) := by decide +kernel
theorem dX6_shade_52 : decode cX6_shade 52 = .ok (.istore 4, 2) := by decide +kernel
theorem dX6_shade_54 : decode cX6_shade 54 = .ok (.iconst 0, 1) := by decide +kernel
theorem dX6_shade_55 : decode cX6_shade 55 = .ok (.istore 5, 2) := by decide +kernel
theorem dX6_shade_57 : decode cX6_shade 57 = .ok (.iconst 0, 1) := by decide +kernel
theorem dX6_shade_58 : decode cX6_shade 58 = .ok (.istore 6, 2) := by decide +kernel
theorem dX6_shade_60 : decode cX6_shade 60 = .ok (.iload 6, 2) := by decide +kernel
theorem dX6_shade_62 : decode cX6_shade 62 = .ok (.iconst 5, 1) := by decide +kernel
theorem dX6_shade_63 : decode cX6_shade 63 = .ok (.if_icmp .gt 55, 3) := by decide +kernel
theorem dX6_shade_66 : decode cX6_shade 66 = .ok (.aload_n 0, 1) := by decide +kernel
theorem dX6_shade_67 : decode cX6_shade 67 = .ok (.getfield 75, 3) := by decide +kernel
theorem dX6_shade_70 : decode cX6_shade 70 = .ok (.bipush 48, 2) := by decide +kernel
theorem dX6_shade_72 : decode cX6_shade 72 = .ok (.iload_n 2, 1) := by decide +kernel
theorem dX6_shade_73 : decode cX6_shade 73 = .ok (.iadd, 1) := by decide +kernel
theorem dX6_shade_74 : decode cX6_shade 74 = .ok (.iload 6, 2) := by decide +kernel
theorem dX6_shade_76 : decode cX6_shade 76 = .ok (.iastore, 1) := by decide +kernel
theorem dX6_shade_77 : decode cX6_shade 77 = .ok (.aload_n 0, 1) := by decide +kernel
theorem dX6_shade_78 : decode cX6_shade 78 = .ok (.invokevirtual 379, 3) := by decide +kernel
theorem dX6_shade_81 : decode cX6_shade 81 = .ok (.aload_n 0, 1) := by decide +kernel
theorem dX6_shade_82 : decode cX6_shade 82 = .ok (.iload_n 1, 1) := by decide +kernel
theorem dX6_shade_83 : decode cX6_shade 83 = .ok (.invokevirtual 410, 3) := by decide +kernel
theorem dX6_shade_86 : decode cX6_shade 86 = .ok (.istore 7, 2) := by decide +kernel
theorem dX6_shade_88 : decode cX6_shade 88 = .ok (.iload 4, 2) := by decide +kernel
theorem dX6_shade_90 : decode cX6_shade 90 = .ok (.iconst (-1), 1) := by decide +kernel
theorem dX6_shade_91 : decode cX6_shade 91 = .ok (.if_icmp .eq 13, 3) := by decide +kernel
theorem dX6_shade_94 : decode cX6_shade 94 = .ok (.iload 7, 2) := by decide +kernel
theorem dX6_shade_96 : decode cX6_shade 96 = .ok (.iload 5, 2) := by decide +kernel
theorem dX6_shade_98 : decode cX6_shade 98 = .ok (.if_icmp .lt 6, 3) := by decide +kernel
theorem dX6_shade_101 : decode cX6_shade 101 = .ok (.goto 11, 3) := by decide +kernel
theorem dX6_shade_104 : decode cX6_shade 104 = .ok (.iload 6, 2) := by decide +kernel
theorem dX6_shade_106 : decode cX6_shade 106 = .ok (.istore 4, 2) := by decide +kernel
theorem dX6_shade_108 : decode cX6_shade 108 = .ok (.iload 7, 2) := by decide +kernel
theorem dX6_shade_110 : decode cX6_shade 110 = .ok (.istore 5, 2) := by decide +kernel
theorem dX6_shade_112 : decode cX6_shade 112 = .ok (.iinc 6 1, 3) := by decide +kernel
theorem dX6_shade_115 : decode cX6_shade 115 = .ok (.goto (-55), 3) := by decide +kernel
theorem dX6_shade_118 : decode cX6_shade 118 = .ok (.aload_n 0, 1) := by decide +kernel
theorem dX6_shade_119 : decode cX6_shade 119 = .ok (.getfield 75, 3) := by decide +kernel
theorem dX6_shade_122 : decode cX6_shade 122 = .ok (.bipush 48, 2) := by decide +kernel
theorem dX6_shade_124 : decode cX6_shade 124 = .ok (.iload_n 2, 1) := by decide +kernel
theorem dX6_shade_125 : decode cX6_shade 125 = .ok (.iadd, 1) := by decide +kernel
theorem dX6_shade_126 : decode cX6_shade 126 = .ok (.iload_n 3, 1) := by decide +kernel
theorem dX6_shade_127 : decode cX6_shade 127 = .ok (.iastore, 1) := by decide +kernel
theorem dX6_shade_128 : decode cX6_shade 128 = .ok (.iload 4, 2) := by decide +kernel
theorem dX6_shade_130 : decode cX6_shade 130 = .ok (.ireturn, 1) := by decide +kernel
theorem dX6_dearest_0 : decode cX6_dearest 0 = .ok (.aload_n 0, 1) := by decide +kernel
theorem dX6_dearest_1 : decode cX6_dearest 1 = .ok (.iconst 0, 1) := by decide +kernel
theorem dX6_dearest_2 : decode cX6_dearest 2 = .ok (.putfield 129, 3) := by decide +kernel
theorem dX6_dearest_5 : decode cX6_dearest 5 = .ok (.aload_n 0, 1) := by decide +kernel
theorem dX6_dearest_6 : decode cX6_dearest 6 = .ok (.iload_n 1, 1) := by decide +kernel
theorem dX6_dearest_7 : decode cX6_dearest 7 = .ok (.iconst 1, 1) := by decide +kernel
theorem dX6_dearest_8 : decode cX6_dearest 8 = .ok (.bipush 20, 2) := by decide +kernel
theorem dX6_dearest_10 : decode cX6_dearest 10 = .ok (.invokestatic 385, 3) := by decide +kernel
theorem dX6_dearest_13 : decode cX6_dearest 13 = .ok (.iconst 1, 1) := by decide +kernel
theorem dX6_dearest_14 : decode cX6_dearest 14 = .ok (.invokevirtual 290, 3) := by decide +kernel
theorem dX6_dearest_17 : decode cX6_dearest 17 = .ok (.ifCond .ne 5, 3) := by decide +kernel
theorem dX6_dearest_20 : decode cX6_dearest 20 = .ok (.iconst 0, 1) := by decide +kernel
theorem dX6_dearest_21 : decode cX6_dearest 21 = .ok (.ireturn, 1) := by decide +kernel
theorem dX6_dearest_22 : decode cX6_dearest 22 = .ok (.aload_n 0, 1) := by decide +kernel
theorem dX6_dearest_23 : decode cX6_dearest 23 = .ok (.aload_n 0, 1) := by decide +kernel
theorem dX6_dearest_24 : decode cX6_dearest 24 = .ok (.getfield 75, 3) := by decide +kernel
theorem dX6_dearest_27 : decode cX6_dearest 27 = .ok (.aload_n 0, 1) := by decide +kernel
theorem dX6_dearest_28 : decode cX6_dearest 28 = .ok (.getfield 78, 3) := by decide +kernel
theorem dX6_dearest_31 : decode cX6_dearest 31 = .ok (.invokevirtual 306, 3) := by decide +kernel
theorem dX6_dearest_34 : decode cX6_dearest 34 = .ok (.iconst (-1), 1) := by decide +kernel
theorem dX6_dearest_35 : decode cX6_dearest 35 = .ok (.istore_n 2, 1) := by decide +kernel
theorem dX6_dearest_36 : decode cX6_dearest 36 = .ok (.iconst 0, 1) := by decide +kernel
theorem dX6_dearest_37 : decode cX6_dearest 37 = .ok (.istore_n 3, 1) := by decide +kernel
theorem dX6_dearest_38 : decode cX6_dearest 38 = .ok (.iconst 0, 1) := by decide +kernel
theorem dX6_dearest_39 : decode cX6_dearest 39 = .ok (.istore 4, 2) := by decide +kernel
theorem dX6_dearest_41 : decode cX6_dearest 41 = .ok (.iload 4, 2) := by decide +kernel
theorem dX6_dearest_43 : decode cX6_dearest 43 = .ok (.iload_n 1, 1) := by decide +kernel
theorem dX6_dearest_44 : decode cX6_dearest 44 = .ok (.if_icmp .ge 44, 3) := by decide +kernel
theorem dX6_dearest_47 : decode cX6_dearest 47 = .ok (.aload_n 0, 1) := by decide +kernel
theorem dX6_dearest_48 : decode cX6_dearest 48 = .ok (.getfield 75, 3) := by decide +kernel
theorem dX6_dearest_51 : decode cX6_dearest 51 = .ok (.bipush 61, 2) := by decide +kernel
theorem dX6_dearest_53 : decode cX6_dearest 53 = .ok (.iaload, 1) := by decide +kernel
theorem dX6_dearest_54 : decode cX6_dearest 54 = .ok (.istore 5, 2) := by decide +kernel
theorem dX6_dearest_56 : decode cX6_dearest 56 = .ok (.aload_n 0, 1) := by decide +kernel
theorem dX6_dearest_57 : decode cX6_dearest 57 = .ok (.invokevirtual 419, 3) := by decide +kernel
theorem dX6_dearest_60 : decode cX6_dearest 60 = .ok (.istore 6, 2) := by decide +kernel
theorem dX6_dearest_62 : decode cX6_dearest 62 = .ok (.iload_n 2, 1) := by decide +kernel
theorem dX6_dearest_63 : decode cX6_dearest 63 = .ok (.iconst (-1), 1) := by decide +kernel
theorem dX6_dearest_64 : decode cX6_dearest 64 = .ok (.if_icmp .eq 12, 3) := by decide +kernel
theorem dX6_dearest_67 : decode cX6_dearest 67 = .ok (.iload 6, 2) := by decide +kernel
theorem dX6_dearest_69 : decode cX6_dearest 69 = .ok (.iload_n 3, 1) := by decide +kernel
theorem dX6_dearest_70 : decode cX6_dearest 70 = .ok (.if_icmp .gt 6, 3) := by decide +kernel
theorem dX6_dearest_73 : decode cX6_dearest 73 = .ok (.goto 9, 3) := by decide +kernel
theorem dX6_dearest_76 : decode cX6_dearest 76 = .ok (.iload 5, 2) := by decide +kernel
theorem dX6_dearest_78 : decode cX6_dearest 78 = .ok (.istore_n 2, 1) := by decide +kernel
theorem dX6_dearest_79 : decode cX6_dearest 79 = .ok (.iload 6, 2) := by decide +kernel
theorem dX6_dearest_81 : decode cX6_dearest 81 = .ok (.istore_n 3, 1) := by decide +kernel
theorem dX6_dearest_82 : decode cX6_dearest 82 = .ok (.iinc 4 1, 3) := by decide +kernel
theorem dX6_dearest_85 : decode cX6_dearest 85 = .ok (.goto (-44), 3) := by decide +kernel
theorem dX6_dearest_88 : decode cX6_dearest 88 = .ok (.aload_n 0, 1) := by decide +kernel
theorem dX6_dearest_89 : decode cX6_dearest 89 = .ok (.aload_n 0, 1) := by decide +kernel
theorem dX6_dearest_90 : decode cX6_dearest 90 = .ok (.getfield 78, 3) := by decide +kernel
theorem dX6_dearest_93 : decode cX6_dearest 93 = .ok (.aload_n 0, 1) := by decide +kernel
theorem dX6_dearest_94 : decode cX6_dearest 94 = .ok (.getfield 75, 3) := by decide +kernel
theorem dX6_dearest_97 : decode cX6_dearest 97 = .ok (.invokevirtual 306, 3) := by decide +kernel
theorem dX6_dearest_100 : decode cX6_dearest 100 = .ok (.iload_n 2, 1) := by decide +kernel
theorem dX6_dearest_101 : decode cX6_dearest 101 = .ok (.ireturn, 1) := by decide +kernel
theorem dX6_image_0 : decode cX6_image 0 = .ok (.aload_n 0, 1) := by decide +kernel
theorem dX6_image_1 : decode cX6_image 1 = .ok (.iconst 0, 1) := by decide +kernel
theorem dX6_image_2 : decode cX6_image 2 = .ok (.putfield 129, 3) := by decide +kernel
theorem dX6_image_5 : decode cX6_image 5 = .ok (.aload_n 0, 1) := by decide +kernel
theorem dX6_image_6 : decode cX6_image 6 = .ok (.iconst 1, 1) := by decide +kernel
theorem dX6_image_7 : decode cX6_image 7 = .ok (.putfield 320, 3) := by decide +kernel
theorem dX6_image_10 : decode cX6_image 10 = .ok (.aload_n 0, 1) := by decide +kernel
theorem dX6_image_11 : decode cX6_image 11 = .ok (.aload_n 0, 1) := by decide +kernel
theorem dX6_image_12 : decode cX6_image 12 = .ok (.getfield 310, 3) := by decide +kernel
theorem dX6_image_15 : decode cX6_image 15 = .ok (.putfield 473, 3) := by decide +kernel
theorem dX6_image_18 : decode cX6_image 18 = .ok (.aload_n 0, 1) := by decide +kernel
theorem dX6_image_19 : decode cX6_image 19 = .ok (.aload_n 0, 1) := by decide +kernel
theorem dX6_image_20 : decode cX6_image 20 = .ok (.getfield 313, 3) := by decide +kernel
theorem dX6_image_23 : decode cX6_image 23 = .ok (.putfield 476, 3) := by decide +kernel
theorem dX6_image_26 : decode cX6_image 26 = .ok (.aload_n 0, 1) := by decide +kernel
theorem dX6_image_27 : decode cX6_image 27 = .ok (.aload_n 0, 1) := by decide +kernel
theorem dX6_image_28 : decode cX6_image 28 = .ok (.getfield 75, 3) := by decide +kernel
theorem dX6_image_31 : decode cX6_image 31 = .ok (.aload_n 0, 1) := by decide +kernel
theorem dX6_image_32 : decode cX6_image 32 = .ok (.getfield 120, 3) := by decide +kernel
theorem dX6_image_35 : decode cX6_image 35 = .ok (.invokevirtual 306, 3) := by decide +kernel
theorem dX6_image_38 : decode cX6_image 38 = .ok (.aload_n 0, 1) := by decide +kernel
theorem dX6_image_39 : decode cX6_image 39 = .ok (.aload_n 0, 1) := by decide +kernel
theorem dX6_image_40 : decode cX6_image 40 = .ok (.getfield 81, 3) := by decide +kernel
theorem dX6_image_43 : decode cX6_image 43 = .ok (.aload_n 0, 1) := by decide +kernel
theorem dX6_image_44 : decode cX6_image 44 = .ok (.getfield 123, 3) := by decide +kernel
theorem dX6_image_47 : decode cX6_image 47 = .ok (.invokevirtual 306, 3) := by decide +kernel
theorem dX6_image_50 : decode cX6_image 50 = .ok (.aload_n 0, 1) := by decide +kernel
theorem dX6_image_51 : decode cX6_image 51 = .ok (.aload_n 0, 1) := by decide +kernel
theorem dX6_image_52 : decode cX6_image 52 = .ok (.getfield 117, 3) := by decide +kernel
theorem dX6_image_55 : decode cX6_image 55 = .ok (.aload_n 0, 1) := by decide +kernel
theorem dX6_image_56 : decode cX6_image 56 = .ok (.getfield 126, 3) := by decide +kernel
theorem dX6_image_59 : decode cX6_image 59 = .ok (.invokevirtual 306, 3) := by decide +kernel
theorem dX6_image_62 : decode cX6_image 62 = .ok (.return_, 1) := by decide +kernel
theorem dX6_restore_0 : decode cX6_restore 0 = .ok (.aload_n 0, 1) := by decide +kernel
theorem dX6_restore_1 : decode cX6_restore 1 = .ok (.iconst 0, 1) := by decide +kernel
theorem dX6_restore_2 : decode cX6_restore 2 = .ok (.putfield 129, 3) := by decide +kernel
theorem dX6_restore_5 : decode cX6_restore 5 = .ok (.aload_n 0, 1) := by decide +kernel
theorem dX6_restore_6 : decode cX6_restore 6 = .ok (.getfield 320, 3) := by decide +kernel
theorem dX6_restore_9 : decode cX6_restore 9 = .ok (.ifCond .ne 5, 3) := by decide +kernel
theorem dX6_restore_12 : decode cX6_restore 12 = .ok (.iconst 0, 1) := by decide +kernel
theorem dX6_restore_13 : decode cX6_restore 13 = .ok (.ireturn, 1) := by decide +kernel
theorem dX6_restore_14 : decode cX6_restore 14 = .ok (.aload_n 0, 1) := by decide +kernel
theorem dX6_restore_15 : decode cX6_restore 15 = .ok (.aload_n 0, 1) := by decide +kernel
theorem dX6_restore_16 : decode cX6_restore 16 = .ok (.getfield 473, 3) := by decide +kernel
theorem dX6_restore_19 : decode cX6_restore 19 = .ok (.putfield 310, 3) := by decide +kernel
theorem dX6_restore_22 : decode cX6_restore 22 = .ok (.aload_n 0, 1) := by decide +kernel
theorem dX6_restore_23 : decode cX6_restore 23 = .ok (.aload_n 0, 1) := by decide +kernel
theorem dX6_restore_24 : decode cX6_restore 24 = .ok (.getfield 476, 3) := by decide +kernel
theorem dX6_restore_27 : decode cX6_restore 27 = .ok (.putfield 313, 3) := by decide +kernel
theorem dX6_restore_30 : decode cX6_restore 30 = .ok (.aload_n 0, 1) := by decide +kernel
theorem dX6_restore_31 : decode cX6_restore 31 = .ok (.aload_n 0, 1) := by decide +kernel
theorem dX6_restore_32 : decode cX6_restore 32 = .ok (.getfield 120, 3) := by decide +kernel
theorem dX6_restore_35 : decode cX6_restore 35 = .ok (.aload_n 0, 1) := by decide +kernel
theorem dX6_restore_36 : decode cX6_restore 36 = .ok (.getfield 75, 3) := by decide +kernel
theorem dX6_restore_39 : decode cX6_restore 39 = .ok (.invokevirtual 306, 3) := by decide +kernel
theorem dX6_restore_42 : decode cX6_restore 42 = .ok (.aload_n 0, 1) := by decide +kernel
theorem dX6_restore_43 : decode cX6_restore 43 = .ok (.aload_n 0, 1) := by decide +kernel
theorem dX6_restore_44 : decode cX6_restore 44 = .ok (.getfield 123, 3) := by decide +kernel
theorem dX6_restore_47 : decode cX6_restore 47 = .ok (.aload_n 0, 1) := by decide +kernel
theorem dX6_restore_48 : decode cX6_restore 48 = .ok (.getfield 81, 3) := by decide +kernel
theorem dX6_restore_51 : decode cX6_restore 51 = .ok (.invokevirtual 306, 3) := by decide +kernel
theorem dX6_restore_54 : decode cX6_restore 54 = .ok (.aload_n 0, 1) := by decide +kernel
theorem dX6_restore_55 : decode cX6_restore 55 = .ok (.aload_n 0, 1) := by decide +kernel
theorem dX6_restore_56 : decode cX6_restore 56 = .ok (.getfield 126, 3) := by decide +kernel
theorem dX6_restore_59 : decode cX6_restore 59 = .ok (.aload_n 0, 1) := by decide +kernel
theorem dX6_restore_60 : decode cX6_restore 60 = .ok (.getfield 117, 3) := by decide +kernel
theorem dX6_restore_63 : decode cX6_restore 63 = .ok (.invokevirtual 306, 3) := by decide +kernel
theorem dX6_restore_66 : decode cX6_restore 66 = .ok (.iconst 1, 1) := by decide +kernel
theorem dX6_restore_67 : decode cX6_restore 67 = .ok (.ireturn, 1) := by decide +kernel
theorem dJ6_bitCount_0f7a4_0 : decode cJ6_bitCount_0f7a4 0 = .ok (.iload_n 0, 1) := by decide +kernel
theorem dJ6_bitCount_0f7a4_1 : decode cJ6_bitCount_0f7a4 1 = .ok (.iload_n 0, 1) := by decide +kernel
theorem dJ6_bitCount_0f7a4_2 : decode cJ6_bitCount_0f7a4 2 = .ok (.iconst 1, 1) := by decide +kernel
theorem dJ6_bitCount_0f7a4_3 : decode cJ6_bitCount_0f7a4 3 = .ok (.iushr, 1) := by decide +kernel
theorem dJ6_bitCount_0f7a4_4 : decode cJ6_bitCount_0f7a4 4 = .ok (.ldc_w 265, 3) := by decide +kernel
theorem dJ6_bitCount_0f7a4_7 : decode cJ6_bitCount_0f7a4 7 = .ok (.iand, 1) := by decide +kernel
theorem dJ6_bitCount_0f7a4_8 : decode cJ6_bitCount_0f7a4 8 = .ok (.isub, 1) := by decide +kernel
theorem dJ6_bitCount_0f7a4_9 : decode cJ6_bitCount_0f7a4 9 = .ok (.istore_n 0, 1) := by decide +kernel
theorem dJ6_bitCount_0f7a4_10 : decode cJ6_bitCount_0f7a4 10 = .ok (.iload_n 0, 1) := by decide +kernel
theorem dJ6_bitCount_0f7a4_11 : decode cJ6_bitCount_0f7a4 11 = .ok (.ldc_w 266, 3) := by decide +kernel
theorem dJ6_bitCount_0f7a4_14 : decode cJ6_bitCount_0f7a4 14 = .ok (.iand, 1) := by decide +kernel
theorem dJ6_bitCount_0f7a4_15 : decode cJ6_bitCount_0f7a4 15 = .ok (.iload_n 0, 1) := by decide +kernel
theorem dJ6_bitCount_0f7a4_16 : decode cJ6_bitCount_0f7a4 16 = .ok (.iconst 2, 1) := by decide +kernel
theorem dJ6_bitCount_0f7a4_17 : decode cJ6_bitCount_0f7a4 17 = .ok (.iushr, 1) := by decide +kernel
theorem dJ6_bitCount_0f7a4_18 : decode cJ6_bitCount_0f7a4 18 = .ok (.ldc_w 266, 3) := by decide +kernel
theorem dJ6_bitCount_0f7a4_21 : decode cJ6_bitCount_0f7a4 21 = .ok (.iand, 1) := by decide +kernel
theorem dJ6_bitCount_0f7a4_22 : decode cJ6_bitCount_0f7a4 22 = .ok (.iadd, 1) := by decide +kernel
theorem dJ6_bitCount_0f7a4_23 : decode cJ6_bitCount_0f7a4 23 = .ok (.istore_n 0, 1) := by decide +kernel
theorem dJ6_bitCount_0f7a4_24 : decode cJ6_bitCount_0f7a4 24 = .ok (.iload_n 0, 1) := by decide +kernel
theorem dJ6_bitCount_0f7a4_25 : decode cJ6_bitCount_0f7a4 25 = .ok (.iload_n 0, 1) := by decide +kernel
theorem dJ6_bitCount_0f7a4_26 : decode cJ6_bitCount_0f7a4 26 = .ok (.iconst 4, 1) := by decide +kernel
theorem dJ6_bitCount_0f7a4_27 : decode cJ6_bitCount_0f7a4 27 = .ok (.iushr, 1) := by decide +kernel
theorem dJ6_bitCount_0f7a4_28 : decode cJ6_bitCount_0f7a4 28 = .ok (.iadd, 1) := by decide +kernel
theorem dJ6_bitCount_0f7a4_29 : decode cJ6_bitCount_0f7a4 29 = .ok (.ldc_w 267, 3) := by decide +kernel
theorem dJ6_bitCount_0f7a4_32 : decode cJ6_bitCount_0f7a4 32 = .ok (.iand, 1) := by decide +kernel
theorem dJ6_bitCount_0f7a4_33 : decode cJ6_bitCount_0f7a4 33 = .ok (.istore_n 0, 1) := by decide +kernel
theorem dJ6_bitCount_0f7a4_34 : decode cJ6_bitCount_0f7a4 34 = .ok (.iload_n 0, 1) := by decide +kernel
theorem dJ6_bitCount_0f7a4_35 : decode cJ6_bitCount_0f7a4 35 = .ok (.iload_n 0, 1) := by decide +kernel
theorem dJ6_bitCount_0f7a4_36 : decode cJ6_bitCount_0f7a4 36 = .ok (.bipush 8, 2) := by decide +kernel
theorem dJ6_bitCount_0f7a4_38 : decode cJ6_bitCount_0f7a4 38 = .ok (.iushr, 1) := by decide +kernel
theorem dJ6_bitCount_0f7a4_39 : decode cJ6_bitCount_0f7a4 39 = .ok (.iadd, 1) := by decide +kernel
theorem dJ6_bitCount_0f7a4_40 : decode cJ6_bitCount_0f7a4 40 = .ok (.istore_n 0, 1) := by decide +kernel
theorem dJ6_bitCount_0f7a4_41 : decode cJ6_bitCount_0f7a4 41 = .ok (.iload_n 0, 1) := by decide +kernel
theorem dJ6_bitCount_0f7a4_42 : decode cJ6_bitCount_0f7a4 42 = .ok (.iload_n 0, 1) := by decide +kernel
theorem dJ6_bitCount_0f7a4_43 : decode cJ6_bitCount_0f7a4 43 = .ok (.bipush 16, 2) := by decide +kernel
theorem dJ6_bitCount_0f7a4_45 : decode cJ6_bitCount_0f7a4 45 = .ok (.iushr, 1) := by decide +kernel
theorem dJ6_bitCount_0f7a4_46 : decode cJ6_bitCount_0f7a4 46 = .ok (.iadd, 1) := by decide +kernel
theorem dJ6_bitCount_0f7a4_47 : decode cJ6_bitCount_0f7a4 47 = .ok (.istore_n 0, 1) := by decide +kernel
theorem dJ6_bitCount_0f7a4_48 : decode cJ6_bitCount_0f7a4 48 = .ok (.iload_n 0, 1) := by decide +kernel
theorem dJ6_bitCount_0f7a4_49 : decode cJ6_bitCount_0f7a4 49 = .ok (.bipush 63, 2) := by decide +kernel
theorem dJ6_bitCount_0f7a4_51 : decode cJ6_bitCount_0f7a4 51 = .ok (.iand, 1) := by decide +kernel
theorem dJ6_bitCount_0f7a4_52 : decode cJ6_bitCount_0f7a4 52 = .ok (.ireturn, 1) := by decide +kernel
theorem dJ9_abs_0f7a4_0 : decode cJ9_abs_0f7a4 0 = .ok (.iload_n 0, 1) := by decide +kernel
theorem dJ9_abs_0f7a4_1 : decode cJ9_abs_0f7a4 1 = .ok (.ifCond .ge 8, 3) := by decide +kernel
theorem dJ9_abs_0f7a4_4 : decode cJ9_abs_0f7a4 4 = .ok (.iload_n 0, 1) := by decide +kernel
theorem dJ9_abs_0f7a4_5 : decode cJ9_abs_0f7a4 5 = .ok (.ineg, 1) := by decide +kernel
theorem dJ9_abs_0f7a4_6 : decode cJ9_abs_0f7a4 6 = .ok (.goto 4, 3) := by decide +kernel
theorem dJ9_abs_0f7a4_9 : decode cJ9_abs_0f7a4 9 = .ok (.iload_n 0, 1) := by decide +kernel
theorem dJ9_abs_0f7a4_10 : decode cJ9_abs_0f7a4 10 = .ok (.ireturn, 1) := by decide +kernel
theorem dJ9_max_7cf53_0 : decode cJ9_max_7cf53 0 = .ok (.iload_n 0, 1) := by decide +kernel
theorem dJ9_max_7cf53_1 : decode cJ9_max_7cf53 1 = .ok (.iload_n 1, 1) := by decide +kernel
theorem dJ9_max_7cf53_2 : decode cJ9_max_7cf53 2 = .ok (.if_icmp .lt 7, 3) := by decide +kernel
theorem dJ9_max_7cf53_5 : decode cJ9_max_7cf53 5 = .ok (.iload_n 0, 1) := by decide +kernel
theorem dJ9_max_7cf53_6 : decode cJ9_max_7cf53 6 = .ok (.goto 4, 3) := by decide +kernel
theorem dJ9_max_7cf53_9 : decode cJ9_max_7cf53 9 = .ok (.iload_n 1, 1) := by decide +kernel
theorem dJ9_max_7cf53_10 : decode cJ9_max_7cf53 10 = .ok (.ireturn, 1) := by decide +kernel
theorem dJ9_min_7cf53_0 : decode cJ9_min_7cf53 0 = .ok (.iload_n 0, 1) := by decide +kernel
theorem dJ9_min_7cf53_1 : decode cJ9_min_7cf53 1 = .ok (.iload_n 1, 1) := by decide +kernel
theorem dJ9_min_7cf53_2 : decode cJ9_min_7cf53 2 = .ok (.if_icmp .gt 7, 3) := by decide +kernel
theorem dJ9_min_7cf53_5 : decode cJ9_min_7cf53 5 = .ok (.iload_n 0, 1) := by decide +kernel
theorem dJ9_min_7cf53_6 : decode cJ9_min_7cf53 6 = .ok (.goto 4, 3) := by decide +kernel
theorem dJ9_min_7cf53_9 : decode cJ9_min_7cf53 9 = .ok (.iload_n 1, 1) := by decide +kernel
theorem dJ9_min_7cf53_10 : decode cJ9_min_7cf53 10 = .ok (.ireturn, 1) := by decide +kernel
theorem dJ0_length_8abf5_0 : decode cJ0_length_8abf5 0 = .ok (.aload_n 0, 1) := by decide +kernel
theorem dJ0_length_8abf5_1 : decode cJ0_length_8abf5 1 = .ok (.getfield 9, 3) := by decide +kernel
theorem dJ0_length_8abf5_4 : decode cJ0_length_8abf5 4 = .ok (.arraylength, 1) := by decide +kernel
theorem dJ0_length_8abf5_5 : decode cJ0_length_8abf5 5 = .ok (.aload_n 0, 1) := by decide +kernel
theorem dJ0_length_8abf5_6 : decode cJ0_length_8abf5 6 = .ok (.invokevirtual 335, 3) := by decide +kernel
theorem dJ0_length_8abf5_9 : decode cJ0_length_8abf5 9 = .ok (.ishr, 1) := by decide +kernel
theorem dJ0_length_8abf5_10 : decode cJ0_length_8abf5 10 = .ok (.ireturn, 1) := by decide +kernel
theorem dJ0_charAt_5068e_0 : decode cJ0_charAt_5068e 0 = .ok (.aload_n 0, 1) := by decide +kernel
theorem dJ0_charAt_5068e_1 : decode cJ0_charAt_5068e 1 = .ok (.invokevirtual 492, 3) := by decide +kernel
theorem dJ0_charAt_5068e_4 : decode cJ0_charAt_5068e 4 = .ok (.ifCond .eq 12, 3) := by decide +kernel
theorem dJ0_charAt_5068e_7 : decode cJ0_charAt_5068e 7 = .ok (.aload_n 0, 1) := by decide +kernel
theorem dJ0_charAt_5068e_8 : decode cJ0_charAt_5068e 8 = .ok (.getfield 9, 3) := by decide +kernel
theorem dJ0_charAt_5068e_11 : decode cJ0_charAt_5068e 11 = .ok (.iload_n 1, 1) := by decide +kernel
theorem dJ0_charAt_5068e_12 : decode cJ0_charAt_5068e 12 = .ok (.invokestatic 495, 3) := by decide +kernel
theorem dJ0_charAt_5068e_15 : decode cJ0_charAt_5068e 15 = .ok (.ireturn, 1) := by decide +kernel
theorem dJ0_charAt_5068e_16 : decode cJ0_charAt_5068e 16 = .ok (.aload_n 0, 1) := by decide +kernel
theorem dJ0_charAt_5068e_17 : decode cJ0_charAt_5068e 17 = .ok (.getfield 9, 3) := by decide +kernel
theorem dJ0_charAt_5068e_20 : decode cJ0_charAt_5068e 20 = .ok (.iload_n 1, 1) := by decide +kernel
theorem dJ0_charAt_5068e_21 : decode cJ0_charAt_5068e 21 = .ok (.invokestatic 498, 3) := by decide +kernel
theorem dJ0_charAt_5068e_24 : decode cJ0_charAt_5068e 24 = .ok (.ireturn, 1) := by decide +kernel
theorem dJ0_coder_7d493_0 : decode cJ0_coder_7d493 0 = .ok (.getstatic 38, 3) := by decide +kernel
theorem dJ0_coder_7d493_3 : decode cJ0_coder_7d493 3 = .ok (.ifCond .eq 10, 3) := by decide +kernel
theorem dJ0_coder_7d493_6 : decode cJ0_coder_7d493 6 = .ok (.aload_n 0, 1) := by decide +kernel
theorem dJ0_coder_7d493_7 : decode cJ0_coder_7d493 7 = .ok (.getfield 15, 3) := by decide +kernel
theorem dJ0_coder_7d493_10 : decode cJ0_coder_7d493 10 = .ok (.goto 4, 3) := by decide +kernel
theorem dJ0_coder_7d493_13 : decode cJ0_coder_7d493 13 = .ok (.iconst 1, 1) := by decide +kernel
theorem dJ0_coder_7d493_14 : decode cJ0_coder_7d493 14 = .ok (.ireturn, 1) := by decide +kernel
theorem dJ0_isLatin1_aae02_0 : decode cJ0_isLatin1_aae02 0 = .ok (.getstatic 38, 3) := by decide +kernel
theorem dJ0_isLatin1_aae02_3 : decode cJ0_isLatin1_aae02 3 = .ok (.ifCond .eq 14, 3) := by decide +kernel
theorem dJ0_isLatin1_aae02_6 : decode cJ0_isLatin1_aae02 6 = .ok (.aload_n 0, 1) := by decide +kernel
theorem dJ0_isLatin1_aae02_7 : decode cJ0_isLatin1_aae02 7 = .ok (.getfield 15, 3) := by decide +kernel
theorem dJ0_isLatin1_aae02_10 : decode cJ0_isLatin1_aae02 10 = .ok (.ifCond .ne 7, 3) := by decide +kernel
theorem dJ0_isLatin1_aae02_13 : decode cJ0_isLatin1_aae02 13 = .ok (.iconst 1, 1) := by decide +kernel
theorem dJ0_isLatin1_aae02_14 : decode cJ0_isLatin1_aae02 14 = .ok (.goto 4, 3) := by decide +kernel
theorem dJ0_isLatin1_aae02_17 : decode cJ0_isLatin1_aae02 17 = .ok (.iconst 0, 1) := by decide +kernel
theorem dJ0_isLatin1_aae02_18 : decode cJ0_isLatin1_aae02 18 = .ok (.ireturn, 1) := by decide +kernel
theorem dJ0_checkIndex_df160_0 : decode cJ0_checkIndex_df160 0 = .ok (.iload_n 0, 1) := by decide +kernel
theorem dJ0_checkIndex_df160_1 : decode cJ0_checkIndex_df160 1 = .ok (.iload_n 1, 1) := by decide +kernel
theorem dJ0_checkIndex_df160_2 : decode cJ0_checkIndex_df160 2 = .ok (.getstatic 1053, 3) := by decide +kernel
theorem dJ0_checkIndex_df160_5 : decode cJ0_checkIndex_df160 5 = .ok (.invokestatic 1059, 3) := by decide +kernel
theorem dJ0_checkIndex_df160_8 : decode cJ0_checkIndex_df160 8 = .ok (.pop, 1) := by decide +kernel
theorem dJ0_checkIndex_df160_9 : decode cJ0_checkIndex_df160 9 = .ok (.return_, 1) := by decide +kernel
theorem dJ1_charAt_3b067_0 : decode cJ1_charAt_3b067 0 = .ok (.iload_n 1, 1) := by decide +kernel
theorem dJ1_charAt_3b067_1 : decode cJ1_charAt_3b067 1 = .ok (.aload_n 0, 1) := by decide +kernel
theorem dJ1_charAt_3b067_2 : decode cJ1_charAt_3b067 2 = .ok (.arraylength, 1) := by decide +kernel
theorem dJ1_charAt_3b067_3 : decode cJ1_charAt_3b067 3 = .ok (.invokestatic 9, 3) := by decide +kernel
theorem dJ1_charAt_3b067_6 : decode cJ1_charAt_3b067 6 = .ok (.aload_n 0, 1) := by decide +kernel
theorem dJ1_charAt_3b067_7 : decode cJ1_charAt_3b067 7 = .ok (.iload_n 1, 1) := by decide +kernel
theorem dJ1_charAt_3b067_8 : decode cJ1_charAt_3b067 8 = .ok (.baload, 1) := by decide +kernel
theorem dJ1_charAt_3b067_9 : decode cJ1_charAt_3b067 9 = .ok (.sipush 255, 3) := by decide +kernel
theorem dJ1_charAt_3b067_12 : decode cJ1_charAt_3b067 12 = .ok (.iand, 1) := by decide +kernel
theorem dJ1_charAt_3b067_13 : decode cJ1_charAt_3b067 13 = .ok (.i2c, 1) := by decide +kernel
theorem dJ1_charAt_3b067_14 : decode cJ1_charAt_3b067 14 = .ok (.ireturn, 1) := by decide +kernel
theorem dJ2_getChar_3b067_0 : decode cJ2_getChar_3b067 0 = .ok (.getstatic 44, 3) := by decide +kernel
theorem dJ2_getChar_3b067_3 : decode cJ2_getChar_3b067 3 = .ok (.ifCond .ne 25, 3) := by decide +kernel
theorem dJ2_getChar_3b067_6 : decode cJ2_getChar_3b067 6 = .ok (.iload_n 1, 1) := by decide +kernel
theorem dJ2_getChar_3b067_7 : decode cJ2_getChar_3b067 7 = .ok (.ifCond .lt 11, 3) := by decide +kernel
theorem dJ2_getChar_3b067_10 : decode cJ2_getChar_3b067 10 = .ok (.iload_n 1, 1) := by decide +kernel
theorem dJ2_getChar_3b067_11 : decode cJ2_getChar_3b067 11 = .ok (.aload_n 0, 1) := by decide +kernel
theorem dJ2_getChar_3b067_12 : decode cJ2_getChar_3b067 12 = .ok (.invokestatic 48, 3) := by decide +kernel
theorem dJ2_getChar_3b067_15 : decode cJ2_getChar_3b067 15 = .ok (.if_icmp .lt 13, 3) := by decide +kernel
theorem dJ2_getChar_3b067_18 : decode cJ2_getChar_3b067 18 = .ok (.new 52, 3) := by decide +kernel
theorem dJ2_getChar_3b067_21 : decode cJ2_getChar_3b067 21 = .ok (.dup, 1) := by decide +kernel
theorem dJ2_getChar_3b067_22 : decode cJ2_getChar_3b067 22 = .ok (.ldc 54, 2) := by decide +kernel
theorem dJ2_getChar_3b067_24 : decode cJ2_getChar_3b067 24 = .ok (.invokespecial 56, 3) := by decide +kernel
theorem dJ2_getChar_3b067_27 : decode cJ2_getChar_3b067 27 = .ok (.athrow, 1) := by decide +kernel
theorem dJ2_getChar_3b067_28 : decode cJ2_getChar_3b067 28 = .ok (.iload_n 1, 1) := by decide +kernel
theorem dJ2_getChar_3b067_29 : decode cJ2_getChar_3b067 29 = .ok (.iconst 1, 1) := by decide +kernel
theorem dJ2_getChar_3b067_30 : decode cJ2_getChar_3b067 30 = .ok (.ishl, 1) := by decide +kernel
theorem dJ2_getChar_3b067_31 : decode cJ2_getChar_3b067 31 = .ok (.istore_n 1, 1) := by decide +kernel
theorem dJ2_getChar_3b067_32 : decode cJ2_getChar_3b067 32 = .ok (.aload_n 0, 1) := by decide +kernel
theorem dJ2_getChar_3b067_33 : decode cJ2_getChar_3b067 33 = .ok (.iload_n 1, 1) := by decide +kernel
theorem dJ2_getChar_3b067_34 : decode cJ2_getChar_3b067 34 = .ok (.iinc 1 1, 3) := by decide +kernel
theorem dJ2_getChar_3b067_37 : decode cJ2_getChar_3b067 37 = .ok (.baload, 1) := by decide +kernel
theorem dJ2_getChar_3b067_38 : decode cJ2_getChar_3b067 38 = .ok (.sipush 255, 3) := by decide +kernel
theorem dJ2_getChar_3b067_41 : decode cJ2_getChar_3b067 41 = .ok (.iand, 1) := by decide +kernel
theorem dJ2_getChar_3b067_42 : decode cJ2_getChar_3b067 42 = .ok (.getstatic 59, 3) := by decide +kernel
theorem dJ2_getChar_3b067_45 : decode cJ2_getChar_3b067 45 = .ok (.ishl, 1) := by decide +kernel
theorem dJ2_getChar_3b067_46 : decode cJ2_getChar_3b067 46 = .ok (.aload_n 0, 1) := by decide +kernel
theorem dJ2_getChar_3b067_47 : decode cJ2_getChar_3b067 47 = .ok (.iload_n 1, 1) := by decide +kernel
theorem dJ2_getChar_3b067_48 : decode cJ2_getChar_3b067 48 = .ok (.baload, 1) := by decide +kernel
theorem dJ2_getChar_3b067_49 : decode cJ2_getChar_3b067 49 = .ok (.sipush 255, 3) := by decide +kernel
theorem dJ2_getChar_3b067_52 : decode cJ2_getChar_3b067 52 = .ok (.iand, 1) := by decide +kernel
theorem dJ2_getChar_3b067_53 : decode cJ2_getChar_3b067 53 = .ok (.getstatic 63, 3) := by decide +kernel
theorem dJ2_getChar_3b067_56 : decode cJ2_getChar_3b067 56 = .ok (.ishl, 1) := by decide +kernel
theorem dJ2_getChar_3b067_57 : decode cJ2_getChar_3b067 57 = .ok (.ior, 1) := by decide +kernel
theorem dJ2_getChar_3b067_58 : decode cJ2_getChar_3b067 58 = .ok (.i2c, 1) := by decide +kernel
theorem dJ2_getChar_3b067_59 : decode cJ2_getChar_3b067 59 = .ok (.ireturn, 1) := by decide +kernel
theorem dJ2_length_9d52b_0 : decode cJ2_length_9d52b 0 = .ok (.aload_n 0, 1) := by decide +kernel
theorem dJ2_length_9d52b_1 : decode cJ2_length_9d52b 1 = .ok (.arraylength, 1) := by decide +kernel
theorem dJ2_length_9d52b_2 : decode cJ2_length_9d52b 2 = .ok (.iconst 1, 1) := by decide +kernel
theorem dJ2_length_9d52b_3 : decode cJ2_length_9d52b 3 = .ok (.ishr, 1) := by decide +kernel
theorem dJ2_length_9d52b_4 : decode cJ2_length_9d52b 4 = .ok (.ireturn, 1) := by decide +kernel
theorem dJ2_charAt_3b067_0 : decode cJ2_charAt_3b067 0 = .ok (.iload_n 1, 1) := by decide +kernel
theorem dJ2_charAt_3b067_1 : decode cJ2_charAt_3b067 1 = .ok (.aload_n 0, 1) := by decide +kernel
theorem dJ2_charAt_3b067_2 : decode cJ2_charAt_3b067 2 = .ok (.invokestatic 67, 3) := by decide +kernel
theorem dJ2_charAt_3b067_5 : decode cJ2_charAt_3b067 5 = .ok (.aload_n 0, 1) := by decide +kernel
theorem dJ2_charAt_3b067_6 : decode cJ2_charAt_3b067 6 = .ok (.iload_n 1, 1) := by decide +kernel
theorem dJ2_charAt_3b067_7 : decode cJ2_charAt_3b067 7 = .ok (.invokestatic 71, 3) := by decide +kernel
theorem dJ2_charAt_3b067_10 : decode cJ2_charAt_3b067 10 = .ok (.ireturn, 1) := by decide +kernel
theorem dJ2_checkIndex_2214a_0 : decode cJ2_checkIndex_2214a 0 = .ok (.iload_n 0, 1) := by decide +kernel
theorem dJ2_checkIndex_2214a_1 : decode cJ2_checkIndex_2214a 1 = .ok (.aload_n 1, 1) := by decide +kernel
theorem dJ2_checkIndex_2214a_2 : decode cJ2_checkIndex_2214a 2 = .ok (.invokestatic 48, 3) := by decide +kernel
theorem dJ2_checkIndex_2214a_5 : decode cJ2_checkIndex_2214a 5 = .ok (.invokestatic 414, 3) := by decide +kernel
theorem dJ2_checkIndex_2214a_8 : decode cJ2_checkIndex_2214a 8 = .ok (.return_, 1) := by decide +kernel
theorem dJ3_checkIndex_8e157_0 : decode cJ3_checkIndex_8e157 0 = .ok (.iload_n 0, 1) := by decide +kernel
theorem dJ3_checkIndex_8e157_1 : decode cJ3_checkIndex_8e157 1 = .ok (.ifCond .lt 8, 3) := by decide +kernel
theorem dJ3_checkIndex_8e157_4 : decode cJ3_checkIndex_8e157 4 = .ok (.iload_n 0, 1) := by decide +kernel
theorem dJ3_checkIndex_8e157_5 : decode cJ3_checkIndex_8e157 5 = .ok (.iload_n 1, 1) := by decide +kernel
theorem dJ3_checkIndex_8e157_6 : decode cJ3_checkIndex_8e157 6 = .ok (.if_icmp .lt 10, 3) := by decide +kernel
theorem dJ3_checkIndex_8e157_9 : decode cJ3_checkIndex_8e157 9 = .ok (.aload_n 2, 1) := by decide +kernel
theorem dJ3_checkIndex_8e157_10 : decode cJ3_checkIndex_8e157 10 = .ok (.iload_n 0, 1) := by decide +kernel
theorem dJ3_checkIndex_8e157_11 : decode cJ3_checkIndex_8e157 11 = .ok (.iload_n 1, 1) := by decide +kernel
theorem dJ3_checkIndex_8e157_12 : decode cJ3_checkIndex_8e157 12 = .ok (.invokestatic 95, 3) := by decide +kernel
theorem dJ3_checkIndex_8e157_15 : decode cJ3_checkIndex_8e157 15 = .ok (.athrow, 1) := by decide +kernel
theorem dJ3_checkIndex_8e157_16 : decode cJ3_checkIndex_8e157 16 = .ok (.iload_n 0, 1) := by decide +kernel
theorem dJ3_checkIndex_8e157_17 : decode cJ3_checkIndex_8e157 17 = .ok (.ireturn, 1) := by decide +kernel
theorem dL_duchy_0 : decode cL_duchy 0 = .ok (.aload_n 2, 1) := by decide +kernel
theorem dL_duchy_1 : decode cL_duchy 1 = .ok (.iconst 0, 1) := by decide +kernel
theorem dL_duchy_2 : decode cL_duchy 2 = .ok (.aload_n 0, 1) := by decide +kernel
theorem dL_duchy_3 : decode cL_duchy 3 = .ok (.iload_n 1, 1) := by decide +kernel
theorem dL_duchy_4 : decode cL_duchy 4 = .ok (.invokevirtual 7, 3) := by decide +kernel
theorem dL_duchy_7 : decode cL_duchy 7 = .ok (.i2l, 1) := by decide +kernel
theorem dL_duchy_8 : decode cL_duchy 8 = .ok (.lastore, 1) := by decide +kernel
theorem dL_duchy_9 : decode cL_duchy 9 = .ok (.goto 6, 3) := by decide +kernel
theorem dL_duchy_12 : decode cL_duchy 12 = .ok (.astore_n 3, 1) := by decide +kernel
theorem dL_duchy_13 : decode cL_duchy 13 = .ok (.iconst 1, 1) := by decide +kernel
theorem dL_duchy_14 : decode cL_duchy 14 = .ok (.ireturn, 1) := by decide +kernel
theorem dL_duchy_15 : decode cL_duchy 15 = .ok (.iconst 0, 1) := by decide +kernel
theorem dL_duchy_16 : decode cL_duchy 16 = .ok (.ireturn, 1) := by decide +kernel
theorem dL_count_0 : decode cL_count 0 = .ok (.aload_n 2, 1) := by decide +kernel
theorem dL_count_1 : decode cL_count 1 = .ok (.iconst 0, 1) := by decide +kernel
theorem dL_count_2 : decode cL_count 2 = .ok (.aload_n 0, 1) := by decide +kernel
theorem dL_count_3 : decode cL_count 3 = .ok (.iload_n 1, 1) := by decide +kernel
theorem dL_count_4 : decode cL_count 4 = .ok (.invokevirtual 15, 3) := by decide +kernel
theorem dL_count_7 : decode cL_count 7 = .ok (.i2l, 1) := by decide +kernel
theorem dL_count_8 : decode cL_count 8 = .ok (.lastore, 1) := by decide +kernel
theorem dL_count_9 : decode cL_count 9 = .ok (.goto 6, 3) := by decide +kernel
theorem dL_count_12 : decode cL_count 12 = .ok (.astore_n 3, 1) := by decide +kernel
theorem dL_count_13 : decode cL_count 13 = .ok (.iconst 1, 1) := by decide +kernel
theorem dL_count_14 : decode cL_count 14 = .ok (.ireturn, 1) := by decide +kernel
theorem dL_count_15 : decode cL_count 15 = .ok (.iconst 0, 1) := by decide +kernel
theorem dL_count_16 : decode cL_count 16 = .ok (.ireturn, 1) := by decide +kernel
theorem dL_cell_0 : decode cL_cell 0 = .ok (.aload_n 3, 1) := by decide +kernel
theorem dL_cell_1 : decode cL_cell 1 = .ok (.iconst 0, 1) := by decide +kernel
theorem dL_cell_2 : decode cL_cell 2 = .ok (.aload_n 0, 1) := by decide +kernel
theorem dL_cell_3 : decode cL_cell 3 = .ok (.iload_n 1, 1) := by decide +kernel
theorem dL_cell_4 : decode cL_cell 4 = .ok (.iload_n 2, 1) := by decide +kernel
theorem dL_cell_5 : decode cL_cell 5 = .ok (.invokevirtual 20, 3) := by decide +kernel
theorem dL_cell_8 : decode cL_cell 8 = .ok (.i2l, 1) := by decide +kernel
theorem dL_cell_9 : decode cL_cell 9 = .ok (.lastore, 1) := by decide +kernel
theorem dL_cell_10 : decode cL_cell 10 = .ok (.goto 7, 3) := by decide +kernel
theorem dL_cell_13 : decode cL_cell 13 = .ok (.astore 4, 2) := by decide +kernel
theorem dL_cell_15 : decode cL_cell 15 = .ok (.iconst 1, 1) := by decide +kernel
theorem dL_cell_16 : decode cL_cell 16 = .ok (.ireturn, 1) := by decide +kernel
theorem dL_cell_17 : decode cL_cell 17 = .ok (.iconst 0, 1) := by decide +kernel
theorem dL_cell_18 : decode cL_cell 18 = .ok (.ireturn, 1) := by decide +kernel
theorem dL_tree_0 : decode cL_tree 0 = .ok (.aload_n 3, 1) := by decide +kernel
theorem dL_tree_1 : decode cL_tree 1 = .ok (.iconst 0, 1) := by decide +kernel
theorem dL_tree_2 : decode cL_tree 2 = .ok (.aload_n 0, 1) := by decide +kernel
theorem dL_tree_3 : decode cL_tree 3 = .ok (.iload_n 1, 1) := by decide +kernel
theorem dL_tree_4 : decode cL_tree 4 = .ok (.iload_n 2, 1) := by decide +kernel
theorem dL_tree_5 : decode cL_tree 5 = .ok (.invokevirtual 24, 3) := by decide +kernel
theorem dL_tree_8 : decode cL_tree 8 = .ok (.i2l, 1) := by decide +kernel
theorem dL_tree_9 : decode cL_tree 9 = .ok (.lastore, 1) := by decide +kernel
theorem dL_tree_10 : decode cL_tree 10 = .ok (.goto 7, 3) := by decide +kernel
theorem dL_tree_13 : decode cL_tree 13 = .ok (.astore 4, 2) := by decide +kernel
theorem dL_tree_15 : decode cL_tree 15 = .ok (.iconst 1, 1) := by decide +kernel
theorem dL_tree_16 : decode cL_tree 16 = .ok (.ireturn, 1) := by decide +kernel
theorem dL_tree_17 : decode cL_tree 17 = .ok (.iconst 0, 1) := by decide +kernel
theorem dL_tree_18 : decode cL_tree 18 = .ok (.ireturn, 1) := by decide +kernel
theorem dL_house_0 : decode cL_house 0 = .ok (.aload_n 3, 1) := by decide +kernel
theorem dL_house_1 : decode cL_house 1 = .ok (.iconst 0, 1) := by decide +kernel
theorem dL_house_2 : decode cL_house 2 = .ok (.aload_n 0, 1) := by decide +kernel
theorem dL_house_3 : decode cL_house 3 = .ok (.iload_n 1, 1) := by decide +kernel
theorem dL_house_4 : decode cL_house 4 = .ok (.iload_n 2, 1) := by decide +kernel
theorem dL_house_5 : decode cL_house 5 = .ok (.invokevirtual 27, 3) := by decide +kernel
theorem dL_house_8 : decode cL_house 8 = .ok (.i2l, 1) := by decide +kernel
theorem dL_house_9 : decode cL_house 9 = .ok (.lastore, 1) := by decide +kernel
theorem dL_house_10 : decode cL_house 10 = .ok (.goto 7, 3) := by decide +kernel
theorem dL_house_13 : decode cL_house 13 = .ok (.astore 4, 2) := by decide +kernel
theorem dL_house_15 : decode cL_house 15 = .ok (.iconst 1, 1) := by decide +kernel
theorem dL_house_16 : decode cL_house 16 = .ok (.ireturn, 1) := by decide +kernel
theorem dL_house_17 : decode cL_house 17 = .ok (.iconst 0, 1) := by decide +kernel
theorem dL_house_18 : decode cL_house 18 = .ok (.ireturn, 1) := by decide +kernel
theorem dL_miles_0 : decode cL_miles 0 = .ok (.aload_n 3, 1) := by decide +kernel
theorem dL_miles_1 : decode cL_miles 1 = .ok (.iconst 0, 1) := by decide +kernel
theorem dL_miles_2 : decode cL_miles 2 = .ok (.aload_n 0, 1) := by decide +kernel
theorem dL_miles_3 : decode cL_miles 3 = .ok (.iload_n 1, 1) := by decide +kernel
theorem dL_miles_4 : decode cL_miles 4 = .ok (.iload_n 2, 1) := by decide +kernel
theorem dL_miles_5 : decode cL_miles 5 = .ok (.invokevirtual 30, 3) := by decide +kernel
theorem dL_miles_8 : decode cL_miles 8 = .ok (.i2l, 1) := by decide +kernel
theorem dL_miles_9 : decode cL_miles 9 = .ok (.lastore, 1) := by decide +kernel
theorem dL_miles_10 : decode cL_miles 10 = .ok (.goto 7, 3) := by decide +kernel
theorem dL_miles_13 : decode cL_miles 13 = .ok (.astore 4, 2) := by decide +kernel
theorem dL_miles_15 : decode cL_miles 15 = .ok (.iconst 1, 1) := by decide +kernel
theorem dL_miles_16 : decode cL_miles 16 = .ok (.ireturn, 1) := by decide +kernel
theorem dL_miles_17 : decode cL_miles 17 = .ok (.iconst 0, 1) := by decide +kernel
theorem dL_miles_18 : decode cL_miles 18 = .ok (.ireturn, 1) := by decide +kernel
theorem dL_seen_0 : decode cL_seen 0 = .ok (.aload_n 2, 1) := by decide +kernel
theorem dL_seen_1 : decode cL_seen 1 = .ok (.iconst 0, 1) := by decide +kernel
theorem dL_seen_2 : decode cL_seen 2 = .ok (.aload_n 0, 1) := by decide +kernel
theorem dL_seen_3 : decode cL_seen 3 = .ok (.iload_n 1, 1) := by decide +kernel
theorem dL_seen_4 : decode cL_seen 4 = .ok (.invokevirtual 33, 3) := by decide +kernel
theorem dL_seen_7 : decode cL_seen 7 = .ok (.lastore, 1) := by decide +kernel
theorem dL_seen_8 : decode cL_seen 8 = .ok (.goto 6, 3) := by decide +kernel
theorem dL_seen_11 : decode cL_seen 11 = .ok (.astore_n 3, 1) := by decide +kernel
theorem dL_seen_12 : decode cL_seen 12 = .ok (.iconst 1, 1) := by decide +kernel
theorem dL_seen_13 : decode cL_seen 13 = .ok (.ireturn, 1) := by decide +kernel
theorem dL_seen_14 : decode cL_seen 14 = .ok (.iconst 0, 1) := by decide +kernel
theorem dL_seen_15 : decode cL_seen 15 = .ok (.ireturn, 1) := by decide +kernel
theorem dL_plant_0 : decode cL_plant 0 = .ok (.aload_n 3, 1) := by decide +kernel
theorem dL_plant_1 : decode cL_plant 1 = .ok (.iconst 0, 1) := by decide +kernel
theorem dL_plant_2 : decode cL_plant 2 = .ok (.aload_n 0, 1) := by decide +kernel
theorem dL_plant_3 : decode cL_plant 3 = .ok (.iload_n 1, 1) := by decide +kernel
theorem dL_plant_4 : decode cL_plant 4 = .ok (.iload_n 2, 1) := by decide +kernel
theorem dL_plant_5 : decode cL_plant 5 = .ok (.invokevirtual 37, 3) := by decide +kernel
theorem dL_plant_8 : decode cL_plant 8 = .ok (.i2l, 1) := by decide +kernel
theorem dL_plant_9 : decode cL_plant 9 = .ok (.lastore, 1) := by decide +kernel
theorem dL_plant_10 : decode cL_plant 10 = .ok (.goto 7, 3) := by decide +kernel
theorem dL_plant_13 : decode cL_plant 13 = .ok (.astore 4, 2) := by decide +kernel
theorem dL_plant_15 : decode cL_plant 15 = .ok (.iconst 1, 1) := by decide +kernel
theorem dL_plant_16 : decode cL_plant 16 = .ok (.ireturn, 1) := by decide +kernel
theorem dL_plant_17 : decode cL_plant 17 = .ok (.iconst 0, 1) := by decide +kernel
theorem dL_plant_18 : decode cL_plant 18 = .ok (.ireturn, 1) := by decide +kernel
theorem dL_fell_0 : decode cL_fell 0 = .ok (.aload_n 2, 1) := by decide +kernel
theorem dL_fell_1 : decode cL_fell 1 = .ok (.iconst 0, 1) := by decide +kernel
theorem dL_fell_2 : decode cL_fell 2 = .ok (.aload_n 0, 1) := by decide +kernel
theorem dL_fell_3 : decode cL_fell 3 = .ok (.iload_n 1, 1) := by decide +kernel
theorem dL_fell_4 : decode cL_fell 4 = .ok (.invokevirtual 40, 3) := by decide +kernel
theorem dL_fell_7 : decode cL_fell 7 = .ok (.i2l, 1) := by decide +kernel
theorem dL_fell_8 : decode cL_fell 8 = .ok (.lastore, 1) := by decide +kernel
theorem dL_fell_9 : decode cL_fell 9 = .ok (.goto 6, 3) := by decide +kernel
theorem dL_fell_12 : decode cL_fell 12 = .ok (.astore_n 3, 1) := by decide +kernel
theorem dL_fell_13 : decode cL_fell 13 = .ok (.iconst 1, 1) := by decide +kernel
theorem dL_fell_14 : decode cL_fell 14 = .ok (.ireturn, 1) := by decide +kernel
theorem dL_fell_15 : decode cL_fell 15 = .ok (.iconst 0, 1) := by decide +kernel
theorem dL_fell_16 : decode cL_fell 16 = .ok (.ireturn, 1) := by decide +kernel
theorem dL_floor_0 : decode cL_floor 0 = .ok (.aload_n 3, 1) := by decide +kernel
theorem dL_floor_1 : decode cL_floor 1 = .ok (.iconst 0, 1) := by decide +kernel
theorem dL_floor_2 : decode cL_floor 2 = .ok (.aload_n 0, 1) := by decide +kernel
theorem dL_floor_3 : decode cL_floor 3 = .ok (.iload_n 1, 1) := by decide +kernel
theorem dL_floor_4 : decode cL_floor 4 = .ok (.iload_n 2, 1) := by decide +kernel
theorem dL_floor_5 : decode cL_floor 5 = .ok (.invokevirtual 43, 3) := by decide +kernel
theorem dL_floor_8 : decode cL_floor 8 = .ok (.i2l, 1) := by decide +kernel
theorem dL_floor_9 : decode cL_floor 9 = .ok (.lastore, 1) := by decide +kernel
theorem dL_floor_10 : decode cL_floor 10 = .ok (.goto 7, 3) := by decide +kernel
theorem dL_floor_13 : decode cL_floor 13 = .ok (.astore 4, 2) := by decide +kernel
theorem dL_floor_15 : decode cL_floor 15 = .ok (.iconst 1, 1) := by decide +kernel
theorem dL_floor_16 : decode cL_floor 16 = .ok (.ireturn, 1) := by decide +kernel
theorem dL_floor_17 : decode cL_floor 17 = .ok (.iconst 0, 1) := by decide +kernel
theorem dL_floor_18 : decode cL_floor 18 = .ok (.ireturn, 1) := by decide +kernel
theorem dL_barn_0 : decode cL_barn 0 = .ok (.aload_n 3, 1) := by decide +kernel
theorem dL_barn_1 : decode cL_barn 1 = .ok (.iconst 0, 1) := by decide +kernel
theorem dL_barn_2 : decode cL_barn 2 = .ok (.aload_n 0, 1) := by decide +kernel
theorem dL_barn_3 : decode cL_barn 3 = .ok (.iload_n 1, 1) := by decide +kernel
theorem dL_barn_4 : decode cL_barn 4 = .ok (.iload_n 2, 1) := by decide +kernel
theorem dL_barn_5 : decode cL_barn 5 = .ok (.invokevirtual 46, 3) := by decide +kernel
theorem dL_barn_8 : decode cL_barn 8 = .ok (.i2l, 1) := by decide +kernel
theorem dL_barn_9 : decode cL_barn 9 = .ok (.lastore, 1) := by decide +kernel
theorem dL_barn_10 : decode cL_barn 10 = .ok (.goto 7, 3) := by decide +kernel
theorem dL_barn_13 : decode cL_barn 13 = .ok (.astore 4, 2) := by decide +kernel
theorem dL_barn_15 : decode cL_barn 15 = .ok (.iconst 1, 1) := by decide +kernel
theorem dL_barn_16 : decode cL_barn 16 = .ok (.ireturn, 1) := by decide +kernel
theorem dL_barn_17 : decode cL_barn 17 = .ok (.iconst 0, 1) := by decide +kernel
theorem dL_barn_18 : decode cL_barn 18 = .ok (.ireturn, 1) := by decide +kernel
theorem dL_sell_0 : decode cL_sell 0 = .ok (.aload_n 3, 1) := by decide +kernel
theorem dL_sell_1 : decode cL_sell 1 = .ok (.iconst 0, 1) := by decide +kernel
theorem dL_sell_2 : decode cL_sell 2 = .ok (.aload_n 0, 1) := by decide +kernel
theorem dL_sell_3 : decode cL_sell 3 = .ok (.iload_n 1, 1) := by decide +kernel
theorem dL_sell_4 : decode cL_sell 4 = .ok (.iload_n 2, 1) := by decide +kernel
theorem dL_sell_5 : decode cL_sell 5 = .ok (.invokevirtual 49, 3) := by decide +kernel
theorem dL_sell_8 : decode cL_sell 8 = .ok (.ifCond .eq 7, 3) := by decide +kernel
theorem dL_sell_11 : decode cL_sell 11 = .ok (.lconst 1, 1) := by decide +kernel
theorem dL_sell_12 : decode cL_sell 12 = .ok (.goto 4, 3) := by decide +kernel
theorem dL_sell_15 : decode cL_sell 15 = .ok (.lconst 0, 1) := by decide +kernel
theorem dL_sell_16 : decode cL_sell 16 = .ok (.lastore, 1) := by decide +kernel
theorem dL_sell_17 : decode cL_sell 17 = .ok (.goto 7, 3) := by decide +kernel
theorem dL_sell_20 : decode cL_sell 20 = .ok (.astore 4, 2) := by decide +kernel
theorem dL_sell_22 : decode cL_sell 22 = .ok (.iconst 1, 1) := by decide +kernel
theorem dL_sell_23 : decode cL_sell 23 = .ok (.ireturn, 1) := by decide +kernel
theorem dL_sell_24 : decode cL_sell 24 = .ok (.iconst 0, 1) := by decide +kernel
theorem dL_sell_25 : decode cL_sell 25 = .ok (.ireturn, 1) := by decide +kernel
theorem dL_firs_0 : decode cL_firs 0 = .ok (.aload_n 3, 1) := by decide +kernel
theorem dL_firs_1 : decode cL_firs 1 = .ok (.iconst 0, 1) := by decide +kernel
theorem dL_firs_2 : decode cL_firs 2 = .ok (.aload_n 0, 1) := by decide +kernel
theorem dL_firs_3 : decode cL_firs 3 = .ok (.iload_n 1, 1) := by decide +kernel
theorem dL_firs_4 : decode cL_firs 4 = .ok (.iload_n 2, 1) := by decide +kernel
theorem dL_firs_5 : decode cL_firs 5 = .ok (.invokevirtual 53, 3) := by decide +kernel
theorem dL_firs_8 : decode cL_firs 8 = .ok (.i2l, 1) := by decide +kernel
theorem dL_firs_9 : decode cL_firs 9 = .ok (.lastore, 1) := by decide +kernel
theorem dL_firs_10 : decode cL_firs 10 = .ok (.goto 7, 3) := by decide +kernel
theorem dL_firs_13 : decode cL_firs 13 = .ok (.astore 4, 2) := by decide +kernel
theorem dL_firs_15 : decode cL_firs 15 = .ok (.iconst 1, 1) := by decide +kernel
theorem dL_firs_16 : decode cL_firs 16 = .ok (.ireturn, 1) := by decide +kernel
theorem dL_firs_17 : decode cL_firs 17 = .ok (.iconst 0, 1) := by decide +kernel
theorem dL_firs_18 : decode cL_firs 18 = .ok (.ireturn, 1) := by decide +kernel
theorem dL_fir_0 : decode cL_fir 0 = .ok (.aload_n 2, 1) := by decide +kernel
theorem dL_fir_1 : decode cL_fir 1 = .ok (.iconst 0, 1) := by decide +kernel
theorem dL_fir_2 : decode cL_fir 2 = .ok (.aload_n 0, 1) := by decide +kernel
theorem dL_fir_3 : decode cL_fir 3 = .ok (.iload_n 1, 1) := by decide +kernel
theorem dL_fir_4 : decode cL_fir 4 = .ok (.invokevirtual 56, 3) := by decide +kernel
theorem dL_fir_7 : decode cL_fir 7 = .ok (.i2l, 1) := by decide +kernel
theorem dL_fir_8 : decode cL_fir 8 = .ok (.lastore, 1) := by decide +kernel
theorem dL_fir_9 : decode cL_fir 9 = .ok (.goto 6, 3) := by decide +kernel
theorem dL_fir_12 : decode cL_fir 12 = .ok (.astore_n 3, 1) := by decide +kernel
theorem dL_fir_13 : decode cL_fir 13 = .ok (.iconst 1, 1) := by decide +kernel
theorem dL_fir_14 : decode cL_fir 14 = .ok (.ireturn, 1) := by decide +kernel
theorem dL_fir_15 : decode cL_fir 15 = .ok (.iconst 0, 1) := by decide +kernel
theorem dL_fir_16 : decode cL_fir 16 = .ok (.ireturn, 1) := by decide +kernel
theorem dL_spades_0 : decode cL_spades 0 = .ok (.aload_n 3, 1) := by decide +kernel
theorem dL_spades_1 : decode cL_spades 1 = .ok (.iconst 0, 1) := by decide +kernel
theorem dL_spades_2 : decode cL_spades 2 = .ok (.aload_n 0, 1) := by decide +kernel
theorem dL_spades_3 : decode cL_spades 3 = .ok (.iload_n 1, 1) := by decide +kernel
theorem dL_spades_4 : decode cL_spades 4 = .ok (.iload_n 2, 1) := by decide +kernel
theorem dL_spades_5 : decode cL_spades 5 = .ok (.invokevirtual 59, 3) := by decide +kernel
theorem dL_spades_8 : decode cL_spades 8 = .ok (.i2l, 1) := by decide +kernel
theorem dL_spades_9 : decode cL_spades 9 = .ok (.lastore, 1) := by decide +kernel
theorem dL_spades_10 : decode cL_spades 10 = .ok (.goto 11, 3) := by decide +kernel
theorem dL_spades_13 : decode cL_spades 13 = .ok (.astore 4, 2) := by decide +kernel
theorem dL_spades_15 : decode cL_spades 15 = .ok (.iconst 1, 1) := by decide +kernel
theorem dL_spades_16 : decode cL_spades 16 = .ok (.ireturn, 1) := by decide +kernel
theorem dL_spades_17 : decode cL_spades 17 = .ok (.astore 4, 2) := by decide +kernel
theorem dL_spades_19 : decode cL_spades 19 = .ok (.iconst 2, 1) := by decide +kernel
theorem dL_spades_20 : decode cL_spades 20 = .ok (.ireturn, 1) := by decide +kernel
theorem dL_spades_21 : decode cL_spades 21 = .ok (.iconst 0, 1) := by decide +kernel
theorem dL_spades_22 : decode cL_spades 22 = .ok (.ireturn, 1) := by decide +kernel
theorem dL_felling_0 : decode cL_felling 0 = .ok (.aload_n 2, 1) := by decide +kernel
theorem dL_felling_1 : decode cL_felling 1 = .ok (.iconst 0, 1) := by decide +kernel
theorem dL_felling_2 : decode cL_felling 2 = .ok (.aload_n 0, 1) := by decide +kernel
theorem dL_felling_3 : decode cL_felling 3 = .ok (.iload_n 1, 1) := by decide +kernel
theorem dL_felling_4 : decode cL_felling 4 = .ok (.invokevirtual 62, 3) := by decide +kernel
theorem dL_felling_7 : decode cL_felling 7 = .ok (.i2l, 1) := by decide +kernel
theorem dL_felling_8 : decode cL_felling 8 = .ok (.lastore, 1) := by decide +kernel
theorem dL_felling_9 : decode cL_felling 9 = .ok (.goto 6, 3) := by decide +kernel
theorem dL_felling_12 : decode cL_felling 12 = .ok (.astore_n 3, 1) := by decide +kernel
theorem dL_felling_13 : decode cL_felling 13 = .ok (.iconst 1, 1) := by decide +kernel
theorem dL_felling_14 : decode cL_felling 14 = .ok (.ireturn, 1) := by decide +kernel
theorem dL_felling_15 : decode cL_felling 15 = .ok (.iconst 0, 1) := by decide +kernel
theorem dL_felling_16 : decode cL_felling 16 = .ok (.ireturn, 1) := by decide +kernel
theorem dL_compare_0 : decode cL_compare 0 = .ok (.aload_n 3, 1) := by decide +kernel
theorem dL_compare_1 : decode cL_compare 1 = .ok (.iconst 0, 1) := by decide +kernel
theorem dL_compare_2 : decode cL_compare 2 = .ok (.aload_n 0, 1) := by decide +kernel
theorem dL_compare_3 : decode cL_compare 3 = .ok (.iload_n 1, 1) := by decide +kernel
theorem dL_compare_4 : decode cL_compare 4 = .ok (.iload_n 2, 1) := by decide +kernel
theorem dL_compare_5 : decode cL_compare 5 = .ok (.invokevirtual 65, 3) := by decide +kernel
theorem dL_compare_8 : decode cL_compare 8 = .ok (.i2l, 1) := by decide +kernel
theorem dL_compare_9 : decode cL_compare 9 = .ok (.lastore, 1) := by decide +kernel
theorem dL_compare_10 : decode cL_compare 10 = .ok (.goto 7, 3) := by decide +kernel
theorem dL_compare_13 : decode cL_compare 13 = .ok (.astore 4, 2) := by decide +kernel
theorem dL_compare_15 : decode cL_compare 15 = .ok (.iconst 1, 1) := by decide +kernel
theorem dL_compare_16 : decode cL_compare 16 = .ok (.ireturn, 1) := by decide +kernel
theorem dL_compare_17 : decode cL_compare 17 = .ok (.iconst 0, 1) := by decide +kernel
theorem dL_compare_18 : decode cL_compare 18 = .ok (.ireturn, 1) := by decide +kernel
theorem dL_mildest_0 : decode cL_mildest 0 = .ok (.aload_n 2, 1) := by decide +kernel
theorem dL_mildest_1 : decode cL_mildest 1 = .ok (.iconst 0, 1) := by decide +kernel
theorem dL_mildest_2 : decode cL_mildest 2 = .ok (.aload_n 0, 1) := by decide +kernel
theorem dL_mildest_3 : decode cL_mildest 3 = .ok (.iload_n 1, 1) := by decide +kernel
theorem dL_mildest_4 : decode cL_mildest 4 = .ok (.invokevirtual 68, 3) := by decide +kernel
theorem dL_mildest_7 : decode cL_mildest 7 = .ok (.i2l, 1) := by decide +kernel
theorem dL_mildest_8 : decode cL_mildest 8 = .ok (.lastore, 1) := by decide +kernel
theorem dL_mildest_9 : decode cL_mildest 9 = .ok (.goto 6, 3) := by decide +kernel
theorem dL_mildest_12 : decode cL_mildest 12 = .ok (.astore_n 3, 1) := by decide +kernel
theorem dL_mildest_13 : decode cL_mildest 13 = .ok (.iconst 1, 1) := by decide +kernel
theorem dL_mildest_14 : decode cL_mildest 14 = .ok (.ireturn, 1) := by decide +kernel
theorem dL_mildest_15 : decode cL_mildest 15 = .ok (.iconst 0, 1) := by decide +kernel
theorem dL_mildest_16 : decode cL_mildest 16 = .ok (.ireturn, 1) := by decide +kernel
theorem dL_round_0 : decode cL_round 0 = .ok (.aload_n 2, 1) := by decide +kernel
theorem dL_round_1 : decode cL_round 1 = .ok (.iconst 0, 1) := by decide +kernel
theorem dL_round_2 : decode cL_round 2 = .ok (.aload_n 0, 1) := by decide +kernel
theorem dL_round_3 : decode cL_round 3 = .ok (.iload_n 1, 1) := by decide +kernel
theorem dL_round_4 : decode cL_round 4 = .ok (.invokevirtual 71, 3) := by decide +kernel
theorem dL_round_7 : decode cL_round 7 = .ok (.i2l, 1) := by decide +kernel
theorem dL_round_8 : decode cL_round 8 = .ok (.lastore, 1) := by decide +kernel
theorem dL_round_9 : decode cL_round 9 = .ok (.goto 6, 3) := by decide +kernel
theorem dL_round_12 : decode cL_round 12 = .ok (.astore_n 3, 1) := by decide +kernel
theorem dL_round_13 : decode cL_round 13 = .ok (.iconst 1, 1) := by decide +kernel
theorem dL_round_14 : decode cL_round 14 = .ok (.ireturn, 1) := by decide +kernel
theorem dL_round_15 : decode cL_round 15 = .ok (.iconst 0, 1) := by decide +kernel
theorem dL_round_16 : decode cL_round 16 = .ok (.ireturn, 1) := by decide +kernel
theorem dL_stop_0 : decode cL_stop 0 = .ok (.aload_n 2, 1) := by decide +kernel
theorem dL_stop_1 : decode cL_stop 1 = .ok (.iconst 0, 1) := by decide +kernel
theorem dL_stop_2 : decode cL_stop 2 = .ok (.aload_n 0, 1) := by decide +kernel
theorem dL_stop_3 : decode cL_stop 3 = .ok (.iload_n 1, 1) := by decide +kernel
theorem dL_stop_4 : decode cL_stop 4 = .ok (.invokevirtual 74, 3) := by decide +kernel
theorem dL_stop_7 : decode cL_stop 7 = .ok (.i2l, 1) := by decide +kernel
theorem dL_stop_8 : decode cL_stop 8 = .ok (.lastore, 1) := by decide +kernel
theorem dL_stop_9 : decode cL_stop 9 = .ok (.goto 6, 3) := by decide +kernel
theorem dL_stop_12 : decode cL_stop 12 = .ok (.astore_n 3, 1) := by decide +kernel
theorem dL_stop_13 : decode cL_stop 13 = .ok (.iconst 1, 1) := by decide +kernel
theorem dL_stop_14 : decode cL_stop 14 = .ok (.ireturn, 1) := by decide +kernel
theorem dL_stop_15 : decode cL_stop 15 = .ok (.iconst 0, 1) := by decide +kernel
theorem dL_stop_16 : decode cL_stop 16 = .ok (.ireturn, 1) := by decide +kernel
theorem dL_barns_0 : decode cL_barns 0 = .ok (.aload 6, 2) := by decide +kernel
theorem dL_barns_2 : decode cL_barns 2 = .ok (.iconst 0, 1) := by decide +kernel
theorem dL_barns_3 : decode cL_barns 3 = .ok (.aload_n 0, 1) := by decide +kernel
theorem dL_barns_4 : decode cL_barns 4 = .ok (.iload_n 1, 1) := by decide +kernel
theorem dL_barns_5 : decode cL_barns 5 = .ok (.iload_n 2, 1) := by decide +kernel
theorem dL_barns_6 : decode cL_barns 6 = .ok (.iload_n 3, 1) := by decide +kernel
theorem dL_barns_7 : decode cL_barns 7 = .ok (.iload 4, 2) := by decide +kernel
theorem dL_barns_9 : decode cL_barns 9 = .ok (.iload 5, 2) := by decide +kernel
theorem dL_barns_11 : decode cL_barns 11 = .ok (.invokevirtual 77, 3) := by decide +kernel
theorem dL_barns_14 : decode cL_barns 14 = .ok (.i2l, 1) := by decide +kernel
theorem dL_barns_15 : decode cL_barns 15 = .ok (.lastore, 1) := by decide +kernel
theorem dL_barns_16 : decode cL_barns 16 = .ok (.goto 11, 3) := by decide +kernel
theorem dL_barns_19 : decode cL_barns 19 = .ok (.astore 7, 2) := by decide +kernel
theorem dL_barns_21 : decode cL_barns 21 = .ok (.iconst 1, 1) := by decide +kernel
theorem dL_barns_22 : decode cL_barns 22 = .ok (.ireturn, 1) := by decide +kernel
theorem dL_barns_23 : decode cL_barns 23 = .ok (.astore 7, 2) := by decide +kernel
theorem dL_barns_25 : decode cL_barns 25 = .ok (.iconst 2, 1) := by decide +kernel
theorem dL_barns_26 : decode cL_barns 26 = .ok (.ireturn, 1) := by decide +kernel
theorem dL_barns_27 : decode cL_barns 27 = .ok (.iconst 0, 1) := by decide +kernel
theorem dL_barns_28 : decode cL_barns 28 = .ok (.ireturn, 1) := by decide +kernel
theorem dL_tell_0 : decode cL_tell 0 = .ok (.aload_n 3, 1) := by decide +kernel
theorem dL_tell_1 : decode cL_tell 1 = .ok (.iconst 0, 1) := by decide +kernel
theorem dL_tell_2 : decode cL_tell 2 = .ok (.aload_n 0, 1) := by decide +kernel
theorem dL_tell_3 : decode cL_tell 3 = .ok (.iload_n 1, 1) := by decide +kernel
theorem dL_tell_4 : decode cL_tell 4 = .ok (.iload_n 2, 1) := by decide +kernel
theorem dL_tell_5 : decode cL_tell 5 = .ok (.invokevirtual 81, 3) := by decide +kernel
theorem dL_tell_8 : decode cL_tell 8 = .ok (.i2l, 1) := by decide +kernel
theorem dL_tell_9 : decode cL_tell 9 = .ok (.lastore, 1) := by decide +kernel
theorem dL_tell_10 : decode cL_tell 10 = .ok (.goto 7, 3) := by decide +kernel
theorem dL_tell_13 : decode cL_tell 13 = .ok (.astore 4, 2) := by decide +kernel
theorem dL_tell_15 : decode cL_tell 15 = .ok (.iconst 1, 1) := by decide +kernel
theorem dL_tell_16 : decode cL_tell 16 = .ok (.ireturn, 1) := by decide +kernel
theorem dL_tell_17 : decode cL_tell 17 = .ok (.iconst 0, 1) := by decide +kernel
theorem dL_tell_18 : decode cL_tell 18 = .ok (.ireturn, 1) := by decide +kernel
theorem dL_heights_0 : decode cL_heights 0 = .ok (.aload_n 3, 1) := by decide +kernel
theorem dL_heights_1 : decode cL_heights 1 = .ok (.iconst 0, 1) := by decide +kernel
theorem dL_heights_2 : decode cL_heights 2 = .ok (.aload_n 0, 1) := by decide +kernel
theorem dL_heights_3 : decode cL_heights 3 = .ok (.iload_n 1, 1) := by decide +kernel
theorem dL_heights_4 : decode cL_heights 4 = .ok (.iload_n 2, 1) := by decide +kernel
theorem dL_heights_5 : decode cL_heights 5 = .ok (.invokevirtual 84, 3) := by decide +kernel
theorem dL_heights_8 : decode cL_heights 8 = .ok (.i2l, 1) := by decide +kernel
theorem dL_heights_9 : decode cL_heights 9 = .ok (.lastore, 1) := by decide +kernel
theorem dL_heights_10 : decode cL_heights 10 = .ok (.goto 7, 3) := by decide +kernel
theorem dL_heights_13 : decode cL_heights 13 = .ok (.astore 4, 2) := by decide +kernel
theorem dL_heights_15 : decode cL_heights 15 = .ok (.iconst 1, 1) := by decide +kernel
theorem dL_heights_16 : decode cL_heights 16 = .ok (.ireturn, 1) := by decide +kernel
theorem dL_heights_17 : decode cL_heights 17 = .ok (.iconst 0, 1) := by decide +kernel
theorem dL_heights_18 : decode cL_heights 18 = .ok (.ireturn, 1) := by decide +kernel
theorem dL_decades_0 : decode cL_decades 0 = .ok (.aload 4, 2) := by decide +kernel
theorem dL_decades_2 : decode cL_decades 2 = .ok (.iconst 0, 1) := by decide +kernel
theorem dL_decades_3 : decode cL_decades 3 = .ok (.aload_n 0, 1) := by decide +kernel
theorem dL_decades_4 : decode cL_decades 4 = .ok (.iload_n 1, 1) := by decide +kernel
theorem dL_decades_5 : decode cL_decades 5 = .ok (.iload_n 2, 1) := by decide +kernel
theorem dL_decades_6 : decode cL_decades 6 = .ok (.iload_n 3, 1) := by decide +kernel
theorem dL_decades_7 : decode cL_decades 7 = .ok (.invokevirtual 87, 3) := by decide +kernel
theorem dL_decades_10 : decode cL_decades 10 = .ok (.i2l, 1) := by decide +kernel
theorem dL_decades_11 : decode cL_decades 11 = .ok (.lastore, 1) := by decide +kernel
theorem dL_decades_12 : decode cL_decades 12 = .ok (.goto 11, 3) := by decide +kernel
theorem dL_decades_15 : decode cL_decades 15 = .ok (.astore 5, 2) := by decide +kernel
theorem dL_decades_17 : decode cL_decades 17 = .ok (.iconst 1, 1) := by decide +kernel
theorem dL_decades_18 : decode cL_decades 18 = .ok (.ireturn, 1) := by decide +kernel
theorem dL_decades_19 : decode cL_decades 19 = .ok (.astore 5, 2) := by decide +kernel
theorem dL_decades_21 : decode cL_decades 21 = .ok (.iconst 2, 1) := by decide +kernel
theorem dL_decades_22 : decode cL_decades 22 = .ok (.ireturn, 1) := by decide +kernel
theorem dL_decades_23 : decode cL_decades 23 = .ok (.iconst 0, 1) := by decide +kernel
theorem dL_decades_24 : decode cL_decades 24 = .ok (.ireturn, 1) := by decide +kernel
theorem dL_hollow_0 : decode cL_hollow 0 = .ok (.aload_n 2, 1) := by decide +kernel
theorem dL_hollow_1 : decode cL_hollow 1 = .ok (.iconst 0, 1) := by decide +kernel
theorem dL_hollow_2 : decode cL_hollow 2 = .ok (.aload_n 0, 1) := by decide +kernel
theorem dL_hollow_3 : decode cL_hollow 3 = .ok (.iload_n 1, 1) := by decide +kernel
theorem dL_hollow_4 : decode cL_hollow 4 = .ok (.invokevirtual 91, 3) := by decide +kernel
theorem dL_hollow_7 : decode cL_hollow 7 = .ok (.i2l, 1) := by decide +kernel
theorem dL_hollow_8 : decode cL_hollow 8 = .ok (.lastore, 1) := by decide +kernel
theorem dL_hollow_9 : decode cL_hollow 9 = .ok (.goto 6, 3) := by decide +kernel
theorem dL_hollow_12 : decode cL_hollow 12 = .ok (.astore_n 3, 1) := by decide +kernel
theorem dL_hollow_13 : decode cL_hollow 13 = .ok (.iconst 1, 1) := by decide +kernel
theorem dL_hollow_14 : decode cL_hollow 14 = .ok (.ireturn, 1) := by decide +kernel
theorem dL_hollow_15 : decode cL_hollow 15 = .ok (.iconst 0, 1) := by decide +kernel
theorem dL_hollow_16 : decode cL_hollow 16 = .ok (.ireturn, 1) := by decide +kernel
theorem dL_sale_0 : decode cL_sale 0 = .ok (.aload_n 2, 1) := by decide +kernel
theorem dL_sale_1 : decode cL_sale 1 = .ok (.iconst 0, 1) := by decide +kernel
theorem dL_sale_2 : decode cL_sale 2 = .ok (.aload_n 0, 1) := by decide +kernel
theorem dL_sale_3 : decode cL_sale 3 = .ok (.iload_n 1, 1) := by decide +kernel
theorem dL_sale_4 : decode cL_sale 4 = .ok (.invokevirtual 94, 3) := by decide +kernel
theorem dL_sale_7 : decode cL_sale 7 = .ok (.i2l, 1) := by decide +kernel
theorem dL_sale_8 : decode cL_sale 8 = .ok (.lastore, 1) := by decide +kernel
theorem dL_sale_9 : decode cL_sale 9 = .ok (.goto 6, 3) := by decide +kernel
theorem dL_sale_12 : decode cL_sale 12 = .ok (.astore_n 3, 1) := by decide +kernel
theorem dL_sale_13 : decode cL_sale 13 = .ok (.iconst 1, 1) := by decide +kernel
theorem dL_sale_14 : decode cL_sale 14 = .ok (.ireturn, 1) := by decide +kernel
theorem dL_sale_15 : decode cL_sale 15 = .ok (.iconst 0, 1) := by decide +kernel
theorem dL_sale_16 : decode cL_sale 16 = .ok (.ireturn, 1) := by decide +kernel
theorem dL_shade_0 : decode cL_shade 0 = .ok (.aload_n 3, 1) := by decide +kernel
theorem dL_shade_1 : decode cL_shade 1 = .ok (.iconst 0, 1) := by decide +kernel
theorem dL_shade_2 : decode cL_shade 2 = .ok (.aload_n 0, 1) := by decide +kernel
theorem dL_shade_3 : decode cL_shade 3 = .ok (.iload_n 1, 1) := by decide +kernel
theorem dL_shade_4 : decode cL_shade 4 = .ok (.iload_n 2, 1) := by decide +kernel
theorem dL_shade_5 : decode cL_shade 5 = .ok (.invokevirtual 97, 3) := by decide +kernel
theorem dL_shade_8 : decode cL_shade 8 = .ok (.i2l, 1) := by decide +kernel
theorem dL_shade_9 : decode cL_shade 9 = .ok (.lastore, 1) := by decide +kernel
theorem dL_shade_10 : decode cL_shade 10 = .ok (.goto 11, 3) := by decide +kernel
theorem dL_shade_13 : decode cL_shade 13 = .ok (.astore 4, 2) := by decide +kernel
theorem dL_shade_15 : decode cL_shade 15 = .ok (.iconst 1, 1) := by decide +kernel
theorem dL_shade_16 : decode cL_shade 16 = .ok (.ireturn, 1) := by decide +kernel
theorem dL_shade_17 : decode cL_shade 17 = .ok (.astore 4, 2) := by decide +kernel
theorem dL_shade_19 : decode cL_shade 19 = .ok (.iconst 2, 1) := by decide +kernel
theorem dL_shade_20 : decode cL_shade 20 = .ok (.ireturn, 1) := by decide +kernel
theorem dL_shade_21 : decode cL_shade 21 = .ok (.iconst 0, 1) := by decide +kernel
theorem dL_shade_22 : decode cL_shade 22 = .ok (.ireturn, 1) := by decide +kernel
theorem dL_dearest_0 : decode cL_dearest 0 = .ok (.aload_n 2, 1) := by decide +kernel
theorem dL_dearest_1 : decode cL_dearest 1 = .ok (.iconst 0, 1) := by decide +kernel
theorem dL_dearest_2 : decode cL_dearest 2 = .ok (.aload_n 0, 1) := by decide +kernel
theorem dL_dearest_3 : decode cL_dearest 3 = .ok (.iload_n 1, 1) := by decide +kernel
theorem dL_dearest_4 : decode cL_dearest 4 = .ok (.invokevirtual 100, 3) := by decide +kernel
theorem dL_dearest_7 : decode cL_dearest 7 = .ok (.i2l, 1) := by decide +kernel
theorem dL_dearest_8 : decode cL_dearest 8 = .ok (.lastore, 1) := by decide +kernel
theorem dL_dearest_9 : decode cL_dearest 9 = .ok (.goto 6, 3) := by decide +kernel
theorem dL_dearest_12 : decode cL_dearest 12 = .ok (.astore_n 3, 1) := by decide +kernel
theorem dL_dearest_13 : decode cL_dearest 13 = .ok (.iconst 1, 1) := by decide +kernel
theorem dL_dearest_14 : decode cL_dearest 14 = .ok (.ireturn, 1) := by decide +kernel
theorem dL_dearest_15 : decode cL_dearest 15 = .ok (.iconst 0, 1) := by decide +kernel
theorem dL_dearest_16 : decode cL_dearest 16 = .ok (.ireturn, 1) := by decide +kernel
theorem dL_law_0 : decode cL_law 0 = .ok (.new 8, 3) := by decide +kernel
theorem dL_law_3 : decode cL_law 3 = .ok (.dup, 1) := by decide +kernel
theorem dL_law_4 : decode cL_law 4 = .ok (.invokespecial 103, 3) := by decide +kernel
theorem dL_law_7 : decode cL_law 7 = .ok (.astore_n 1, 1) := by decide +kernel
theorem dL_law_8 : decode cL_law 8 = .ok (.new 104, 3) := by decide +kernel
theorem dL_law_11 : decode cL_law 11 = .ok (.dup, 1) := by decide +kernel
theorem dL_law_12 : decode cL_law 12 = .ok (.invokespecial 106, 3) := by decide +kernel
theorem dL_law_15 : decode cL_law 15 = .ok (.astore_n 2, 1) := by decide +kernel
theorem dL_law_16 : decode cL_law 16 = .ok (.iconst 1, 1) := by decide +kernel
theorem dL_law_17 : decode cL_law 17 = .ok (.newarray .long, 2) := by decide +kernel
theorem dL_law_19 : decode cL_law 19 = .ok (.astore_n 3, 1) := by decide +kernel
theorem dL_law_20 : decode cL_law 20 = .ok (.iconst 0, 1) := by decide +kernel
theorem dL_law_21 : decode cL_law 21 = .ok (.istore 4, 2) := by decide +kernel
theorem dL_law_23 : decode cL_law 23 = .ok (.iload 4, 2) := by decide +kernel
theorem dL_law_25 : decode cL_law 25 = .ok (.aload_n 0, 1) := by decide +kernel
theorem dL_law_26 : decode cL_law 26 = .ok (.arraylength, 1) := by decide +kernel
theorem dL_law_27 : decode cL_law 27 = .ok (.bipush 6, 2) := by decide +kernel
theorem dL_law_29 : decode cL_law 29 = .ok (.isub, 1) := by decide +kernel
theorem dL_law_30 : decode cL_law 30 = .ok (.if_icmp .gt 2242, 3) := by decide +kernel
theorem dL_law_33 : decode cL_law 33 = .ok (.aload_n 0, 1) := by decide +kernel
theorem dL_law_34 : decode cL_law 34 = .ok (.iload 4, 2) := by decide +kernel
theorem dL_law_36 : decode cL_law 36 = .ok (.iaload, 1) := by decide +kernel
theorem dL_law_37 : decode cL_law 37 = .ok (.bipush 63, 2) := by decide +kernel
theorem dL_law_39 : decode cL_law 39 = .ok (.iand, 1) := by decide +kernel
theorem dL_law_40 : decode cL_law 40 = .ok (.tableswitch 2226 0 39 #[176, 249, 305, 318, 374, 442, 510, 578, 646, 701, 726, 794, 850, 918, 986, 1061, 1086, 1099, 1167, 1223, 1291, 1347, 1360, 1428, 1484, 1540, 1596, 1700, 1768, 1779, 1792, 1860, 1873, 1886, 1966, 2022, 2078, 2146, 2202, 2213], 176) := by decide +kernel
theorem dL_law_216 : decode cL_law 216 = .ok (.aload_n 1, 1) := by decide +kernel
theorem dL_law_217 : decode cL_law 217 = .ok (.aload_n 0, 1) := by decide +kernel
theorem dL_law_218 : decode cL_law 218 = .ok (.iload 4, 2) := by decide +kernel
theorem dL_law_220 : decode cL_law 220 = .ok (.iconst 1, 1) := by decide +kernel
theorem dL_law_221 : decode cL_law 221 = .ok (.iadd, 1) := by decide +kernel
theorem dL_law_222 : decode cL_law 222 = .ok (.iaload, 1) := by decide +kernel
theorem dL_law_223 : decode cL_law 223 = .ok (.aload_n 0, 1) := by decide +kernel
theorem dL_law_224 : decode cL_law 224 = .ok (.iload 4, 2) := by decide +kernel
theorem dL_law_226 : decode cL_law 226 = .ok (.iconst 2, 1) := by decide +kernel
theorem dL_law_227 : decode cL_law 227 = .ok (.iadd, 1) := by decide +kernel
theorem dL_law_228 : decode cL_law 228 = .ok (.iaload, 1) := by decide +kernel
theorem dL_law_229 : decode cL_law 229 = .ok (.aload_n 0, 1) := by decide +kernel
theorem dL_law_230 : decode cL_law 230 = .ok (.iload 4, 2) := by decide +kernel
theorem dL_law_232 : decode cL_law 232 = .ok (.iconst 3, 1) := by decide +kernel
theorem dL_law_233 : decode cL_law 233 = .ok (.iadd, 1) := by decide +kernel
theorem dL_law_234 : decode cL_law 234 = .ok (.iaload, 1) := by decide +kernel
theorem dL_law_235 : decode cL_law 235 = .ok (.aload_n 0, 1) := by decide +kernel
theorem dL_law_236 : decode cL_law 236 = .ok (.iload 4, 2) := by decide +kernel
theorem dL_law_238 : decode cL_law 238 = .ok (.iconst 4, 1) := by decide +kernel
theorem dL_law_239 : decode cL_law 239 = .ok (.iadd, 1) := by decide +kernel
theorem dL_law_240 : decode cL_law 240 = .ok (.iaload, 1) := by decide +kernel
theorem dL_law_241 : decode cL_law 241 = .ok (.aload_n 0, 1) := by decide +kernel
theorem dL_law_242 : decode cL_law 242 = .ok (.iload 4, 2) := by decide +kernel
theorem dL_law_244 : decode cL_law 244 = .ok (.iconst 5, 1) := by decide +kernel
theorem dL_law_245 : decode cL_law 245 = .ok (.iadd, 1) := by decide +kernel
theorem dL_law_246 : decode cL_law 246 = .ok (.iaload, 1) := by decide +kernel
theorem dL_law_247 : decode cL_law 247 = .ok (.invokevirtual 107, 3) := by decide +kernel
theorem dL_law_250 : decode cL_law 250 = .ok (.aload_n 2, 1) := by decide +kernel
theorem dL_law_251 : decode cL_law 251 = .ok (.aload_n 0, 1) := by decide +kernel
theorem dL_law_252 : decode cL_law 252 = .ok (.iload 4, 2) := by decide +kernel
theorem dL_law_254 : decode cL_law 254 = .ok (.iconst 1, 1) := by decide +kernel
theorem dL_law_255 : decode cL_law 255 = .ok (.iadd, 1) := by decide +kernel
theorem dL_law_256 : decode cL_law 256 = .ok (.iaload, 1) := by decide +kernel
theorem dL_law_257 : decode cL_law 257 = .ok (.aload_n 0, 1) := by decide +kernel
theorem dL_law_258 : decode cL_law 258 = .ok (.iload 4, 2) := by decide +kernel
theorem dL_law_260 : decode cL_law 260 = .ok (.iconst 2, 1) := by decide +kernel
theorem dL_law_261 : decode cL_law 261 = .ok (.iadd, 1) := by decide +kernel
theorem dL_law_262 : decode cL_law 262 = .ok (.iaload, 1) := by decide +kernel
theorem dL_law_263 : decode cL_law 263 = .ok (.aload_n 0, 1) := by decide +kernel
theorem dL_law_264 : decode cL_law 264 = .ok (.iload 4, 2) := by decide +kernel
theorem dL_law_266 : decode cL_law 266 = .ok (.iconst 3, 1) := by decide +kernel
theorem dL_law_267 : decode cL_law 267 = .ok (.iadd, 1) := by decide +kernel
theorem dL_law_268 : decode cL_law 268 = .ok (.iaload, 1) := by decide +kernel
theorem dL_law_269 : decode cL_law 269 = .ok (.aload_n 0, 1) := by decide +kernel
theorem dL_law_270 : decode cL_law 270 = .ok (.iload 4, 2) := by decide +kernel
theorem dL_law_272 : decode cL_law 272 = .ok (.iconst 4, 1) := by decide +kernel
theorem dL_law_273 : decode cL_law 273 = .ok (.iadd, 1) := by decide +kernel
theorem dL_law_274 : decode cL_law 274 = .ok (.iaload, 1) := by decide +kernel
theorem dL_law_275 : decode cL_law 275 = .ok (.aload_n 0, 1) := by decide +kernel
theorem dL_law_276 : decode cL_law 276 = .ok (.iload 4, 2) := by decide +kernel
theorem dL_law_278 : decode cL_law 278 = .ok (.iconst 5, 1) := by decide +kernel
theorem dL_law_279 : decode cL_law 279 = .ok (.iadd, 1) := by decide +kernel
theorem dL_law_280 : decode cL_law 280 = .ok (.iaload, 1) := by decide +kernel
theorem dL_law_281 : decode cL_law 281 = .ok (.invokevirtual 110, 3) := by decide +kernel
theorem dL_law_284 : decode cL_law 284 = .ok (.if_icmp .eq 1982, 3) := by decide +kernel
theorem dL_law_287 : decode cL_law 287 = .ok (.iconst 0, 1) := by decide +kernel
theorem dL_law_288 : decode cL_law 288 = .ok (.ireturn, 1) := by decide +kernel
theorem dL_law_289 : decode cL_law 289 = .ok (.aload_n 1, 1) := by decide +kernel
theorem dL_law_290 : decode cL_law 290 = .ok (.aload_n 0, 1) := by decide +kernel
theorem dL_law_291 : decode cL_law 291 = .ok (.iload 4, 2) := by decide +kernel
theorem dL_law_293 : decode cL_law 293 = .ok (.iconst 1, 1) := by decide +kernel
theorem dL_law_294 : decode cL_law 294 = .ok (.iadd, 1) := by decide +kernel
theorem dL_law_295 : decode cL_law 295 = .ok (.iaload, 1) := by decide +kernel
theorem dL_law_296 : decode cL_law 296 = .ok (.aload_n 3, 1) := by decide +kernel
theorem dL_law_297 : decode cL_law 297 = .ok (.invokestatic 111, 3) := by decide +kernel
theorem dL_law_300 : decode cL_law 300 = .ok (.istore 5, 2) := by decide +kernel
theorem dL_law_302 : decode cL_law 302 = .ok (.aload_n 2, 1) := by decide +kernel
theorem dL_law_303 : decode cL_law 303 = .ok (.aload_n 0, 1) := by decide +kernel
theorem dL_law_304 : decode cL_law 304 = .ok (.iload 4, 2) := by decide +kernel
theorem dL_law_306 : decode cL_law 306 = .ok (.iconst 1, 1) := by decide +kernel
theorem dL_law_307 : decode cL_law 307 = .ok (.iadd, 1) := by decide +kernel
theorem dL_law_308 : decode cL_law 308 = .ok (.iaload, 1) := by decide +kernel
theorem dL_law_309 : decode cL_law 309 = .ok (.invokevirtual 116, 3) := by decide +kernel
theorem dL_law_312 : decode cL_law 312 = .ok (.istore 6, 2) := by decide +kernel
theorem dL_law_314 : decode cL_law 314 = .ok (.aload_n 2, 1) := by decide +kernel
theorem dL_law_315 : decode cL_law 315 = .ok (.invokevirtual 117, 3) := by decide +kernel
theorem dL_law_318 : decode cL_law 318 = .ok (.iload 5, 2) := by decide +kernel
theorem dL_law_320 : decode cL_law 320 = .ok (.if_icmp .eq 5, 3) := by decide +kernel
theorem dL_law_323 : decode cL_law 323 = .ok (.iconst 0, 1) := by decide +kernel
theorem dL_law_324 : decode cL_law 324 = .ok (.ireturn, 1) := by decide +kernel
theorem dL_law_325 : decode cL_law 325 = .ok (.iload 5, 2) := by decide +kernel
theorem dL_law_327 : decode cL_law 327 = .ok (.ifCond .ne 15, 3) := by decide +kernel
theorem dL_law_330 : decode cL_law 330 = .ok (.aload_n 3, 1) := by decide +kernel
theorem dL_law_331 : decode cL_law 331 = .ok (.iconst 0, 1) := by decide +kernel
theorem dL_law_332 : decode cL_law 332 = .ok (.laload, 1) := by decide +kernel
theorem dL_law_333 : decode cL_law 333 = .ok (.iload 6, 2) := by decide +kernel
theorem dL_law_335 : decode cL_law 335 = .ok (.i2l, 1) := by decide +kernel
theorem dL_law_336 : decode cL_law 336 = .ok (.lcmp, 1) := by decide +kernel
theorem dL_law_337 : decode cL_law 337 = .ok (.ifCond .eq 5, 3) := by decide +kernel
theorem dL_law_340 : decode cL_law 340 = .ok (.iconst 0, 1) := by decide +kernel
theorem dL_law_341 : decode cL_law 341 = .ok (.ireturn, 1) := by decide +kernel
theorem dL_law_342 : decode cL_law 342 = .ok (.goto 1924, 3) := by decide +kernel
theorem dL_law_345 : decode cL_law 345 = .ok (.aload_n 1, 1) := by decide +kernel
theorem dL_law_346 : decode cL_law 346 = .ok (.invokevirtual 121, 3) := by decide +kernel
theorem dL_law_349 : decode cL_law 349 = .ok (.aload_n 2, 1) := by decide +kernel
theorem dL_law_350 : decode cL_law 350 = .ok (.invokevirtual 124, 3) := by decide +kernel
theorem dL_law_353 : decode cL_law 353 = .ok (.if_icmp .eq 1913, 3) := by decide +kernel
theorem dL_law_356 : decode cL_law 356 = .ok (.iconst 0, 1) := by decide +kernel
theorem dL_law_357 : decode cL_law 357 = .ok (.ireturn, 1) := by decide +kernel
theorem dL_law_358 : decode cL_law 358 = .ok (.aload_n 1, 1) := by decide +kernel
theorem dL_law_359 : decode cL_law 359 = .ok (.aload_n 0, 1) := by decide +kernel
theorem dL_law_360 : decode cL_law 360 = .ok (.iload 4, 2) := by decide +kernel
theorem dL_law_362 : decode cL_law 362 = .ok (.iconst 1, 1) := by decide +kernel
theorem dL_law_363 : decode cL_law 363 = .ok (.iadd, 1) := by decide +kernel
theorem dL_law_364 : decode cL_law 364 = .ok (.iaload, 1) := by decide +kernel
theorem dL_law_365 : decode cL_law 365 = .ok (.aload_n 3, 1) := by decide +kernel
theorem dL_law_366 : decode cL_law 366 = .ok (.invokestatic 125, 3) := by decide +kernel
theorem dL_law_369 : decode cL_law 369 = .ok (.istore 5, 2) := by decide +kernel
theorem dL_law_371 : decode cL_law 371 = .ok (.aload_n 2, 1) := by decide +kernel
theorem dL_law_372 : decode cL_law 372 = .ok (.aload_n 0, 1) := by decide +kernel
theorem dL_law_373 : decode cL_law 373 = .ok (.iload 4, 2) := by decide +kernel
theorem dL_law_375 : decode cL_law 375 = .ok (.iconst 1, 1) := by decide +kernel
theorem dL_law_376 : decode cL_law 376 = .ok (.iadd, 1) := by decide +kernel
theorem dL_law_377 : decode cL_law 377 = .ok (.iaload, 1) := by decide +kernel
theorem dL_law_378 : decode cL_law 378 = .ok (.invokevirtual 127, 3) := by decide +kernel
theorem dL_law_381 : decode cL_law 381 = .ok (.istore 6, 2) := by decide +kernel
theorem dL_law_383 : decode cL_law 383 = .ok (.aload_n 2, 1) := by decide +kernel
theorem dL_law_384 : decode cL_law 384 = .ok (.invokevirtual 117, 3) := by decide +kernel
theorem dL_law_387 : decode cL_law 387 = .ok (.iload 5, 2) := by decide +kernel
theorem dL_law_389 : decode cL_law 389 = .ok (.if_icmp .eq 5, 3) := by decide +kernel
theorem dL_law_392 : decode cL_law 392 = .ok (.iconst 0, 1) := by decide +kernel
theorem dL_law_393 : decode cL_law 393 = .ok (.ireturn, 1) := by decide +kernel
theorem dL_law_394 : decode cL_law 394 = .ok (.iload 5, 2) := by decide +kernel
theorem dL_law_396 : decode cL_law 396 = .ok (.ifCond .ne 15, 3) := by decide +kernel
theorem dL_law_399 : decode cL_law 399 = .ok (.aload_n 3, 1) := by decide +kernel
theorem dL_law_400 : decode cL_law 400 = .ok (.iconst 0, 1) := by decide +kernel
theorem dL_law_401 : decode cL_law 401 = .ok (.laload, 1) := by decide +kernel
theorem dL_law_402 : decode cL_law 402 = .ok (.iload 6, 2) := by decide +kernel
theorem dL_law_404 : decode cL_law 404 = .ok (.i2l, 1) := by decide +kernel
theorem dL_law_405 : decode cL_law 405 = .ok (.lcmp, 1) := by decide +kernel
theorem dL_law_406 : decode cL_law 406 = .ok (.ifCond .eq 5, 3) := by decide +kernel
theorem dL_law_409 : decode cL_law 409 = .ok (.iconst 0, 1) := by decide +kernel
theorem dL_law_410 : decode cL_law 410 = .ok (.ireturn, 1) := by decide +kernel
theorem dL_law_411 : decode cL_law 411 = .ok (.goto 1855, 3) := by decide +kernel
theorem dL_law_414 : decode cL_law 414 = .ok (.aload_n 1, 1) := by decide +kernel
theorem dL_law_415 : decode cL_law 415 = .ok (.aload_n 0, 1) := by decide +kernel
theorem dL_law_416 : decode cL_law 416 = .ok (.iload 4, 2) := by decide +kernel
theorem dL_law_418 : decode cL_law 418 = .ok (.iconst 1, 1) := by decide +kernel
theorem dL_law_419 : decode cL_law 419 = .ok (.iadd, 1) := by decide +kernel
theorem dL_law_420 : decode cL_law 420 = .ok (.iaload, 1) := by decide +kernel
theorem dL_law_421 : decode cL_law 421 = .ok (.aload_n 0, 1) := by decide +kernel
theorem dL_law_422 : decode cL_law 422 = .ok (.iload 4, 2) := by decide +kernel
theorem dL_law_424 : decode cL_law 424 = .ok (.iconst 2, 1) := by decide +kernel
theorem dL_law_425 : decode cL_law 425 = .ok (.iadd, 1) := by decide +kernel
theorem dL_law_426 : decode cL_law 426 = .ok (.iaload, 1) := by decide +kernel
theorem dL_law_427 : decode cL_law 427 = .ok (.aload_n 3, 1) := by decide +kernel
theorem dL_law_428 : decode cL_law 428 = .ok (.invokestatic 128, 3) := by decide +kernel
theorem dL_law_431 : decode cL_law 431 = .ok (.istore 5, 2) := by decide +kernel
theorem dL_law_433 : decode cL_law 433 = .ok (.aload_n 2, 1) := by decide +kernel
theorem dL_law_434 : decode cL_law 434 = .ok (.aload_n 0, 1) := by decide +kernel
theorem dL_law_435 : decode cL_law 435 = .ok (.iload 4, 2) := by decide +kernel
theorem dL_law_437 : decode cL_law 437 = .ok (.iconst 1, 1) := by decide +kernel
theorem dL_law_438 : decode cL_law 438 = .ok (.iadd, 1) := by decide +kernel
theorem dL_law_439 : decode cL_law 439 = .ok (.iaload, 1) := by decide +kernel
theorem dL_law_440 : decode cL_law 440 = .ok (.aload_n 0, 1) := by decide +kernel
theorem dL_law_441 : decode cL_law 441 = .ok (.iload 4, 2) := by decide +kernel
theorem dL_law_443 : decode cL_law 443 = .ok (.iconst 2, 1) := by decide +kernel
theorem dL_law_444 : decode cL_law 444 = .ok (.iadd, 1) := by decide +kernel
theorem dL_law_445 : decode cL_law 445 = .ok (.iaload, 1) := by decide +kernel
theorem dL_law_446 : decode cL_law 446 = .ok (.invokevirtual 131, 3) := by decide +kernel
theorem dL_law_449 : decode cL_law 449 = .ok (.istore 6, 2) := by decide +kernel
theorem dL_law_451 : decode cL_law 451 = .ok (.aload_n 2, 1) := by decide +kernel
theorem dL_law_452 : decode cL_law 452 = .ok (.invokevirtual 117, 3) := by decide +kernel
theorem dL_law_455 : decode cL_law 455 = .ok (.iload 5, 2) := by decide +kernel
theorem dL_law_457 : decode cL_law 457 = .ok (.if_icmp .eq 5, 3) := by decide +kernel
theorem dL_law_460 : decode cL_law 460 = .ok (.iconst 0, 1) := by decide +kernel
theorem dL_law_461 : decode cL_law 461 = .ok (.ireturn, 1) := by decide +kernel
theorem dL_law_462 : decode cL_law 462 = .ok (.iload 5, 2) := by decide +kernel
theorem dL_law_464 : decode cL_law 464 = .ok (.ifCond .ne 15, 3) := by decide +kernel
theorem dL_law_467 : decode cL_law 467 = .ok (.aload_n 3, 1) := by decide +kernel
theorem dL_law_468 : decode cL_law 468 = .ok (.iconst 0, 1) := by decide +kernel
theorem dL_law_469 : decode cL_law 469 = .ok (.laload, 1) := by decide +kernel
theorem dL_law_470 : decode cL_law 470 = .ok (.iload 6, 2) := by decide +kernel
theorem dL_law_472 : decode cL_law 472 = .ok (.i2l, 1) := by decide +kernel
theorem dL_law_473 : decode cL_law 473 = .ok (.lcmp, 1) := by decide +kernel
theorem dL_law_474 : decode cL_law 474 = .ok (.ifCond .eq 5, 3) := by decide +kernel
theorem dL_law_477 : decode cL_law 477 = .ok (.iconst 0, 1) := by decide +kernel
theorem dL_law_478 : decode cL_law 478 = .ok (.ireturn, 1) := by decide +kernel
theorem dL_law_479 : decode cL_law 479 = .ok (.goto 1787, 3) := by decide +kernel
theorem dL_law_482 : decode cL_law 482 = .ok (.aload_n 1, 1) := by decide +kernel
theorem dL_law_483 : decode cL_law 483 = .ok (.aload_n 0, 1) := by decide +kernel
theorem dL_law_484 : decode cL_law 484 = .ok (.iload 4, 2) := by decide +kernel
theorem dL_law_486 : decode cL_law 486 = .ok (.iconst 1, 1) := by decide +kernel
theorem dL_law_487 : decode cL_law 487 = .ok (.iadd, 1) := by decide +kernel
theorem dL_law_488 : decode cL_law 488 = .ok (.iaload, 1) := by decide +kernel
theorem dL_law_489 : decode cL_law 489 = .ok (.aload_n 0, 1) := by decide +kernel
