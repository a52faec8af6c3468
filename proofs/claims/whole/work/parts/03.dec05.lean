theorem dX6_house_126 : decode cX6_house 126 = .ok (.imul, 1) := by decide +kernel
theorem dX6_house_127 : decode cX6_house 127 = .ok (.iadd, 1) := by decide +kernel
theorem dX6_house_128 : decode cX6_house 128 = .ok (.iload_n 1, 1) := by decide +kernel
theorem dX6_house_129 : decode cX6_house 129 = .ok (.iadd, 1) := by decide +kernel
theorem dX6_house_130 : decode cX6_house 130 = .ok (.iaload, 1) := by decide +kernel
theorem dX6_house_131 : decode cX6_house 131 = .ok (.ireturn, 1) := by decide +kernel
theorem dX6_miles_0 : decode cX6_miles 0 = .ok (.aload_n 0, 1) := by decide +kernel
theorem dX6_miles_1 : decode cX6_miles 1 = .ok (.iconst 0, 1) := by decide +kernel
theorem dX6_miles_2 : decode cX6_miles 2 = .ok (.putfield 129, 3) := by decide +kernel
theorem dX6_miles_5 : decode cX6_miles 5 = .ok (.aload_n 0, 1) := by decide +kernel
theorem dX6_miles_6 : decode cX6_miles 6 = .ok (.iload_n 1, 1) := by decide +kernel
theorem dX6_miles_7 : decode cX6_miles 7 = .ok (.invokevirtual 407, 3) := by decide +kernel
theorem dX6_miles_10 : decode cX6_miles 10 = .ok (.ifCond .eq 13, 3) := by decide +kernel
theorem dX6_miles_13 : decode cX6_miles 13 = .ok (.aload_n 0, 1) := by decide +kernel
theorem dX6_miles_14 : decode cX6_miles 14 = .ok (.iload_n 2, 1) := by decide +kernel
theorem dX6_miles_15 : decode cX6_miles 15 = .ok (.bipush 7, 2) := by decide +kernel
theorem dX6_miles_17 : decode cX6_miles 17 = .ok (.invokevirtual 398, 3) := by decide +kernel
theorem dX6_miles_20 : decode cX6_miles 20 = .ok (.ifCond .ne 5, 3) := by decide +kernel
theorem dX6_miles_23 : decode cX6_miles 23 = .ok (.iconst 0, 1) := by decide +kernel
theorem dX6_miles_24 : decode cX6_miles 24 = .ok (.ireturn, 1) := by decide +kernel
theorem dX6_miles_25 : decode cX6_miles 25 = .ok (.aload_n 0, 1) := by decide +kernel
theorem dX6_miles_26 : decode cX6_miles 26 = .ok (.invokevirtual 379, 3) := by decide +kernel
theorem dX6_miles_29 : decode cX6_miles 29 = .ok (.aload_n 0, 1) := by decide +kernel
theorem dX6_miles_30 : decode cX6_miles 30 = .ok (.iload_n 1, 1) := by decide +kernel
theorem dX6_miles_31 : decode cX6_miles 31 = .ok (.iload_n 2, 1) := by decide +kernel
theorem dX6_miles_32 : decode cX6_miles 32 = .ok (.invokevirtual 357, 3) := by decide +kernel
theorem dX6_miles_35 : decode cX6_miles 35 = .ok (.ireturn, 1) := by decide +kernel
theorem dX6_seen_0 : decode cX6_seen 0 = .ok (.aload_n 0, 1) := by decide +kernel
theorem dX6_seen_1 : decode cX6_seen 1 = .ok (.iconst 0, 1) := by decide +kernel
theorem dX6_seen_2 : decode cX6_seen 2 = .ok (.putfield 129, 3) := by decide +kernel
theorem dX6_seen_5 : decode cX6_seen 5 = .ok (.aload_n 0, 1) := by decide +kernel
theorem dX6_seen_6 : decode cX6_seen 6 = .ok (.iload_n 1, 1) := by decide +kernel
theorem dX6_seen_7 : decode cX6_seen 7 = .ok (.invokevirtual 407, 3) := by decide +kernel
theorem dX6_seen_10 : decode cX6_seen 10 = .ok (.ifCond .ne 5, 3) := by decide +kernel
theorem dX6_seen_13 : decode cX6_seen 13 = .ok (.lconst 0, 1) := by decide +kernel
theorem dX6_seen_14 : decode cX6_seen 14 = .ok (.lreturn, 1) := by decide +kernel
theorem dX6_seen_15 : decode cX6_seen 15 = .ok (.aload_n 0, 1) := by decide +kernel
theorem dX6_seen_16 : decode cX6_seen 16 = .ok (.invokevirtual 379, 3) := by decide +kernel
theorem dX6_seen_19 : decode cX6_seen 19 = .ok (.aload_n 0, 1) := by decide +kernel
theorem dX6_seen_20 : decode cX6_seen 20 = .ok (.iload_n 1, 1) := by decide +kernel
theorem dX6_seen_21 : decode cX6_seen 21 = .ok (.invokevirtual 364, 3) := by decide +kernel
theorem dX6_seen_24 : decode cX6_seen 24 = .ok (.aload_n 0, 1) := by decide +kernel
theorem dX6_seen_25 : decode cX6_seen 25 = .ok (.getfield 338, 3) := by decide +kernel
theorem dX6_seen_28 : decode cX6_seen 28 = .ok (.lreturn, 1) := by decide +kernel
theorem dX6_yearGoes_0 : decode cX6_yearGoes 0 = .ok (.aload_n 0, 1) := by decide +kernel
theorem dX6_yearGoes_1 : decode cX6_yearGoes 1 = .ok (.invokevirtual 379, 3) := by decide +kernel
theorem dX6_yearGoes_4 : decode cX6_yearGoes 4 = .ok (.iconst 0, 1) := by decide +kernel
theorem dX6_yearGoes_5 : decode cX6_yearGoes 5 = .ok (.istore_n 1, 1) := by decide +kernel
theorem dX6_yearGoes_6 : decode cX6_yearGoes 6 = .ok (.iconst 0, 1) := by decide +kernel
theorem dX6_yearGoes_7 : decode cX6_yearGoes 7 = .ok (.istore_n 2, 1) := by decide +kernel
theorem dX6_yearGoes_8 : decode cX6_yearGoes 8 = .ok (.iload_n 2, 1) := by decide +kernel
theorem dX6_yearGoes_9 : decode cX6_yearGoes 9 = .ok (.aload_n 0, 1) := by decide +kernel
theorem dX6_yearGoes_10 : decode cX6_yearGoes 10 = .ok (.getfield 297, 3) := by decide +kernel
theorem dX6_yearGoes_13 : decode cX6_yearGoes 13 = .ok (.if_icmp .ge 32, 3) := by decide +kernel
theorem dX6_yearGoes_16 : decode cX6_yearGoes 16 = .ok (.aload_n 0, 1) := by decide +kernel
theorem dX6_yearGoes_17 : decode cX6_yearGoes 17 = .ok (.iload_n 2, 1) := by decide +kernel
theorem dX6_yearGoes_18 : decode cX6_yearGoes 18 = .ok (.invokevirtual 410, 3) := by decide +kernel
theorem dX6_yearGoes_21 : decode cX6_yearGoes 21 = .ok (.istore_n 3, 1) := by decide +kernel
theorem dX6_yearGoes_22 : decode cX6_yearGoes 22 = .ok (.aload_n 0, 1) := by decide +kernel
theorem dX6_yearGoes_23 : decode cX6_yearGoes 23 = .ok (.getfield 75, 3) := by decide +kernel
theorem dX6_yearGoes_26 : decode cX6_yearGoes 26 = .ok (.bipush 36, 2) := by decide +kernel
theorem dX6_yearGoes_28 : decode cX6_yearGoes 28 = .ok (.iload_n 2, 1) := by decide +kernel
theorem dX6_yearGoes_29 : decode cX6_yearGoes 29 = .ok (.iadd, 1) := by decide +kernel
theorem dX6_yearGoes_30 : decode cX6_yearGoes 30 = .ok (.dup2, 1) := by decide +kernel
theorem dX6_yearGoes_31 : decode cX6_yearGoes 31 = .ok (.iaload, 1) := by decide +kernel
theorem dX6_yearGoes_32 : decode cX6_yearGoes 32 = .ok (.iload_n 3, 1) := by decide +kernel
theorem dX6_yearGoes_33 : decode cX6_yearGoes 33 = .ok (.isub, 1) := by decide +kernel
theorem dX6_yearGoes_34 : decode cX6_yearGoes 34 = .ok (.iastore, 1) := by decide +kernel
theorem dX6_yearGoes_35 : decode cX6_yearGoes 35 = .ok (.iload_n 1, 1) := by decide +kernel
theorem dX6_yearGoes_36 : decode cX6_yearGoes 36 = .ok (.iload_n 3, 1) := by decide +kernel
theorem dX6_yearGoes_37 : decode cX6_yearGoes 37 = .ok (.iadd, 1) := by decide +kernel
theorem dX6_yearGoes_38 : decode cX6_yearGoes 38 = .ok (.istore_n 1, 1) := by decide +kernel
theorem dX6_yearGoes_39 : decode cX6_yearGoes 39 = .ok (.iinc 2 1, 3) := by decide +kernel
theorem dX6_yearGoes_42 : decode cX6_yearGoes 42 = .ok (.goto (-34), 3) := by decide +kernel
theorem dX6_yearGoes_45 : decode cX6_yearGoes 45 = .ok (.iconst 0, 1) := by decide +kernel
theorem dX6_yearGoes_46 : decode cX6_yearGoes 46 = .ok (.istore_n 2, 1) := by decide +kernel
theorem dX6_yearGoes_47 : decode cX6_yearGoes 47 = .ok (.iload_n 2, 1) := by decide +kernel
theorem dX6_yearGoes_48 : decode cX6_yearGoes 48 = .ok (.bipush 12, 2) := by decide +kernel
theorem dX6_yearGoes_50 : decode cX6_yearGoes 50 = .ok (.if_icmp .ge 55, 3) := by decide +kernel
theorem dX6_yearGoes_53 : decode cX6_yearGoes 53 = .ok (.aload_n 0, 1) := by decide +kernel
theorem dX6_yearGoes_54 : decode cX6_yearGoes 54 = .ok (.getfield 75, 3) := by decide +kernel
theorem dX6_yearGoes_57 : decode cX6_yearGoes 57 = .ok (.iconst 0, 1) := by decide +kernel
theorem dX6_yearGoes_58 : decode cX6_yearGoes 58 = .ok (.iload_n 2, 1) := by decide +kernel
theorem dX6_yearGoes_59 : decode cX6_yearGoes 59 = .ok (.iadd, 1) := by decide +kernel
theorem dX6_yearGoes_60 : decode cX6_yearGoes 60 = .ok (.iaload, 1) := by decide +kernel
theorem dX6_yearGoes_61 : decode cX6_yearGoes 61 = .ok (.iconst (-1), 1) := by decide +kernel
theorem dX6_yearGoes_62 : decode cX6_yearGoes 62 = .ok (.if_icmp .eq 37, 3) := by decide +kernel
theorem dX6_yearGoes_65 : decode cX6_yearGoes 65 = .ok (.aload_n 0, 1) := by decide +kernel
theorem dX6_yearGoes_66 : decode cX6_yearGoes 66 = .ok (.getfield 75, 3) := by decide +kernel
theorem dX6_yearGoes_69 : decode cX6_yearGoes 69 = .ok (.bipush 12, 2) := by decide +kernel
theorem dX6_yearGoes_71 : decode cX6_yearGoes 71 = .ok (.iload_n 2, 1) := by decide +kernel
theorem dX6_yearGoes_72 : decode cX6_yearGoes 72 = .ok (.iadd, 1) := by decide +kernel
theorem dX6_yearGoes_73 : decode cX6_yearGoes 73 = .ok (.iaload, 1) := by decide +kernel
theorem dX6_yearGoes_74 : decode cX6_yearGoes 74 = .ok (.aload_n 0, 1) := by decide +kernel
theorem dX6_yearGoes_75 : decode cX6_yearGoes 75 = .ok (.getfield 75, 3) := by decide +kernel
theorem dX6_yearGoes_78 : decode cX6_yearGoes 78 = .ok (.bipush 24, 2) := by decide +kernel
theorem dX6_yearGoes_80 : decode cX6_yearGoes 80 = .ok (.iload_n 2, 1) := by decide +kernel
theorem dX6_yearGoes_81 : decode cX6_yearGoes 81 = .ok (.iadd, 1) := by decide +kernel
theorem dX6_yearGoes_82 : decode cX6_yearGoes 82 = .ok (.iaload, 1) := by decide +kernel
theorem dX6_yearGoes_83 : decode cX6_yearGoes 83 = .ok (.if_icmp .ge 16, 3) := by decide +kernel
theorem dX6_yearGoes_86 : decode cX6_yearGoes 86 = .ok (.aload_n 0, 1) := by decide +kernel
theorem dX6_yearGoes_87 : decode cX6_yearGoes 87 = .ok (.getfield 75, 3) := by decide +kernel
theorem dX6_yearGoes_90 : decode cX6_yearGoes 90 = .ok (.bipush 12, 2) := by decide +kernel
theorem dX6_yearGoes_92 : decode cX6_yearGoes 92 = .ok (.iload_n 2, 1) := by decide +kernel
theorem dX6_yearGoes_93 : decode cX6_yearGoes 93 = .ok (.iadd, 1) := by decide +kernel
theorem dX6_yearGoes_94 : decode cX6_yearGoes 94 = .ok (.dup2, 1) := by decide +kernel
theorem dX6_yearGoes_95 : decode cX6_yearGoes 95 = .ok (.iaload, 1) := by decide +kernel
theorem dX6_yearGoes_96 : decode cX6_yearGoes 96 = .ok (.iconst 1, 1) := by decide +kernel
theorem dX6_yearGoes_97 : decode cX6_yearGoes 97 = .ok (.iadd, 1) := by decide +kernel
theorem dX6_yearGoes_98 : decode cX6_yearGoes 98 = .ok (.iastore, 1) := by decide +kernel
theorem dX6_yearGoes_99 : decode cX6_yearGoes 99 = .ok (.iinc 2 1, 3) := by decide +kernel
theorem dX6_yearGoes_102 : decode cX6_yearGoes 102 = .ok (.goto (-55), 3) := by decide +kernel
theorem dX6_yearGoes_105 : decode cX6_yearGoes 105 = .ok (.aload_n 0, 1) := by decide +kernel
theorem dX6_yearGoes_106 : decode cX6_yearGoes 106 = .ok (.getfield 75, 3) := by decide +kernel
theorem dX6_yearGoes_109 : decode cX6_yearGoes 109 = .ok (.bipush 61, 2) := by decide +kernel
theorem dX6_yearGoes_111 : decode cX6_yearGoes 111 = .ok (.dup2, 1) := by decide +kernel
theorem dX6_yearGoes_112 : decode cX6_yearGoes 112 = .ok (.iaload, 1) := by decide +kernel
theorem dX6_yearGoes_113 : decode cX6_yearGoes 113 = .ok (.iconst 1, 1) := by decide +kernel
theorem dX6_yearGoes_114 : decode cX6_yearGoes 114 = .ok (.iadd, 1) := by decide +kernel
theorem dX6_yearGoes_115 : decode cX6_yearGoes 115 = .ok (.iastore, 1) := by decide +kernel
theorem dX6_yearGoes_116 : decode cX6_yearGoes 116 = .ok (.iload_n 1, 1) := by decide +kernel
theorem dX6_yearGoes_117 : decode cX6_yearGoes 117 = .ok (.ireturn, 1) := by decide +kernel
theorem dX6_years_0 : decode cX6_years 0 = .ok (.aload_n 0, 1) := by decide +kernel
theorem dX6_years_1 : decode cX6_years 1 = .ok (.iconst 0, 1) := by decide +kernel
theorem dX6_years_2 : decode cX6_years 2 = .ok (.putfield 129, 3) := by decide +kernel
theorem dX6_years_5 : decode cX6_years 5 = .ok (.iload_n 1, 1) := by decide +kernel
theorem dX6_years_6 : decode cX6_years 6 = .ok (.iconst 1, 1) := by decide +kernel
theorem dX6_years_7 : decode cX6_years 7 = .ok (.bipush 20, 2) := by decide +kernel
theorem dX6_years_9 : decode cX6_years 9 = .ok (.invokestatic 385, 3) := by decide +kernel
theorem dX6_years_12 : decode cX6_years 12 = .ok (.ifCond .eq 18, 3) := by decide +kernel
theorem dX6_years_15 : decode cX6_years 15 = .ok (.aload_n 0, 1) := by decide +kernel
theorem dX6_years_16 : decode cX6_years 16 = .ok (.getfield 75, 3) := by decide +kernel
theorem dX6_years_19 : decode cX6_years 19 = .ok (.bipush 61, 2) := by decide +kernel
theorem dX6_years_21 : decode cX6_years 21 = .ok (.iaload, 1) := by decide +kernel
theorem dX6_years_22 : decode cX6_years 22 = .ok (.iload_n 1, 1) := by decide +kernel
theorem dX6_years_23 : decode cX6_years 23 = .ok (.iadd, 1) := by decide +kernel
theorem dX6_years_24 : decode cX6_years 24 = .ok (.sipush 999, 3) := by decide +kernel
theorem dX6_years_27 : decode cX6_years 27 = .ok (.if_icmp .le 10, 3) := by decide +kernel
theorem dX6_years_30 : decode cX6_years 30 = .ok (.aload_n 0, 1) := by decide +kernel
theorem dX6_years_31 : decode cX6_years 31 = .ok (.iconst 1, 1) := by decide +kernel
theorem dX6_years_32 : decode cX6_years 32 = .ok (.iconst (-1), 1) := by decide +kernel
theorem dX6_years_33 : decode cX6_years 33 = .ok (.invokevirtual 413, 3) := by decide +kernel
theorem dX6_years_36 : decode cX6_years 36 = .ok (.ireturn, 1) := by decide +kernel
theorem dX6_years_37 : decode cX6_years 37 = .ok (.aload_n 0, 1) := by decide +kernel
theorem dX6_years_38 : decode cX6_years 38 = .ok (.invokevirtual 416, 3) := by decide +kernel
theorem dX6_years_41 : decode cX6_years 41 = .ok (.iconst 0, 1) := by decide +kernel
theorem dX6_years_42 : decode cX6_years 42 = .ok (.istore_n 2, 1) := by decide +kernel
theorem dX6_years_43 : decode cX6_years 43 = .ok (.iload_n 2, 1) := by decide +kernel
theorem dX6_years_44 : decode cX6_years 44 = .ok (.iload_n 1, 1) := by decide +kernel
theorem dX6_years_45 : decode cX6_years 45 = .ok (.if_icmp .ge 14, 3) := by decide +kernel
theorem dX6_years_48 : decode cX6_years 48 = .ok (.aload_n 0, 1) := by decide +kernel
theorem dX6_years_49 : decode cX6_years 49 = .ok (.invokevirtual 419, 3) := by decide +kernel
theorem dX6_years_52 : decode cX6_years 52 = .ok (.pop, 1) := by decide +kernel
theorem dX6_years_53 : decode cX6_years 53 = .ok (.iinc 2 1, 3) := by decide +kernel
theorem dX6_years_56 : decode cX6_years 56 = .ok (.goto (-13), 3) := by decide +kernel
theorem dX6_years_59 : decode cX6_years 59 = .ok (.aload_n 0, 1) := by decide +kernel
theorem dX6_years_60 : decode cX6_years 60 = .ok (.getfield 75, 3) := by decide +kernel
theorem dX6_years_63 : decode cX6_years 63 = .ok (.bipush 61, 2) := by decide +kernel
theorem dX6_years_65 : decode cX6_years 65 = .ok (.iaload, 1) := by decide +kernel
theorem dX6_years_66 : decode cX6_years 66 = .ok (.ireturn, 1) := by decide +kernel
theorem dX6_isBare_0 : decode cX6_isBare 0 = .ok (.aload_n 0, 1) := by decide +kernel
theorem dX6_isBare_1 : decode cX6_isBare 1 = .ok (.iload_n 1, 1) := by decide +kernel
theorem dX6_isBare_2 : decode cX6_isBare 2 = .ok (.invokevirtual 329, 3) := by decide +kernel
theorem dX6_isBare_5 : decode cX6_isBare 5 = .ok (.iconst (-1), 1) := by decide +kernel
theorem dX6_isBare_6 : decode cX6_isBare 6 = .ok (.if_icmp .ne 16, 3) := by decide +kernel
theorem dX6_isBare_9 : decode cX6_isBare 9 = .ok (.aload_n 0, 1) := by decide +kernel
theorem dX6_isBare_10 : decode cX6_isBare 10 = .ok (.iload_n 1, 1) := by decide +kernel
theorem dX6_isBare_11 : decode cX6_isBare 11 = .ok (.invokevirtual 326, 3) := by decide +kernel
theorem dX6_isBare_14 : decode cX6_isBare 14 = .ok (.iconst (-1), 1) := by decide +kernel
theorem dX6_isBare_15 : decode cX6_isBare 15 = .ok (.if_icmp .ne 7, 3) := by decide +kernel
theorem dX6_isBare_18 : decode cX6_isBare 18 = .ok (.iconst 1, 1) := by decide +kernel
theorem dX6_isBare_19 : decode cX6_isBare 19 = .ok (.goto 4, 3) := by decide +kernel
theorem dX6_isBare_22 : decode cX6_isBare 22 = .ok (.iconst 0, 1) := by decide +kernel
theorem dX6_isBare_23 : decode cX6_isBare 23 = .ok (.ireturn, 1) := by decide +kernel
theorem dX6_plant_0 : decode cX6_plant 0 = .ok (.aload_n 0, 1) := by decide +kernel
theorem dX6_plant_1 : decode cX6_plant 1 = .ok (.iconst 0, 1) := by decide +kernel
theorem dX6_plant_2 : decode cX6_plant 2 = .ok (.putfield 129, 3) := by decide +kernel
theorem dX6_plant_5 : decode cX6_plant 5 = .ok (.aload_n 0, 1) := by decide +kernel
theorem dX6_plant_6 : decode cX6_plant 6 = .ok (.iload_n 1, 1) := by decide +kernel
theorem dX6_plant_7 : decode cX6_plant 7 = .ok (.invokevirtual 395, 3) := by decide +kernel
theorem dX6_plant_10 : decode cX6_plant 10 = .ok (.ifCond .ne 5, 3) := by decide +kernel
theorem dX6_plant_13 : decode cX6_plant 13 = .ok (.iconst 0, 1) := by decide +kernel
theorem dX6_plant_14 : decode cX6_plant 14 = .ok (.ireturn, 1) := by decide +kernel
theorem dX6_plant_15 : decode cX6_plant 15 = .ok (.iconst 0, 1) := by decide +kernel
theorem dX6_plant_16 : decode cX6_plant 16 = .ok (.istore_n 3, 1) := by decide +kernel
theorem dX6_plant_17 : decode cX6_plant 17 = .ok (.iload_n 3, 1) := by decide +kernel
theorem dX6_plant_18 : decode cX6_plant 18 = .ok (.bipush 12, 2) := by decide +kernel
theorem dX6_plant_20 : decode cX6_plant 20 = .ok (.if_icmp .ge 21, 3) := by decide +kernel
theorem dX6_plant_23 : decode cX6_plant 23 = .ok (.aload_n 0, 1) := by decide +kernel
theorem dX6_plant_24 : decode cX6_plant 24 = .ok (.getfield 75, 3) := by decide +kernel
theorem dX6_plant_27 : decode cX6_plant 27 = .ok (.iconst 0, 1) := by decide +kernel
theorem dX6_plant_28 : decode cX6_plant 28 = .ok (.iload_n 3, 1) := by decide +kernel
theorem dX6_plant_29 : decode cX6_plant 29 = .ok (.iadd, 1) := by decide +kernel
theorem dX6_plant_30 : decode cX6_plant 30 = .ok (.iaload, 1) := by decide +kernel
theorem dX6_plant_31 : decode cX6_plant 31 = .ok (.iconst (-1), 1) := by decide +kernel
theorem dX6_plant_32 : decode cX6_plant 32 = .ok (.if_icmp .eq 9, 3) := by decide +kernel
theorem dX6_plant_35 : decode cX6_plant 35 = .ok (.iinc 3 1, 3) := by decide +kernel
theorem dX6_plant_38 : decode cX6_plant 38 = .ok (.goto (-21), 3) := by decide +kernel
theorem dX6_plant_41 : decode cX6_plant 41 = .ok (.iload_n 3, 1) := by decide +kernel
theorem dX6_plant_42 : decode cX6_plant 42 = .ok (.bipush 12, 2) := by decide +kernel
theorem dX6_plant_44 : decode cX6_plant 44 = .ok (.if_icmp .eq 21, 3) := by decide +kernel
theorem dX6_plant_47 : decode cX6_plant 47 = .ok (.iload_n 2, 1) := by decide +kernel
theorem dX6_plant_48 : decode cX6_plant 48 = .ok (.iconst 1, 1) := by decide +kernel
theorem dX6_plant_49 : decode cX6_plant 49 = .ok (.bipush 9, 2) := by decide +kernel
theorem dX6_plant_51 : decode cX6_plant 51 = .ok (.invokestatic 385, 3) := by decide +kernel
theorem dX6_plant_54 : decode cX6_plant 54 = .ok (.ifCond .eq 11, 3) := by decide +kernel
theorem dX6_plant_57 : decode cX6_plant 57 = .ok (.aload_n 0, 1) := by decide +kernel
theorem dX6_plant_58 : decode cX6_plant 58 = .ok (.iload_n 1, 1) := by decide +kernel
theorem dX6_plant_59 : decode cX6_plant 59 = .ok (.invokevirtual 422, 3) := by decide +kernel
theorem dX6_plant_62 : decode cX6_plant 62 = .ok (.ifCond .ne 10, 3) := by decide +kernel
theorem dX6_plant_65 : decode cX6_plant 65 = .ok (.aload_n 0, 1) := by decide +kernel
theorem dX6_plant_66 : decode cX6_plant 66 = .ok (.iconst 1, 1) := by decide +kernel
theorem dX6_plant_67 : decode cX6_plant 67 = .ok (.iconst (-1), 1) := by decide +kernel
theorem dX6_plant_68 : decode cX6_plant 68 = .ok (.invokevirtual 413, 3) := by decide +kernel
theorem dX6_plant_71 : decode cX6_plant 71 = .ok (.ireturn, 1) := by decide +kernel
theorem dX6_plant_72 : decode cX6_plant 72 = .ok (.aload_n 0, 1) := by decide +kernel
theorem dX6_plant_73 : decode cX6_plant 73 = .ok (.invokevirtual 416, 3) := by decide +kernel
theorem dX6_plant_76 : decode cX6_plant 76 = .ok (.aload_n 0, 1) := by decide +kernel
theorem dX6_plant_77 : decode cX6_plant 77 = .ok (.getfield 75, 3) := by decide +kernel
theorem dX6_plant_80 : decode cX6_plant 80 = .ok (.iconst 0, 1) := by decide +kernel
theorem dX6_plant_81 : decode cX6_plant 81 = .ok (.iload_n 3, 1) := by decide +kernel
theorem dX6_plant_82 : decode cX6_plant 82 = .ok (.iadd, 1) := by decide +kernel
theorem dX6_plant_83 : decode cX6_plant 83 = .ok (.iload_n 1, 1) := by decide +kernel
theorem dX6_plant_84 : decode cX6_plant 84 = .ok (.iastore, 1) := by decide +kernel
theorem dX6_plant_85 : decode cX6_plant 85 = .ok (.aload_n 0, 1) := by decide +kernel
theorem dX6_plant_86 : decode cX6_plant 86 = .ok (.getfield 75, 3) := by decide +kernel
theorem dX6_plant_89 : decode cX6_plant 89 = .ok (.bipush 12, 2) := by decide +kernel
theorem dX6_plant_91 : decode cX6_plant 91 = .ok (.iload_n 3, 1) := by decide +kernel
theorem dX6_plant_92 : decode cX6_plant 92 = .ok (.iadd, 1) := by decide +kernel
theorem dX6_plant_93 : decode cX6_plant 93 = .ok (.iconst 1, 1) := by decide +kernel
theorem dX6_plant_94 : decode cX6_plant 94 = .ok (.iastore, 1) := by decide +kernel
theorem dX6_plant_95 : decode cX6_plant 95 = .ok (.aload_n 0, 1) := by decide +kernel
theorem dX6_plant_96 : decode cX6_plant 96 = .ok (.getfield 75, 3) := by decide +kernel
theorem dX6_plant_99 : decode cX6_plant 99 = .ok (.bipush 24, 2) := by decide +kernel
theorem dX6_plant_101 : decode cX6_plant 101 = .ok (.iload_n 3, 1) := by decide +kernel
theorem dX6_plant_102 : decode cX6_plant 102 = .ok (.iadd, 1) := by decide +kernel
theorem dX6_plant_103 : decode cX6_plant 103 = .ok (.iload_n 2, 1) := by decide +kernel
theorem dX6_plant_104 : decode cX6_plant 104 = .ok (.iastore, 1) := by decide +kernel
theorem dX6_plant_105 : decode cX6_plant 105 = .ok (.iload_n 3, 1) := by decide +kernel
theorem dX6_plant_106 : decode cX6_plant 106 = .ok (.ireturn, 1) := by decide +kernel
theorem dX6_fell_0 : decode cX6_fell 0 = .ok (.aload_n 0, 1) := by decide +kernel
theorem dX6_fell_1 : decode cX6_fell 1 = .ok (.iconst 0, 1) := by decide +kernel
theorem dX6_fell_2 : decode cX6_fell 2 = .ok (.putfield 129, 3) := by decide +kernel
theorem dX6_fell_5 : decode cX6_fell 5 = .ok (.aload_n 0, 1) := by decide +kernel
theorem dX6_fell_6 : decode cX6_fell 6 = .ok (.iload_n 1, 1) := by decide +kernel
theorem dX6_fell_7 : decode cX6_fell 7 = .ok (.invokevirtual 404, 3) := by decide +kernel
theorem dX6_fell_10 : decode cX6_fell 10 = .ok (.ifCond .ne 5, 3) := by decide +kernel
theorem dX6_fell_13 : decode cX6_fell 13 = .ok (.iconst 0, 1) := by decide +kernel
theorem dX6_fell_14 : decode cX6_fell 14 = .ok (.ireturn, 1) := by decide +kernel
theorem dX6_fell_15 : decode cX6_fell 15 = .ok (.aload_n 0, 1) := by decide +kernel
theorem dX6_fell_16 : decode cX6_fell 16 = .ok (.invokevirtual 416, 3) := by decide +kernel
theorem dX6_fell_19 : decode cX6_fell 19 = .ok (.aload_n 0, 1) := by decide +kernel
theorem dX6_fell_20 : decode cX6_fell 20 = .ok (.getfield 75, 3) := by decide +kernel
theorem dX6_fell_23 : decode cX6_fell 23 = .ok (.iconst 0, 1) := by decide +kernel
theorem dX6_fell_24 : decode cX6_fell 24 = .ok (.iload_n 1, 1) := by decide +kernel
theorem dX6_fell_25 : decode cX6_fell 25 = .ok (.iadd, 1) := by decide +kernel
theorem dX6_fell_26 : decode cX6_fell 26 = .ok (.iaload, 1) := by decide +kernel
theorem dX6_fell_27 : decode cX6_fell 27 = .ok (.istore_n 2, 1) := by decide +kernel
theorem dX6_fell_28 : decode cX6_fell 28 = .ok (.aload_n 0, 1) := by decide +kernel
theorem dX6_fell_29 : decode cX6_fell 29 = .ok (.getfield 75, 3) := by decide +kernel
theorem dX6_fell_32 : decode cX6_fell 32 = .ok (.iconst 0, 1) := by decide +kernel
theorem dX6_fell_33 : decode cX6_fell 33 = .ok (.iload_n 1, 1) := by decide +kernel
theorem dX6_fell_34 : decode cX6_fell 34 = .ok (.iadd, 1) := by decide +kernel
theorem dX6_fell_35 : decode cX6_fell 35 = .ok (.iconst (-1), 1) := by decide +kernel
theorem dX6_fell_36 : decode cX6_fell 36 = .ok (.iastore, 1) := by decide +kernel
theorem dX6_fell_37 : decode cX6_fell 37 = .ok (.iload_n 2, 1) := by decide +kernel
theorem dX6_fell_38 : decode cX6_fell 38 = .ok (.ireturn, 1) := by decide +kernel
theorem dX6_becomes_0 : decode cX6_becomes 0 = .ok (.aload_n 0, 1) := by decide +kernel
theorem dX6_becomes_1 : decode cX6_becomes 1 = .ok (.invokevirtual 416, 3) := by decide +kernel
theorem dX6_becomes_4 : decode cX6_becomes 4 = .ok (.aload_n 0, 1) := by decide +kernel
theorem dX6_becomes_5 : decode cX6_becomes 5 = .ok (.getfield 75, 3) := by decide +kernel
theorem dX6_becomes_8 : decode cX6_becomes 8 = .ok (.iload_n 1, 1) := by decide +kernel
theorem dX6_becomes_9 : decode cX6_becomes 9 = .ok (.iaload, 1) := by decide +kernel
theorem dX6_becomes_10 : decode cX6_becomes 10 = .ok (.istore_n 3, 1) := by decide +kernel
theorem dX6_becomes_11 : decode cX6_becomes 11 = .ok (.aload_n 0, 1) := by decide +kernel
theorem dX6_becomes_12 : decode cX6_becomes 12 = .ok (.getfield 75, 3) := by decide +kernel
theorem dX6_becomes_15 : decode cX6_becomes 15 = .ok (.iload_n 1, 1) := by decide +kernel
theorem dX6_becomes_16 : decode cX6_becomes 16 = .ok (.iload_n 2, 1) := by decide +kernel
theorem dX6_becomes_17 : decode cX6_becomes 17 = .ok (.iastore, 1) := by decide +kernel
theorem dX6_becomes_18 : decode cX6_becomes 18 = .ok (.iload_n 3, 1) := by decide +kernel
theorem dX6_becomes_19 : decode cX6_becomes 19 = .ok (.ireturn, 1) := by decide +kernel
theorem dX6_floor_0 : decode cX6_floor 0 = .ok (.aload_n 0, 1) := by decide +kernel
theorem dX6_floor_1 : decode cX6_floor 1 = .ok (.iconst 0, 1) := by decide +kernel
theorem dX6_floor_2 : decode cX6_floor 2 = .ok (.putfield 129, 3) := by decide +kernel
theorem dX6_floor_5 : decode cX6_floor 5 = .ok (.aload_n 0, 1) := by decide +kernel
theorem dX6_floor_6 : decode cX6_floor 6 = .ok (.iload_n 1, 1) := by decide +kernel
theorem dX6_floor_7 : decode cX6_floor 7 = .ok (.invokevirtual 407, 3) := by decide +kernel
theorem dX6_floor_10 : decode cX6_floor 10 = .ok (.ifCond .ne 5, 3) := by decide +kernel
theorem dX6_floor_13 : decode cX6_floor 13 = .ok (.iconst 0, 1) := by decide +kernel
theorem dX6_floor_14 : decode cX6_floor 14 = .ok (.ireturn, 1) := by decide +kernel
theorem dX6_floor_15 : decode cX6_floor 15 = .ok (.iload_n 2, 1) := by decide +kernel
theorem dX6_floor_16 : decode cX6_floor 16 = .ok (.bipush (-3), 2) := by decide +kernel
theorem dX6_floor_18 : decode cX6_floor 18 = .ok (.iconst 3, 1) := by decide +kernel
theorem dX6_floor_19 : decode cX6_floor 19 = .ok (.invokestatic 385, 3) := by decide +kernel
theorem dX6_floor_22 : decode cX6_floor 22 = .ok (.ifCond .eq 15, 3) := by decide +kernel
theorem dX6_floor_25 : decode cX6_floor 25 = .ok (.aload_n 0, 1) := by decide +kernel
theorem dX6_floor_26 : decode cX6_floor 26 = .ok (.bipush 42, 2) := by decide +kernel
theorem dX6_floor_28 : decode cX6_floor 28 = .ok (.iload_n 1, 1) := by decide +kernel
theorem dX6_floor_29 : decode cX6_floor 29 = .ok (.iadd, 1) := by decide +kernel
theorem dX6_floor_30 : decode cX6_floor 30 = .ok (.iload_n 2, 1) := by decide +kernel
theorem dX6_floor_31 : decode cX6_floor 31 = .ok (.invokevirtual 425, 3) := by decide +kernel
theorem dX6_floor_34 : decode cX6_floor 34 = .ok (.goto 10, 3) := by decide +kernel
theorem dX6_floor_37 : decode cX6_floor 37 = .ok (.aload_n 0, 1) := by decide +kernel
theorem dX6_floor_38 : decode cX6_floor 38 = .ok (.iconst 1, 1) := by decide +kernel
theorem dX6_floor_39 : decode cX6_floor 39 = .ok (.bipush (-9), 2) := by decide +kernel
theorem dX6_floor_41 : decode cX6_floor 41 = .ok (.invokevirtual 413, 3) := by decide +kernel
theorem dX6_floor_44 : decode cX6_floor 44 = .ok (.ireturn, 1) := by decide +kernel
theorem dX6_barn_0 : decode cX6_barn 0 = .ok (.aload_n 0, 1) := by decide +kernel
theorem dX6_barn_1 : decode cX6_barn 1 = .ok (.iconst 0, 1) := by decide +kernel
theorem dX6_barn_2 : decode cX6_barn 2 = .ok (.putfield 129, 3) := by decide +kernel
theorem dX6_barn_5 : decode cX6_barn 5 = .ok (.aload_n 0, 1) := by decide +kernel
theorem dX6_barn_6 : decode cX6_barn 6 = .ok (.iload_n 1, 1) := by decide +kernel
theorem dX6_barn_7 : decode cX6_barn 7 = .ok (.invokevirtual 407, 3) := by decide +kernel
theorem dX6_barn_10 : decode cX6_barn 10 = .ok (.ifCond .ne 5, 3) := by decide +kernel
theorem dX6_barn_13 : decode cX6_barn 13 = .ok (.iconst 0, 1) := by decide +kernel
theorem dX6_barn_14 : decode cX6_barn 14 = .ok (.ireturn, 1) := by decide +kernel
theorem dX6_barn_15 : decode cX6_barn 15 = .ok (.iload_n 2, 1) := by decide +kernel
theorem dX6_barn_16 : decode cX6_barn 16 = .ok (.iconst 0, 1) := by decide +kernel
theorem dX6_barn_17 : decode cX6_barn 17 = .ok (.iconst 5, 1) := by decide +kernel
theorem dX6_barn_18 : decode cX6_barn 18 = .ok (.invokestatic 385, 3) := by decide +kernel
theorem dX6_barn_21 : decode cX6_barn 21 = .ok (.ifCond .eq 15, 3) := by decide +kernel
theorem dX6_barn_24 : decode cX6_barn 24 = .ok (.aload_n 0, 1) := by decide +kernel
theorem dX6_barn_25 : decode cX6_barn 25 = .ok (.bipush 48, 2) := by decide +kernel
theorem dX6_barn_27 : decode cX6_barn 27 = .ok (.iload_n 1, 1) := by decide +kernel
theorem dX6_barn_28 : decode cX6_barn 28 = .ok (.iadd, 1) := by decide +kernel
theorem dX6_barn_29 : decode cX6_barn 29 = .ok (.iload_n 2, 1) := by decide +kernel
theorem dX6_barn_30 : decode cX6_barn 30 = .ok (.invokevirtual 425, 3) := by decide +kernel
theorem dX6_barn_33 : decode cX6_barn 33 = .ok (.goto 9, 3) := by decide +kernel
theorem dX6_barn_36 : decode cX6_barn 36 = .ok (.aload_n 0, 1) := by decide +kernel
theorem dX6_barn_37 : decode cX6_barn 37 = .ok (.iconst 1, 1) := by decide +kernel
theorem dX6_barn_38 : decode cX6_barn 38 = .ok (.iconst (-1), 1) := by decide +kernel
theorem dX6_barn_39 : decode cX6_barn 39 = .ok (.invokevirtual 413, 3) := by decide +kernel
theorem dX6_barn_42 : decode cX6_barn 42 = .ok (.ireturn, 1) := by decide +kernel
theorem dX6_sell_0 : decode cX6_sell 0 = .ok (.aload_n 0, 1) := by decide +kernel
theorem dX6_sell_1 : decode cX6_sell 1 = .ok (.iconst 0, 1) := by decide +kernel
theorem dX6_sell_2 : decode cX6_sell 2 = .ok (.putfield 129, 3) := by decide +kernel
theorem dX6_sell_5 : decode cX6_sell 5 = .ok (.aload_n 0, 1) := by decide +kernel
theorem dX6_sell_6 : decode cX6_sell 6 = .ok (.iload_n 1, 1) := by decide +kernel
theorem dX6_sell_7 : decode cX6_sell 7 = .ok (.invokevirtual 407, 3) := by decide +kernel
theorem dX6_sell_10 : decode cX6_sell 10 = .ok (.ifCond .eq 13, 3) := by decide +kernel
theorem dX6_sell_13 : decode cX6_sell 13 = .ok (.aload_n 0, 1) := by decide +kernel
theorem dX6_sell_14 : decode cX6_sell 14 = .ok (.iload_n 2, 1) := by decide +kernel
theorem dX6_sell_15 : decode cX6_sell 15 = .ok (.bipush 7, 2) := by decide +kernel
theorem dX6_sell_17 : decode cX6_sell 17 = .ok (.invokevirtual 398, 3) := by decide +kernel
theorem dX6_sell_20 : decode cX6_sell 20 = .ok (.ifCond .ne 5, 3) := by decide +kernel
theorem dX6_sell_23 : decode cX6_sell 23 = .ok (.iconst 0, 1) := by decide +kernel
theorem dX6_sell_24 : decode cX6_sell 24 = .ok (.ireturn, 1) := by decide +kernel
theorem dX6_sell_25 : decode cX6_sell 25 = .ok (.aload_n 0, 1) := by decide +kernel
theorem dX6_sell_26 : decode cX6_sell 26 = .ok (.getfield 75, 3) := by decide +kernel
theorem dX6_sell_29 : decode cX6_sell 29 = .ok (.bipush 54, 2) := by decide +kernel
theorem dX6_sell_31 : decode cX6_sell 31 = .ok (.iload_n 1, 1) := by decide +kernel
theorem dX6_sell_32 : decode cX6_sell 32 = .ok (.iadd, 1) := by decide +kernel
theorem dX6_sell_33 : decode cX6_sell 33 = .ok (.iaload, 1) := by decide +kernel
theorem dX6_sell_34 : decode cX6_sell 34 = .ok (.iload_n 2, 1) := by decide +kernel
theorem dX6_sell_35 : decode cX6_sell 35 = .ok (.ishr, 1) := by decide +kernel
theorem dX6_sell_36 : decode cX6_sell 36 = .ok (.iconst 1, 1) := by decide +kernel
theorem dX6_sell_37 : decode cX6_sell 37 = .ok (.iand, 1) := by decide +kernel
theorem dX6_sell_38 : decode cX6_sell 38 = .ok (.iconst 1, 1) := by decide +kernel
theorem dX6_sell_39 : decode cX6_sell 39 = .ok (.if_icmp .ne 18, 3) := by decide +kernel
theorem dX6_sell_42 : decode cX6_sell 42 = .ok (.aload_n 0, 1) := by decide +kernel
theorem dX6_sell_43 : decode cX6_sell 43 = .ok (.iconst 1, 1) := by decide +kernel
theorem dX6_sell_44 : decode cX6_sell 44 = .ok (.iconst 0, 1) := by decide +kernel
theorem dX6_sell_45 : decode cX6_sell 45 = .ok (.invokevirtual 413, 3) := by decide +kernel
theorem dX6_sell_48 : decode cX6_sell 48 = .ok (.ifCond .le 7, 3) := by decide +kernel
theorem dX6_sell_51 : decode cX6_sell 51 = .ok (.iconst 1, 1) := by decide +kernel
theorem dX6_sell_52 : decode cX6_sell 52 = .ok (.goto 4, 3) := by decide +kernel
theorem dX6_sell_55 : decode cX6_sell 55 = .ok (.iconst 0, 1) := by decide +kernel
theorem dX6_sell_56 : decode cX6_sell 56 = .ok (.ireturn, 1) := by decide +kernel
theorem dX6_sell_57 : decode cX6_sell 57 = .ok (.aload_n 0, 1) := by decide +kernel
theorem dX6_sell_58 : decode cX6_sell 58 = .ok (.bipush 54, 2) := by decide +kernel
theorem dX6_sell_60 : decode cX6_sell 60 = .ok (.iload_n 1, 1) := by decide +kernel
theorem dX6_sell_61 : decode cX6_sell 61 = .ok (.iadd, 1) := by decide +kernel
theorem dX6_sell_62 : decode cX6_sell 62 = .ok (.aload_n 0, 1) := by decide +kernel
theorem dX6_sell_63 : decode cX6_sell 63 = .ok (.getfield 75, 3) := by decide +kernel
theorem dX6_sell_66 : decode cX6_sell 66 = .ok (.bipush 54, 2) := by decide +kernel
theorem dX6_sell_68 : decode cX6_sell 68 = .ok (.iload_n 1, 1) := by decide +kernel
theorem dX6_sell_69 : decode cX6_sell 69 = .ok (.iadd, 1) := by decide +kernel
theorem dX6_sell_70 : decode cX6_sell 70 = .ok (.iaload, 1) := by decide +kernel
theorem dX6_sell_71 : decode cX6_sell 71 = .ok (.iconst 1, 1) := by decide +kernel
theorem dX6_sell_72 : decode cX6_sell 72 = .ok (.iload_n 2, 1) := by decide +kernel
theorem dX6_sell_73 : decode cX6_sell 73 = .ok (.ishl, 1) := by decide +kernel
theorem dX6_sell_74 : decode cX6_sell 74 = .ok (.ior, 1) := by decide +kernel
theorem dX6_sell_75 : decode cX6_sell 75 = .ok (.invokevirtual 425, 3) := by decide +kernel
theorem dX6_sell_78 : decode cX6_sell 78 = .ok (.pop, 1) := by decide +kernel
theorem dX6_sell_79 : decode cX6_sell 79 = .ok (.iconst 1, 1) := by decide +kernel
theorem dX6_sell_80 : decode cX6_sell 80 = .ok (.ireturn, 1) := by decide +kernel
theorem dX6_obey_0 : decode cX6_obey 0 = .ok (.aload_n 0, 1) := by decide +kernel
theorem dX6_obey_1 : decode cX6_obey 1 = .ok (.iconst 0, 1) := by decide +kernel
theorem dX6_obey_2 : decode cX6_obey 2 = .ok (.putfield 129, 3) := by decide +kernel
theorem dX6_obey_5 : decode cX6_obey 5 = .ok (.iload_n 1, 1) := by decide +kernel
theorem dX6_obey_6 : decode cX6_obey 6 = .ok (.iconst (-1), 1) := by decide +kernel
theorem dX6_obey_7 : decode cX6_obey 7 = .ok (.if_icmp .lt 11, 3) := by decide +kernel
theorem dX6_obey_10 : decode cX6_obey 10 = .ok (.iload_n 1, 1) := by decide +kernel
theorem dX6_obey_11 : decode cX6_obey 11 = .ok (.aload_n 0, 1) := by decide +kernel
theorem dX6_obey_12 : decode cX6_obey 12 = .ok (.getfield 300, 3) := by decide +kernel
theorem dX6_obey_15 : decode cX6_obey 15 = .ok (.if_icmp .lt 18, 3) := by decide +kernel
theorem dX6_obey_18 : decode cX6_obey 18 = .ok (.aload_n 0, 1) := by decide +kernel
theorem dX6_obey_19 : decode cX6_obey 19 = .ok (.iconst 1, 1) := by decide +kernel
theorem dX6_obey_20 : decode cX6_obey 20 = .ok (.iconst 0, 1) := by decide +kernel
theorem dX6_obey_21 : decode cX6_obey 21 = .ok (.invokevirtual 413, 3) := by decide +kernel
theorem dX6_obey_24 : decode cX6_obey 24 = .ok (.ifCond .le 7, 3) := by decide +kernel
theorem dX6_obey_27 : decode cX6_obey 27 = .ok (.iconst 1, 1) := by decide +kernel
theorem dX6_obey_28 : decode cX6_obey 28 = .ok (.goto 4, 3) := by decide +kernel
theorem dX6_obey_31 : decode cX6_obey 31 = .ok (.iconst 0, 1) := by decide +kernel
theorem dX6_obey_32 : decode cX6_obey 32 = .ok (.ireturn, 1) := by decide +kernel
theorem dX6_obey_33 : decode cX6_obey 33 = .ok (.aload_n 0, 1) := by decide +kernel
theorem dX6_obey_34 : decode cX6_obey 34 = .ok (.bipush 60, 2) := by decide +kernel
theorem dX6_obey_36 : decode cX6_obey 36 = .ok (.iload_n 1, 1) := by decide +kernel
theorem dX6_obey_37 : decode cX6_obey 37 = .ok (.invokevirtual 425, 3) := by decide +kernel
theorem dX6_obey_40 : decode cX6_obey 40 = .ok (.pop, 1) := by decide +kernel
theorem dX6_obey_41 : decode cX6_obey 41 = .ok (.iconst 1, 1) := by decide +kernel
theorem dX6_obey_42 : decode cX6_obey 42 = .ok (.ireturn, 1) := by decide +kernel
theorem dX6_arePaying_0 : decode cX6_arePaying 0 = .ok (.aload_n 0, 1) := by decide +kernel
theorem dX6_arePaying_1 : decode cX6_arePaying 1 = .ok (.invokevirtual 379, 3) := by decide +kernel
theorem dX6_arePaying_4 : decode cX6_arePaying 4 = .ok (.iconst 0, 1) := by decide +kernel
theorem dX6_arePaying_5 : decode cX6_arePaying 5 = .ok (.istore_n 3, 1) := by decide +kernel
theorem dX6_arePaying_6 : decode cX6_arePaying 6 = .ok (.iload_n 3, 1) := by decide +kernel
theorem dX6_arePaying_7 : decode cX6_arePaying 7 = .ok (.aload_n 0, 1) := by decide +kernel
theorem dX6_arePaying_8 : decode cX6_arePaying 8 = .ok (.getfield 297, 3) := by decide +kernel
theorem dX6_arePaying_11 : decode cX6_arePaying 11 = .ok (.if_icmp .ge 29, 3) := by decide +kernel
theorem dX6_arePaying_14 : decode cX6_arePaying 14 = .ok (.iload_n 1, 1) := by decide +kernel
theorem dX6_arePaying_15 : decode cX6_arePaying 15 = .ok (.iload_n 3, 1) := by decide +kernel
theorem dX6_arePaying_16 : decode cX6_arePaying 16 = .ok (.ishr, 1) := by decide +kernel
theorem dX6_arePaying_17 : decode cX6_arePaying 17 = .ok (.iconst 1, 1) := by decide +kernel
theorem dX6_arePaying_18 : decode cX6_arePaying 18 = .ok (.iand, 1) := by decide +kernel
theorem dX6_arePaying_19 : decode cX6_arePaying 19 = .ok (.iconst 1, 1) := by decide +kernel
theorem dX6_arePaying_20 : decode cX6_arePaying 20 = .ok (.if_icmp .ne 14, 3) := by decide +kernel
theorem dX6_arePaying_23 : decode cX6_arePaying 23 = .ok (.aload_n 0, 1) := by decide +kernel
theorem dX6_arePaying_24 : decode cX6_arePaying 24 = .ok (.iload_n 3, 1) := by decide +kernel
theorem dX6_arePaying_25 : decode cX6_arePaying 25 = .ok (.invokevirtual 410, 3) := by decide +kernel
theorem dX6_arePaying_28 : decode cX6_arePaying 28 = .ok (.iload_n 2, 1) := by decide +kernel
theorem dX6_arePaying_29 : decode cX6_arePaying 29 = .ok (.if_icmp .le 5, 3) := by decide +kernel
theorem dX6_arePaying_32 : decode cX6_arePaying 32 = .ok (.iconst 0, 1) := by decide +kernel
theorem dX6_arePaying_33 : decode cX6_arePaying 33 = .ok (.ireturn, 1) := by decide +kernel
theorem dX6_arePaying_34 : decode cX6_arePaying 34 = .ok (.iinc 3 1, 3) := by decide +kernel
theorem dX6_arePaying_37 : decode cX6_arePaying 37 = .ok (.goto (-31), 3) := by decide +kernel
theorem dX6_arePaying_40 : decode cX6_arePaying 40 = .ok (.iconst 1, 1) := by decide +kernel
theorem dX6_arePaying_41 : decode cX6_arePaying 41 = .ok (.ireturn, 1) := by decide +kernel
theorem dX6_firsFor_0 : decode cX6_firsFor 0 = .ok (.aload_n 0, 1) := by decide +kernel
theorem dX6_firsFor_1 : decode cX6_firsFor 1 = .ok (.iload_n 1, 1) := by decide +kernel
theorem dX6_firsFor_2 : decode cX6_firsFor 2 = .ok (.iload_n 2, 1) := by decide +kernel
theorem dX6_firsFor_3 : decode cX6_firsFor 3 = .ok (.invokevirtual 428, 3) := by decide +kernel
theorem dX6_firsFor_6 : decode cX6_firsFor 6 = .ok (.ifCond .eq 5, 3) := by decide +kernel
theorem dX6_firsFor_9 : decode cX6_firsFor 9 = .ok (.iconst 0, 1) := by decide +kernel
theorem dX6_firsFor_10 : decode cX6_firsFor 10 = .ok (.ireturn, 1) := by decide +kernel
theorem dX6_firsFor_11 : decode cX6_firsFor 11 = .ok (.iconst 0, 1) := by decide +kernel
theorem dX6_firsFor_12 : decode cX6_firsFor 12 = .ok (.istore_n 3, 1) := by decide +kernel
theorem dX6_firsFor_13 : decode cX6_firsFor 13 = .ok (.iload_n 3, 1) := by decide +kernel
theorem dX6_firsFor_14 : decode cX6_firsFor 14 = .ok (.aload_n 0, 1) := by decide +kernel
theorem dX6_firsFor_15 : decode cX6_firsFor 15 = .ok (.invokevirtual 323, 3) := by decide +kernel
theorem dX6_firsFor_18 : decode cX6_firsFor 18 = .ok (.if_icmp .ge 33, 3) := by decide +kernel
theorem dX6_firsFor_21 : decode cX6_firsFor 21 = .ok (.aload_n 0, 1) := by decide +kernel
theorem dX6_firsFor_22 : decode cX6_firsFor 22 = .ok (.iload_n 3, 1) := by decide +kernel
theorem dX6_firsFor_23 : decode cX6_firsFor 23 = .ok (.putfield 90, 3) := by decide +kernel
theorem dX6_firsFor_26 : decode cX6_firsFor 26 = .ok (.aload_n 0, 1) := by decide +kernel
theorem dX6_firsFor_27 : decode cX6_firsFor 27 = .ok (.iload_n 3, 1) := by decide +kernel
theorem dX6_firsFor_28 : decode cX6_firsFor 28 = .ok (.invokevirtual 422, 3) := by decide +kernel
theorem dX6_firsFor_31 : decode cX6_firsFor 31 = .ok (.ifCond .eq 14, 3) := by decide +kernel
theorem dX6_firsFor_34 : decode cX6_firsFor 34 = .ok (.aload_n 0, 1) := by decide +kernel
theorem dX6_firsFor_35 : decode cX6_firsFor 35 = .ok (.iload_n 1, 1) := by decide +kernel
theorem dX6_firsFor_36 : decode cX6_firsFor 36 = .ok (.iload_n 2, 1) := by decide +kernel
theorem dX6_firsFor_37 : decode cX6_firsFor 37 = .ok (.invokevirtual 428, 3) := by decide +kernel
theorem dX6_firsFor_40 : decode cX6_firsFor 40 = .ok (.ifCond .eq 5, 3) := by decide +kernel
theorem dX6_firsFor_43 : decode cX6_firsFor 43 = .ok (.iconst 1, 1) := by decide +kernel
theorem dX6_firsFor_44 : decode cX6_firsFor 44 = .ok (.ireturn, 1) := by decide +kernel
theorem dX6_firsFor_45 : decode cX6_firsFor 45 = .ok (.iinc 3 1, 3) := by decide +kernel
theorem dX6_firsFor_48 : decode cX6_firsFor 48 = .ok (.goto (-35), 3) := by decide +kernel
theorem dX6_firsFor_51 : decode cX6_firsFor 51 = .ok (.iconst 0, 1) := by decide +kernel
theorem dX6_firsFor_52 : decode cX6_firsFor 52 = .ok (.istore_n 3, 1) := by decide +kernel
theorem dX6_firsFor_53 : decode cX6_firsFor 53 = .ok (.iload_n 3, 1) := by decide +kernel
theorem dX6_firsFor_54 : decode cX6_firsFor 54 = .ok (.aload_n 0, 1) := by decide +kernel
theorem dX6_firsFor_55 : decode cX6_firsFor 55 = .ok (.invokevirtual 323, 3) := by decide +kernel
theorem dX6_firsFor_58 : decode cX6_firsFor 58 = .ok (.if_icmp .ge 68, 3) := by decide +kernel
theorem dX6_firsFor_61 : decode cX6_firsFor 61 = .ok (.iload_n 3, 1) := by decide +kernel
theorem dX6_firsFor_62 : decode cX6_firsFor 62 = .ok (.iconst 1, 1) := by decide +kernel
theorem dX6_firsFor_63 : decode cX6_firsFor 63 = .ok (.iadd, 1) := by decide +kernel
theorem dX6_firsFor_64 : decode cX6_firsFor 64 = .ok (.istore 4, 2) := by decide +kernel
theorem dX6_firsFor_66 : decode cX6_firsFor 66 = .ok (.iload 4, 2) := by decide +kernel
theorem dX6_firsFor_68 : decode cX6_firsFor 68 = .ok (.aload_n 0, 1) := by decide +kernel
theorem dX6_firsFor_69 : decode cX6_firsFor 69 = .ok (.invokevirtual 323, 3) := by decide +kernel
theorem dX6_firsFor_72 : decode cX6_firsFor 72 = .ok (.if_icmp .ge 48, 3) := by decide +kernel
theorem dX6_firsFor_75 : decode cX6_firsFor 75 = .ok (.aload_n 0, 1) := by decide +kernel
theorem dX6_firsFor_76 : decode cX6_firsFor 76 = .ok (.iload_n 3, 1) := by decide +kernel
theorem dX6_firsFor_77 : decode cX6_firsFor 77 = .ok (.invokevirtual 422, 3) := by decide +kernel
theorem dX6_firsFor_80 : decode cX6_firsFor 80 = .ok (.ifCond .eq 40, 3) := by decide +kernel
theorem dX6_firsFor_83 : decode cX6_firsFor 83 = .ok (.aload_n 0, 1) := by decide +kernel
theorem dX6_firsFor_84 : decode cX6_firsFor 84 = .ok (.iload_n 3, 1) := by decide +kernel
theorem dX6_firsFor_85 : decode cX6_firsFor 85 = .ok (.putfield 90, 3) := by decide +kernel
theorem dX6_firsFor_88 : decode cX6_firsFor 88 = .ok (.aload_n 0, 1) := by decide +kernel
theorem dX6_firsFor_89 : decode cX6_firsFor 89 = .ok (.iload 4, 2) := by decide +kernel
theorem dX6_firsFor_91 : decode cX6_firsFor 91 = .ok (.putfield 93, 3) := by decide +kernel
theorem dX6_firsFor_94 : decode cX6_firsFor 94 = .ok (.aload_n 0, 1) := by decide +kernel
theorem dX6_firsFor_95 : decode cX6_firsFor 95 = .ok (.iload 4, 2) := by decide +kernel
theorem dX6_firsFor_97 : decode cX6_firsFor 97 = .ok (.invokevirtual 422, 3) := by decide +kernel
theorem dX6_firsFor_100 : decode cX6_firsFor 100 = .ok (.ifCond .eq 14, 3) := by decide +kernel
theorem dX6_firsFor_103 : decode cX6_firsFor 103 = .ok (.aload_n 0, 1) := by decide +kernel
theorem dX6_firsFor_104 : decode cX6_firsFor 104 = .ok (.iload_n 1, 1) := by decide +kernel
theorem dX6_firsFor_105 : decode cX6_firsFor 105 = .ok (.iload_n 2, 1) := by decide +kernel
theorem dX6_firsFor_106 : decode cX6_firsFor 106 = .ok (.invokevirtual 428, 3) := by decide +kernel
theorem dX6_firsFor_109 : decode cX6_firsFor 109 = .ok (.ifCond .eq 5, 3) := by decide +kernel
theorem dX6_firsFor_112 : decode cX6_firsFor 112 = .ok (.iconst 2, 1) := by decide +kernel
theorem dX6_firsFor_113 : decode cX6_firsFor 113 = .ok (.ireturn, 1) := by decide +kernel
theorem dX6_firsFor_114 : decode cX6_firsFor 114 = .ok (.iinc 4 1, 3) := by decide +kernel
theorem dX6_firsFor_117 : decode cX6_firsFor 117 = .ok (.goto (-51), 3) := by decide +kernel
theorem dX6_firsFor_120 : decode cX6_firsFor 120 = .ok (.iinc 3 1, 3) := by decide +kernel
theorem dX6_firsFor_123 : decode cX6_firsFor 123 = .ok (.goto (-70), 3) := by decide +kernel
theorem dX6_firsFor_126 : decode cX6_firsFor 126 = .ok (.iconst (-1), 1) := by decide +kernel
theorem dX6_firsFor_127 : decode cX6_firsFor 127 = .ok (.ireturn, 1) := by decide +kernel
theorem dX6_firs_0 : decode cX6_firs 0 = .ok (.aload_n 0, 1) := by decide +kernel
theorem dX6_firs_1 : decode cX6_firs 1 = .ok (.iconst 0, 1) := by decide +kernel
theorem dX6_firs_2 : decode cX6_firs 2 = .ok (.putfield 129, 3) := by decide +kernel
theorem dX6_firs_5 : decode cX6_firs 5 = .ok (.aload_n 0, 1) := by decide +kernel
theorem dX6_firs_6 : decode cX6_firs 6 = .ok (.iload_n 1, 1) := by decide +kernel
theorem dX6_firs_7 : decode cX6_firs 7 = .ok (.ifCond .lt 28, 3) := by decide +kernel
theorem dX6_firs_10 : decode cX6_firs 10 = .ok (.iload_n 1, 1) := by decide +kernel
theorem dX6_firs_11 : decode cX6_firs 11 = .ok (.iconst 1, 1) := by decide +kernel
theorem dX6_firs_12 : decode cX6_firs 12 = .ok (.aload_n 0, 1) := by decide +kernel
theorem dX6_firs_13 : decode cX6_firs 13 = .ok (.getfield 297, 3) := by decide +kernel
theorem dX6_firs_16 : decode cX6_firs 16 = .ok (.ishl, 1) := by decide +kernel
theorem dX6_firs_17 : decode cX6_firs 17 = .ok (.if_icmp .ge 18, 3) := by decide +kernel
theorem dX6_firs_20 : decode cX6_firs 20 = .ok (.iload_n 2, 1) := by decide +kernel
theorem dX6_firs_21 : decode cX6_firs 21 = .ok (.iconst 0, 1) := by decide +kernel
theorem dX6_firs_22 : decode cX6_firs 22 = .ok (.sipush 999, 3) := by decide +kernel
theorem dX6_firs_25 : decode cX6_firs 25 = .ok (.invokestatic 385, 3) := by decide +kernel
theorem dX6_firs_28 : decode cX6_firs 28 = .ok (.ifCond .eq 7, 3) := by decide +kernel
theorem dX6_firs_31 : decode cX6_firs 31 = .ok (.iconst 1, 1) := by decide +kernel
theorem dX6_firs_32 : decode cX6_firs 32 = .ok (.goto 4, 3) := by decide +kernel
theorem dX6_firs_35 : decode cX6_firs 35 = .ok (.iconst 0, 1) := by decide +kernel
theorem dX6_firs_36 : decode cX6_firs 36 = .ok (.iconst 1, 1) := by decide +kernel
theorem dX6_firs_37 : decode cX6_firs 37 = .ok (.invokevirtual 290, 3) := by decide +kernel
theorem dX6_firs_40 : decode cX6_firs 40 = .ok (.ifCond .ne 5, 3) := by decide +kernel
theorem dX6_firs_43 : decode cX6_firs 43 = .ok (.iconst 0, 1) := by decide +kernel
theorem dX6_firs_44 : decode cX6_firs 44 = .ok (.ireturn, 1) := by decide +kernel
theorem dX6_firs_45 : decode cX6_firs 45 = .ok (.aload_n 0, 1) := by decide +kernel
theorem dX6_firs_46 : decode cX6_firs 46 = .ok (.iload_n 1, 1) := by decide +kernel
theorem dX6_firs_47 : decode cX6_firs 47 = .ok (.iload_n 2, 1) := by decide +kernel
theorem dX6_firs_48 : decode cX6_firs 48 = .ok (.invokevirtual 431, 3) := by decide +kernel
theorem dX6_firs_51 : decode cX6_firs 51 = .ok (.istore_n 3, 1) := by decide +kernel
theorem dX6_firs_52 : decode cX6_firs 52 = .ok (.iload_n 3, 1) := by decide +kernel
theorem dX6_firs_53 : decode cX6_firs 53 = .ok (.iconst (-1), 1) := by decide +kernel
theorem dX6_firs_54 : decode cX6_firs 54 = .ok (.if_icmp .eq 28, 3) := by decide +kernel
theorem dX6_firs_57 : decode cX6_firs 57 = .ok (.aload_n 0, 1) := by decide +kernel
theorem dX6_firs_58 : decode cX6_firs 58 = .ok (.iload_n 3, 1) := by decide +kernel
theorem dX6_firs_59 : decode cX6_firs 59 = .ok (.putfield 102, 3) := by decide +kernel
theorem dX6_firs_62 : decode cX6_firs 62 = .ok (.aload_n 0, 1) := by decide +kernel
theorem dX6_firs_63 : decode cX6_firs 63 = .ok (.getfield 105, 3) := by decide +kernel
theorem dX6_firs_66 : decode cX6_firs 66 = .ok (.iconst 0, 1) := by decide +kernel
theorem dX6_firs_67 : decode cX6_firs 67 = .ok (.aload_n 0, 1) := by decide +kernel
theorem dX6_firs_68 : decode cX6_firs 68 = .ok (.getfield 90, 3) := by decide +kernel
theorem dX6_firs_71 : decode cX6_firs 71 = .ok (.iastore, 1) := by decide +kernel
theorem dX6_firs_72 : decode cX6_firs 72 = .ok (.aload_n 0, 1) := by decide +kernel
theorem dX6_firs_73 : decode cX6_firs 73 = .ok (.getfield 105, 3) := by decide +kernel
theorem dX6_firs_76 : decode cX6_firs 76 = .ok (.iconst 1, 1) := by decide +kernel
theorem dX6_firs_77 : decode cX6_firs 77 = .ok (.aload_n 0, 1) := by decide +kernel
theorem dX6_firs_78 : decode cX6_firs 78 = .ok (.getfield 93, 3) := by decide +kernel
theorem dX6_firs_81 : decode cX6_firs 81 = .ok (.iastore, 1) := by decide +kernel
theorem dX6_firs_82 : decode cX6_firs 82 = .ok (.aload_n 0, 1) := by decide +kernel
theorem dX6_firs_83 : decode cX6_firs 83 = .ok (.iconst (-1), 1) := by decide +kernel
theorem dX6_firs_84 : decode cX6_firs 84 = .ok (.putfield 90, 3) := by decide +kernel
theorem dX6_firs_87 : decode cX6_firs 87 = .ok (.aload_n 0, 1) := by decide +kernel
theorem dX6_firs_88 : decode cX6_firs 88 = .ok (.iconst (-1), 1) := by decide +kernel
theorem dX6_firs_89 : decode cX6_firs 89 = .ok (.putfield 93, 3) := by decide +kernel
theorem dX6_firs_92 : decode cX6_firs 92 = .ok (.iload_n 3, 1) := by decide +kernel
theorem dX6_firs_93 : decode cX6_firs 93 = .ok (.ireturn, 1) := by decide +kernel
theorem dX6_fir_0 : decode cX6_fir 0 = .ok (.aload_n 0, 1) := by decide +kernel
theorem dX6_fir_1 : decode cX6_fir 1 = .ok (.iconst 0, 1) := by decide +kernel
theorem dX6_fir_2 : decode cX6_fir 2 = .ok (.putfield 129, 3) := by decide +kernel
theorem dX6_fir_5 : decode cX6_fir 5 = .ok (.aload_n 0, 1) := by decide +kernel
theorem dX6_fir_6 : decode cX6_fir 6 = .ok (.aload_n 0, 1) := by decide +kernel
theorem dX6_fir_7 : decode cX6_fir 7 = .ok (.getfield 102, 3) := by decide +kernel
theorem dX6_fir_10 : decode cX6_fir 10 = .ok (.iconst (-1), 1) := by decide +kernel
theorem dX6_fir_11 : decode cX6_fir 11 = .ok (.if_icmp .eq 19, 3) := by decide +kernel
theorem dX6_fir_14 : decode cX6_fir 14 = .ok (.iload_n 1, 1) := by decide +kernel
theorem dX6_fir_15 : decode cX6_fir 15 = .ok (.ifCond .lt 15, 3) := by decide +kernel
theorem dX6_fir_18 : decode cX6_fir 18 = .ok (.iload_n 1, 1) := by decide +kernel
theorem dX6_fir_19 : decode cX6_fir 19 = .ok (.aload_n 0, 1) := by decide +kernel
theorem dX6_fir_20 : decode cX6_fir 20 = .ok (.getfield 102, 3) := by decide +kernel
theorem dX6_fir_23 : decode cX6_fir 23 = .ok (.if_icmp .ge 7, 3) := by decide +kernel
theorem dX6_fir_26 : decode cX6_fir 26 = .ok (.iconst 1, 1) := by decide +kernel
theorem dX6_fir_27 : decode cX6_fir 27 = .ok (.goto 4, 3) := by decide +kernel
theorem dX6_fir_30 : decode cX6_fir 30 = .ok (.iconst 0, 1) := by decide +kernel
theorem dX6_fir_31 : decode cX6_fir 31 = .ok (.iconst 1, 1) := by decide +kernel
theorem dX6_fir_32 : decode cX6_fir 32 = .ok (.invokevirtual 290, 3) := by decide +kernel
theorem dX6_fir_35 : decode cX6_fir 35 = .ok (.ifCond .eq 12, 3) := by decide +kernel
theorem dX6_fir_38 : decode cX6_fir 38 = .ok (.aload_n 0, 1) := by decide +kernel
theorem dX6_fir_39 : decode cX6_fir 39 = .ok (.getfield 105, 3) := by decide +kernel
theorem dX6_fir_42 : decode cX6_fir 42 = .ok (.iload_n 1, 1) := by decide +kernel
theorem dX6_fir_43 : decode cX6_fir 43 = .ok (.iaload, 1) := by decide +kernel
theorem dX6_fir_44 : decode cX6_fir 44 = .ok (.goto 4, 3) := by decide +kernel
theorem dX6_fir_47 : decode cX6_fir 47 = .ok (.iconst 0, 1) := by decide +kernel
theorem dX6_fir_48 : decode cX6_fir 48 = .ok (.ireturn, 1) := by decide +kernel
theorem dX6_spades_0 : decode cX6_spades 0 = .ok (.aload_n 0, 1) := by decide +kernel
theorem dX6_spades_1 : decode cX6_spades 1 = .ok (.iconst 0, 1) := by decide +kernel
theorem dX6_spades_2 : decode cX6_spades 2 = .ok (.putfield 129, 3) := by decide +kernel
theorem dX6_spades_5 : decode cX6_spades 5 = .ok (.aload_n 0, 1) := by decide +kernel
theorem dX6_spades_6 : decode cX6_spades 6 = .ok (.iload_n 1, 1) := by decide +kernel
theorem dX6_spades_7 : decode cX6_spades 7 = .ok (.invokevirtual 407, 3) := by decide +kernel
theorem dX6_spades_10 : decode cX6_spades 10 = .ok (.ifCond .eq 19, 3) := by decide +kernel
theorem dX6_spades_13 : decode cX6_spades 13 = .ok (.aload_n 0, 1) := by decide +kernel
theorem dX6_spades_14 : decode cX6_spades 14 = .ok (.iload_n 2, 1) := by decide +kernel
theorem dX6_spades_15 : decode cX6_spades 15 = .ok (.iconst 0, 1) := by decide +kernel
theorem dX6_spades_16 : decode cX6_spades 16 = .ok (.sipush 999, 3) := by decide +kernel
theorem dX6_spades_19 : decode cX6_spades 19 = .ok (.invokestatic 385, 3) := by decide +kernel
theorem dX6_spades_22 : decode cX6_spades 22 = .ok (.iconst 2, 1) := by decide +kernel
theorem dX6_spades_23 : decode cX6_spades 23 = .ok (.invokevirtual 290, 3) := by decide +kernel
theorem dX6_spades_26 : decode cX6_spades 26 = .ok (.ifCond .ne 5, 3) := by decide +kernel
theorem dX6_spades_29 : decode cX6_spades 29 = .ok (.iconst 0, 1) := by decide +kernel
theorem dX6_spades_30 : decode cX6_spades 30 = .ok (.ireturn, 1) := by decide +kernel
theorem dX6_spades_31 : decode cX6_spades 31 = .ok (.aload_n 0, 1) := by decide +kernel
theorem dX6_spades_32 : decode cX6_spades 32 = .ok (.getfield 75, 3) := by decide +kernel
theorem dX6_spades_35 : decode cX6_spades 35 = .ok (.bipush 42, 2) := by decide +kernel
theorem dX6_spades_37 : decode cX6_spades 37 = .ok (.iload_n 1, 1) := by decide +kernel
theorem dX6_spades_38 : decode cX6_spades 38 = .ok (.iadd, 1) := by decide +kernel
theorem dX6_spades_39 : decode cX6_spades 39 = .ok (.iaload, 1) := by decide +kernel
theorem dX6_spades_40 : decode cX6_spades 40 = .ok (.istore_n 3, 1) := by decide +kernel
theorem dX6_spades_41 : decode cX6_spades 41 = .ok (.iconst (-1), 1) := by decide +kernel
theorem dX6_spades_42 : decode cX6_spades 42 = .ok (.istore 4, 2) := by decide +kernel
theorem dX6_spades_44 : decode cX6_spades 44 = .ok (.aload_n 0, 1) := by decide +kernel
theorem dX6_spades_45 : decode cX6_spades 45 = .ok (.invokevirtual 379, 3) := by decide +kernel
theorem dX6_spades_48 : decode cX6_spades 48 = .ok (.iload_n 3, 1) := by decide +kernel
theorem dX6_spades_49 : decode cX6_spades 49 = .ok (.iconst 3, 1) := by decide +kernel
theorem dX6_spades_50 : decode cX6_spades 50 = .ok (.iadd, 1) := by decide +kernel
theorem dX6_spades_51 : decode cX6_spades 51 = .ok (.istore 5, 2) := by decide +kernel
theorem dX6_spades_53 : decode cX6_spades 53 = .ok (.iload 5, 2) := by decide +kernel
theorem dX6_spades_55 : decode cX6_spades 55 = .ok (.ifCond .lt 40, 3) := by decide +kernel
theorem dX6_spades_58 : decode cX6_spades 58 = .ok (.aload_n 0, 1) := by decide +kernel
theorem dX6_spades_59 : decode cX6_spades 59 = .ok (.getfield 75, 3) := by decide +kernel
theorem dX6_spades_62 : decode cX6_spades 62 = .ok (.bipush 42, 2) := by decide +kernel
theorem dX6_spades_64 : decode cX6_spades 64 = .ok (.iload_n 1, 1) := by decide +kernel
theorem dX6_spades_65 : decode cX6_spades 65 = .ok (.iadd, 1) := by decide +kernel
theorem dX6_spades_66 : decode cX6_spades 66 = .ok (.iload_n 3, 1) := by decide +kernel
theorem dX6_spades_67 : decode cX6_spades 67 = .ok (.iload 5, 2) := by decide +kernel
theorem dX6_spades_69 : decode cX6_spades 69 = .ok (.isub, 1) := by decide +kernel
theorem dX6_spades_70 : decode cX6_spades 70 = .ok (.iastore, 1) := by decide +kernel
theorem dX6_spades_71 : decode cX6_spades 71 = .ok (.aload_n 0, 1) := by decide +kernel
theorem dX6_spades_72 : decode cX6_spades 72 = .ok (.iload_n 1, 1) := by decide +kernel
theorem dX6_spades_73 : decode cX6_spades 73 = .ok (.invokevirtual 410, 3) := by decide +kernel
theorem dX6_spades_76 : decode cX6_spades 76 = .ok (.iload_n 2, 1) := by decide +kernel
theorem dX6_spades_77 : decode cX6_spades 77 = .ok (.if_icmp .gt 8, 3) := by decide +kernel
theorem dX6_spades_80 : decode cX6_spades 80 = .ok (.iload 5, 2) := by decide +kernel
theorem dX6_spades_82 : decode cX6_spades 82 = .ok (.goto 5, 3) := by decide +kernel
theorem dX6_spades_85 : decode cX6_spades 85 = .ok (.iload 4, 2) := by decide +kernel
theorem dX6_spades_87 : decode cX6_spades 87 = .ok (.istore 4, 2) := by decide +kernel
theorem dX6_spades_89 : decode cX6_spades 89 = .ok (.iinc 5 (-1), 3) := by decide +kernel
theorem dX6_spades_92 : decode cX6_spades 92 = .ok (.goto (-39), 3) := by decide +kernel
theorem dX6_spades_95 : decode cX6_spades 95 = .ok (.aload_n 0, 1) := by decide +kernel
theorem dX6_spades_96 : decode cX6_spades 96 = .ok (.getfield 75, 3) := by decide +kernel
theorem dX6_spades_99 : decode cX6_spades 99 = .ok (.bipush 42, 2) := by decide +kernel
theorem dX6_spades_101 : decode cX6_spades 101 = .ok (.iload_n 1, 1) := by decide +kernel
theorem dX6_spades_102 : decode cX6_spades 102 = .ok (.iadd, 1) := by decide +kernel
theorem dX6_spades_103 : decode cX6_spades 103 = .ok (.iload_n 3, 1) := by decide +kernel
theorem dX6_spades_104 : decode cX6_spades 104 = .ok (.iastore, 1) := by decide +kernel
theorem dX6_spades_105 : decode cX6_spades 105 = .ok (.iload 4, 2) := by decide +kernel
theorem dX6_spades_107 : decode cX6_spades 107 = .ok (.ireturn, 1) := by decide +kernel
theorem dX6_felling_0 : decode cX6_felling 0 = .ok (.aload_n 0, 1) := by decide +kernel
theorem dX6_felling_1 : decode cX6_felling 1 = .ok (.iconst 0, 1) := by decide +kernel
theorem dX6_felling_2 : decode cX6_felling 2 = .ok (.putfield 129, 3) := by decide +kernel
theorem dX6_felling_5 : decode cX6_felling 5 = .ok (.aload_n 0, 1) := by decide +kernel
theorem dX6_felling_6 : decode cX6_felling 6 = .ok (.iload_n 1, 1) := by decide +kernel
theorem dX6_felling_7 : decode cX6_felling 7 = .ok (.invokevirtual 404, 3) := by decide +kernel
theorem dX6_felling_10 : decode cX6_felling 10 = .ok (.ifCond .ne 5, 3) := by decide +kernel
theorem dX6_felling_13 : decode cX6_felling 13 = .ok (.iconst 0, 1) := by decide +kernel
theorem dX6_felling_14 : decode cX6_felling 14 = .ok (.ireturn, 1) := by decide +kernel
theorem dX6_felling_15 : decode cX6_felling 15 = .ok (.aload_n 0, 1) := by decide +kernel
theorem dX6_felling_16 : decode cX6_felling 16 = .ok (.invokevirtual 392, 3) := by decide +kernel
theorem dX6_felling_19 : decode cX6_felling 19 = .ok (.istore_n 2, 1) := by decide +kernel
theorem dX6_felling_20 : decode cX6_felling 20 = .ok (.aload_n 0, 1) := by decide +kernel
theorem dX6_felling_21 : decode cX6_felling 21 = .ok (.getfield 75, 3) := by decide +kernel
theorem dX6_felling_24 : decode cX6_felling 24 = .ok (.iconst 0, 1) := by decide +kernel
theorem dX6_felling_25 : decode cX6_felling 25 = .ok (.iload_n 1, 1) := by decide +kernel
theorem dX6_felling_26 : decode cX6_felling 26 = .ok (.iadd, 1) := by decide +kernel
theorem dX6_felling_27 : decode cX6_felling 27 = .ok (.iaload, 1) := by decide +kernel
theorem dX6_felling_28 : decode cX6_felling 28 = .ok (.istore_n 3, 1) := by decide +kernel
theorem dX6_felling_29 : decode cX6_felling 29 = .ok (.aload_n 0, 1) := by decide +kernel
theorem dX6_felling_30 : decode cX6_felling 30 = .ok (.getfield 75, 3) := by decide +kernel
theorem dX6_felling_33 : decode cX6_felling 33 = .ok (.iconst 0, 1) := by decide +kernel
theorem dX6_felling_34 : decode cX6_felling 34 = .ok (.iload_n 1, 1) := by decide +kernel
theorem dX6_felling_35 : decode cX6_felling 35 = .ok (.iadd, 1) := by decide +kernel
theorem dX6_felling_36 : decode cX6_felling 36 = .ok (.iconst (-1), 1) := by decide +kernel
theorem dX6_felling_37 : decode cX6_felling 37 = .ok (.iastore, 1) := by decide +kernel
theorem dX6_felling_38 : decode cX6_felling 38 = .ok (.aload_n 0, 1) := by decide +kernel
theorem dX6_felling_39 : decode cX6_felling 39 = .ok (.invokevirtual 392, 3) := by decide +kernel
theorem dX6_felling_42 : decode cX6_felling 42 = .ok (.istore 4, 2) := by decide +kernel
theorem dX6_felling_44 : decode cX6_felling 44 = .ok (.aload_n 0, 1) := by decide +kernel
theorem dX6_felling_45 : decode cX6_felling 45 = .ok (.getfield 75, 3) := by decide +kernel
theorem dX6_felling_48 : decode cX6_felling 48 = .ok (.iconst 0, 1) := by decide +kernel
theorem dX6_felling_49 : decode cX6_felling 49 = .ok (.iload_n 1, 1) := by decide +kernel
theorem dX6_felling_50 : decode cX6_felling 50 = .ok (.iadd, 1) := by decide +kernel
theorem dX6_felling_51 : decode cX6_felling 51 = .ok (.iload_n 3, 1) := by decide +kernel
theorem dX6_felling_52 : decode cX6_felling 52 = .ok (.iastore, 1) := by decide +kernel
theorem dX6_felling_53 : decode cX6_felling 53 = .ok (.iload 4, 2) := by decide +kernel
theorem dX6_felling_55 : decode cX6_felling 55 = .ok (.iload_n 2, 1) := by decide +kernel
theorem dX6_felling_56 : decode cX6_felling 56 = .ok (.isub, 1) := by decide +kernel
theorem dX6_felling_57 : decode cX6_felling 57 = .ok (.ireturn, 1) := by decide +kernel
theorem dX6_isRuin_0 : decode cX6_isRuin 0 = .ok (.iconst 0, 1) := by decide +kernel
theorem dX6_isRuin_1 : decode cX6_isRuin 1 = .ok (.istore_n 2, 1) := by decide +kernel
theorem dX6_isRuin_2 : decode cX6_isRuin 2 = .ok (.aload_n 0, 1) := by decide +kernel
theorem dX6_isRuin_3 : decode cX6_isRuin 3 = .ok (.invokevirtual 379, 3) := by decide +kernel
theorem dX6_isRuin_6 : decode cX6_isRuin 6 = .ok (.iconst 0, 1) := by decide +kernel
theorem dX6_isRuin_7 : decode cX6_isRuin 7 = .ok (.istore_n 3, 1) := by decide +kernel
theorem dX6_isRuin_8 : decode cX6_isRuin 8 = .ok (.iload_n 3, 1) := by decide +kernel
theorem dX6_isRuin_9 : decode cX6_isRuin 9 = .ok (.aload_n 0, 1) := by decide +kernel
theorem dX6_isRuin_10 : decode cX6_isRuin 10 = .ok (.getfield 297, 3) := by decide +kernel
theorem dX6_isRuin_13 : decode cX6_isRuin 13 = .ok (.if_icmp .ge 36, 3) := by decide +kernel
theorem dX6_isRuin_16 : decode cX6_isRuin 16 = .ok (.iload_n 2, 1) := by decide +kernel
theorem dX6_isRuin_17 : decode cX6_isRuin 17 = .ok (.aload_n 0, 1) := by decide +kernel
theorem dX6_isRuin_18 : decode cX6_isRuin 18 = .ok (.getfield 75, 3) := by decide +kernel
theorem dX6_isRuin_21 : decode cX6_isRuin 21 = .ok (.bipush 36, 2) := by decide +kernel
theorem dX6_isRuin_23 : decode cX6_isRuin 23 = .ok (.iload_n 3, 1) := by decide +kernel
theorem dX6_isRuin_24 : decode cX6_isRuin 24 = .ok (.iadd, 1) := by decide +kernel
theorem dX6_isRuin_25 : decode cX6_isRuin 25 = .ok (.iaload, 1) := by decide +kernel
theorem dX6_isRuin_26 : decode cX6_isRuin 26 = .ok (.aload_n 0, 1) := by decide +kernel
theorem dX6_isRuin_27 : decode cX6_isRuin 27 = .ok (.iload_n 3, 1) := by decide +kernel
theorem dX6_isRuin_28 : decode cX6_isRuin 28 = .ok (.invokevirtual 410, 3) := by decide +kernel
theorem dX6_isRuin_31 : decode cX6_isRuin 31 = .ok (.if_icmp .lt 9, 3) := by decide +kernel
theorem dX6_isRuin_34 : decode cX6_isRuin 34 = .ok (.iconst 1, 1) := by decide +kernel
theorem dX6_isRuin_35 : decode cX6_isRuin 35 = .ok (.iload_n 3, 1) := by decide +kernel
theorem dX6_isRuin_36 : decode cX6_isRuin 36 = .ok (.ishl, 1) := by decide +kernel
theorem dX6_isRuin_37 : decode cX6_isRuin 37 = .ok (.goto 4, 3) := by decide +kernel
theorem dX6_isRuin_40 : decode cX6_isRuin 40 = .ok (.iconst 0, 1) := by decide +kernel
theorem dX6_isRuin_41 : decode cX6_isRuin 41 = .ok (.ior, 1) := by decide +kernel
theorem dX6_isRuin_42 : decode cX6_isRuin 42 = .ok (.istore_n 2, 1) := by decide +kernel
theorem dX6_isRuin_43 : decode cX6_isRuin 43 = .ok (.iinc 3 1, 3) := by decide +kernel
theorem dX6_isRuin_46 : decode cX6_isRuin 46 = .ok (.goto (-38), 3) := by decide +kernel
theorem dX6_isRuin_49 : decode cX6_isRuin 49 = .ok (.aload_n 0, 1) := by decide +kernel
theorem dX6_isRuin_50 : decode cX6_isRuin 50 = .ok (.getfield 75, 3) := by decide +kernel
theorem dX6_isRuin_53 : decode cX6_isRuin 53 = .ok (.iconst 0, 1) := by decide +kernel
theorem dX6_isRuin_54 : decode cX6_isRuin 54 = .ok (.iload_n 1, 1) := by decide +kernel
theorem dX6_isRuin_55 : decode cX6_isRuin 55 = .ok (.iadd, 1) := by decide +kernel
theorem dX6_isRuin_56 : decode cX6_isRuin 56 = .ok (.iaload, 1) := by decide +kernel
theorem dX6_isRuin_57 : decode cX6_isRuin 57 = .ok (.istore_n 3, 1) := by decide +kernel
theorem dX6_isRuin_58 : decode cX6_isRuin 58 = .ok (.aload_n 0, 1) := by decide +kernel
theorem dX6_isRuin_59 : decode cX6_isRuin 59 = .ok (.getfield 75, 3) := by decide +kernel
theorem dX6_isRuin_62 : decode cX6_isRuin 62 = .ok (.iconst 0, 1) := by decide +kernel
theorem dX6_isRuin_63 : decode cX6_isRuin 63 = .ok (.iload_n 1, 1) := by decide +kernel
theorem dX6_isRuin_64 : decode cX6_isRuin 64 = .ok (.iadd, 1) := by decide +kernel
theorem dX6_isRuin_65 : decode cX6_isRuin 65 = .ok (.iconst (-1), 1) := by decide +kernel
theorem dX6_isRuin_66 : decode cX6_isRuin 66 = .ok (.iastore, 1) := by decide +kernel
theorem dX6_isRuin_67 : decode cX6_isRuin 67 = .ok (.aload_n 0, 1) := by decide +kernel
theorem dX6_isRuin_68 : decode cX6_isRuin 68 = .ok (.invokevirtual 379, 3) := by decide +kernel
theorem dX6_isRuin_71 : decode cX6_isRuin 71 = .ok (.iconst 0, 1) := by decide +kernel
theorem dX6_isRuin_72 : decode cX6_isRuin 72 = .ok (.istore 4, 2) := by decide +kernel
theorem dX6_isRuin_74 : decode cX6_isRuin 74 = .ok (.iconst 0, 1) := by decide +kernel
theorem dX6_isRuin_75 : decode cX6_isRuin 75 = .ok (.istore 5, 2) := by decide +kernel
theorem dX6_isRuin_77 : decode cX6_isRuin 77 = .ok (.iload 5, 2) := by decide +kernel
theorem dX6_isRuin_79 : decode cX6_isRuin 79 = .ok (.aload_n 0, 1) := by decide +kernel
theorem dX6_isRuin_80 : decode cX6_isRuin 80 = .ok (.getfield 297, 3) := by decide +kernel
theorem dX6_isRuin_83 : decode cX6_isRuin 83 = .ok (.if_icmp .ge 50, 3) := by decide +kernel
theorem dX6_isRuin_86 : decode cX6_isRuin 86 = .ok (.iload 4, 2) := by decide +kernel
theorem dX6_isRuin_88 : decode cX6_isRuin 88 = .ok (.ifCond .ne 32, 3) := by decide +kernel
theorem dX6_isRuin_91 : decode cX6_isRuin 91 = .ok (.iload_n 2, 1) := by decide +kernel
theorem dX6_isRuin_92 : decode cX6_isRuin 92 = .ok (.iload 5, 2) := by decide +kernel
theorem dX6_isRuin_94 : decode cX6_isRuin 94 = .ok (.ishr, 1) := by decide +kernel
theorem dX6_isRuin_95 : decode cX6_isRuin 95 = .ok (.iconst 1, 1) := by decide +kernel
theorem dX6_isRuin_96 : decode cX6_isRuin 96 = .ok (.iand, 1) := by decide +kernel
theorem dX6_isRuin_97 : decode cX6_isRuin 97 = .ok (.iconst 1, 1) := by decide +kernel
theorem dX6_isRuin_98 : decode cX6_isRuin 98 = .ok (.if_icmp .ne 26, 3) := by decide +kernel
theorem dX6_isRuin_101 : decode cX6_isRuin 101 = .ok (.aload_n 0, 1) := by decide +kernel
theorem dX6_isRuin_102 : decode cX6_isRuin 102 = .ok (.iload 5, 2) := by decide +kernel
theorem dX6_isRuin_104 : decode cX6_isRuin 104 = .ok (.invokevirtual 410, 3) := by decide +kernel
theorem dX6_isRuin_107 : decode cX6_isRuin 107 = .ok (.aload_n 0, 1) := by decide +kernel
theorem dX6_isRuin_108 : decode cX6_isRuin 108 = .ok (.getfield 75, 3) := by decide +kernel
theorem dX6_isRuin_111 : decode cX6_isRuin 111 = .ok (.bipush 36, 2) := by decide +kernel
theorem dX6_isRuin_113 : decode cX6_isRuin 113 = .ok (.iload 5, 2) := by decide +kernel
theorem dX6_isRuin_115 : decode cX6_isRuin 115 = .ok (.iadd, 1) := by decide +kernel
theorem dX6_isRuin_116 : decode cX6_isRuin 116 = .ok (.iaload, 1) := by decide +kernel
theorem dX6_isRuin_117 : decode cX6_isRuin 117 = .ok (.if_icmp .le 7, 3) := by decide +kernel
theorem dX6_isRuin_120 : decode cX6_isRuin 120 = .ok (.iconst 1, 1) := by decide +kernel
theorem dX6_isRuin_121 : decode cX6_isRuin 121 = .ok (.goto 4, 3) := by decide +kernel
theorem dX6_isRuin_124 : decode cX6_isRuin 124 = .ok (.iconst 0, 1) := by decide +kernel
theorem dX6_isRuin_125 : decode cX6_isRuin 125 = .ok (.istore 4, 2) := by decide +kernel
theorem dX6_isRuin_127 : decode cX6_isRuin 127 = .ok (.iinc 5 1, 3) := by decide +kernel
theorem dX6_isRuin_130 : decode cX6_isRuin 130 = .ok (.goto (-53), 3) := by decide +kernel
theorem dX6_isRuin_133 : decode cX6_isRuin 133 = .ok (.aload_n 0, 1) := by decide +kernel
theorem dX6_isRuin_134 : decode cX6_isRuin 134 = .ok (.getfield 75, 3) := by decide +kernel
theorem dX6_isRuin_137 : decode cX6_isRuin 137 = .ok (.iconst 0, 1) := by decide +kernel
theorem dX6_isRuin_138 : decode cX6_isRuin 138 = .ok (.iload_n 1, 1) := by decide +kernel
theorem dX6_isRuin_139 : decode cX6_isRuin 139 = .ok (.iadd, 1) := by decide +kernel
theorem dX6_isRuin_140 : decode cX6_isRuin 140 = .ok (.iload_n 3, 1) := by decide +kernel
theorem dX6_isRuin_141 : decode cX6_isRuin 141 = .ok (.iastore, 1) := by decide +kernel
theorem dX6_isRuin_142 : decode cX6_isRuin 142 = .ok (.iload 4, 2) := by decide +kernel
theorem dX6_isRuin_144 : decode cX6_isRuin 144 = .ok (.ireturn, 1) := by decide +kernel
theorem dX6_ruin_0 : decode cX6_ruin 0 = .ok (.aload_n 0, 1) := by decide +kernel
theorem dX6_ruin_1 : decode cX6_ruin 1 = .ok (.iconst 0, 1) := by decide +kernel
theorem dX6_ruin_2 : decode cX6_ruin 2 = .ok (.putfield 129, 3) := by decide +kernel
theorem dX6_ruin_5 : decode cX6_ruin 5 = .ok (.iconst 0, 1) := by decide +kernel
theorem dX6_ruin_6 : decode cX6_ruin 6 = .ok (.istore_n 1, 1) := by decide +kernel
theorem dX6_ruin_7 : decode cX6_ruin 7 = .ok (.iconst 0, 1) := by decide +kernel
theorem dX6_ruin_8 : decode cX6_ruin 8 = .ok (.istore_n 2, 1) := by decide +kernel
theorem dX6_ruin_9 : decode cX6_ruin 9 = .ok (.iload_n 2, 1) := by decide +kernel
theorem dX6_ruin_10 : decode cX6_ruin 10 = .ok (.bipush 12, 2) := by decide +kernel
theorem dX6_ruin_12 : decode cX6_ruin 12 = .ok (.if_icmp .ge 39, 3) := by decide +kernel
theorem dX6_ruin_15 : decode cX6_ruin 15 = .ok (.iload_n 1, 1) := by decide +kernel
theorem dX6_ruin_16 : decode cX6_ruin 16 = .ok (.aload_n 0, 1) := by decide +kernel
theorem dX6_ruin_17 : decode cX6_ruin 17 = .ok (.getfield 75, 3) := by decide +kernel
theorem dX6_ruin_20 : decode cX6_ruin 20 = .ok (.iconst 0, 1) := by decide +kernel
theorem dX6_ruin_21 : decode cX6_ruin 21 = .ok (.iload_n 2, 1) := by decide +kernel
theorem dX6_ruin_22 : decode cX6_ruin 22 = .ok (.iadd, 1) := by decide +kernel
theorem dX6_ruin_23 : decode cX6_ruin 23 = .ok (.iaload, 1) := by decide +kernel
theorem dX6_ruin_24 : decode cX6_ruin 24 = .ok (.iconst (-1), 1) := by decide +kernel
theorem dX6_ruin_25 : decode cX6_ruin 25 = .ok (.if_icmp .eq 17, 3) := by decide +kernel
theorem dX6_ruin_28 : decode cX6_ruin 28 = .ok (.aload_n 0, 1) := by decide +kernel
theorem dX6_ruin_29 : decode cX6_ruin 29 = .ok (.iload_n 2, 1) := by decide +kernel
theorem dX6_ruin_30 : decode cX6_ruin 30 = .ok (.invokevirtual 434, 3) := by decide +kernel
theorem dX6_ruin_33 : decode cX6_ruin 33 = .ok (.ifCond .eq 9, 3) := by decide +kernel
theorem dX6_ruin_36 : decode cX6_ruin 36 = .ok (.iconst 1, 1) := by decide +kernel
theorem dX6_ruin_37 : decode cX6_ruin 37 = .ok (.iload_n 2, 1) := by decide +kernel
theorem dX6_ruin_38 : decode cX6_ruin 38 = .ok (.ishl, 1) := by decide +kernel
theorem dX6_ruin_39 : decode cX6_ruin 39 = .ok (.goto 4, 3) := by decide +kernel
theorem dX6_ruin_42 : decode cX6_ruin 42 = .ok (.iconst 0, 1) := by decide +kernel
theorem dX6_ruin_43 : decode cX6_ruin 43 = .ok (.ior, 1) := by decide +kernel
theorem dX6_ruin_44 : decode cX6_ruin 44 = .ok (.istore_n 1, 1) := by decide +kernel
theorem dX6_ruin_45 : decode cX6_ruin 45 = .ok (.iinc 2 1, 3) := by decide +kernel
theorem dX6_ruin_48 : decode cX6_ruin 48 = .ok (.goto (-39), 3) := by decide +kernel
theorem dX6_ruin_51 : decode cX6_ruin 51 = .ok (.iload_n 1, 1) := by decide +kernel
theorem dX6_ruin_52 : decode cX6_ruin 52 = .ok (.ireturn, 1) := by decide +kernel
theorem dX6_mostBy_0 : decode cX6_mostBy 0 = .ok (.aload_n 0, 1) := by decide +kernel
theorem dX6_mostBy_1 : decode cX6_mostBy 1 = .ok (.invokevirtual 379, 3) := by decide +kernel
theorem dX6_mostBy_4 : decode cX6_mostBy 4 = .ok (.iconst 0, 1) := by decide +kernel
theorem dX6_mostBy_5 : decode cX6_mostBy 5 = .ok (.istore_n 2, 1) := by decide +kernel
theorem dX6_mostBy_6 : decode cX6_mostBy 6 = .ok (.iconst 0, 1) := by decide +kernel
theorem dX6_mostBy_7 : decode cX6_mostBy 7 = .ok (.istore_n 3, 1) := by decide +kernel
theorem dX6_mostBy_8 : decode cX6_mostBy 8 = .ok (.iload_n 3, 1) := by decide +kernel
theorem dX6_mostBy_9 : decode cX6_mostBy 9 = .ok (.aload_n 0, 1) := by decide +kernel
theorem dX6_mostBy_10 : decode cX6_mostBy 10 = .ok (.getfield 297, 3) := by decide +kernel
theorem dX6_mostBy_13 : decode cX6_mostBy 13 = .ok (.if_icmp .ge 30, 3) := by decide +kernel
theorem dX6_mostBy_16 : decode cX6_mostBy 16 = .ok (.aload_n 0, 1) := by decide +kernel
theorem dX6_mostBy_17 : decode cX6_mostBy 17 = .ok (.iload_n 3, 1) := by decide +kernel
theorem dX6_mostBy_18 : decode cX6_mostBy 18 = .ok (.iload_n 1, 1) := by decide +kernel
theorem dX6_mostBy_19 : decode cX6_mostBy 19 = .ok (.invokevirtual 376, 3) := by decide +kernel
theorem dX6_mostBy_22 : decode cX6_mostBy 22 = .ok (.iload_n 2, 1) := by decide +kernel
theorem dX6_mostBy_23 : decode cX6_mostBy 23 = .ok (.if_icmp .le 12, 3) := by decide +kernel
theorem dX6_mostBy_26 : decode cX6_mostBy 26 = .ok (.aload_n 0, 1) := by decide +kernel
theorem dX6_mostBy_27 : decode cX6_mostBy 27 = .ok (.iload_n 3, 1) := by decide +kernel
theorem dX6_mostBy_28 : decode cX6_mostBy 28 = .ok (.iload_n 1, 1) := by decide +kernel
theorem dX6_mostBy_29 : decode cX6_mostBy 29 = .ok (.invokevirtual 376, 3) := by decide +kernel
theorem dX6_mostBy_32 : decode cX6_mostBy 32 = .ok (.goto 4, 3) := by decide +kernel
theorem dX6_mostBy_35 : decode cX6_mostBy 35 = .ok (.iload_n 2, 1) := by decide +kernel
theorem dX6_mostBy_36 : decode cX6_mostBy 36 = .ok (.istore_n 2, 1) := by decide +kernel
theorem dX6_mostBy_37 : decode cX6_mostBy 37 = .ok (.iinc 3 1, 3) := by decide +kernel
theorem dX6_mostBy_40 : decode cX6_mostBy 40 = .ok (.goto (-32), 3) := by decide +kernel
theorem dX6_mostBy_43 : decode cX6_mostBy 43 = .ok (.iload_n 2, 1) := by decide +kernel
theorem dX6_mostBy_44 : decode cX6_mostBy 44 = .ok (.ireturn, 1) := by decide +kernel
theorem dX6_compare_0 : decode cX6_compare 0 = .ok (.aload_n 0, 1) := by decide +kernel
theorem dX6_compare_1 : decode cX6_compare 1 = .ok (.iconst 0, 1) := by decide +kernel
theorem dX6_compare_2 : decode cX6_compare 2 = .ok (.putfield 129, 3) := by decide +kernel
theorem dX6_compare_5 : decode cX6_compare 5 = .ok (.aload_n 0, 1) := by decide +kernel
theorem dX6_compare_6 : decode cX6_compare 6 = .ok (.iload_n 1, 1) := by decide +kernel
theorem dX6_compare_7 : decode cX6_compare 7 = .ok (.iconst (-1), 1) := by decide +kernel
theorem dX6_compare_8 : decode cX6_compare 8 = .ok (.if_icmp .lt 15, 3) := by decide +kernel
theorem dX6_compare_11 : decode cX6_compare 11 = .ok (.iload_n 1, 1) := by decide +kernel
theorem dX6_compare_12 : decode cX6_compare 12 = .ok (.aload_n 0, 1) := by decide +kernel
theorem dX6_compare_13 : decode cX6_compare 13 = .ok (.getfield 300, 3) := by decide +kernel
theorem dX6_compare_16 : decode cX6_compare 16 = .ok (.if_icmp .ge 7, 3) := by decide +kernel
theorem dX6_compare_19 : decode cX6_compare 19 = .ok (.iconst 1, 1) := by decide +kernel
theorem dX6_compare_20 : decode cX6_compare 20 = .ok (.goto 4, 3) := by decide +kernel
theorem dX6_compare_23 : decode cX6_compare 23 = .ok (.iconst 0, 1) := by decide +kernel
theorem dX6_compare_24 : decode cX6_compare 24 = .ok (.iconst 1, 1) := by decide +kernel
theorem dX6_compare_25 : decode cX6_compare 25 = .ok (.invokevirtual 290, 3) := by decide +kernel
theorem dX6_compare_28 : decode cX6_compare 28 = .ok (.ifCond .eq 12, 3) := by decide +kernel
theorem dX6_compare_31 : decode cX6_compare 31 = .ok (.aload_n 0, 1) := by decide +kernel
theorem dX6_compare_32 : decode cX6_compare 32 = .ok (.iload_n 2, 1) := by decide +kernel
theorem dX6_compare_33 : decode cX6_compare 33 = .ok (.iconst 1, 1) := by decide +kernel
theorem dX6_compare_34 : decode cX6_compare 34 = .ok (.invokevirtual 398, 3) := by decide +kernel
theorem dX6_compare_37 : decode cX6_compare 37 = .ok (.ifCond .ne 5, 3) := by decide +kernel
theorem dX6_compare_40 : decode cX6_compare 40 = .ok (.iconst 0, 1) := by decide +kernel
theorem dX6_compare_41 : decode cX6_compare 41 = .ok (.ireturn, 1) := by decide +kernel
theorem dX6_compare_42 : decode cX6_compare 42 = .ok (.iload_n 2, 1) := by decide +kernel
theorem dX6_compare_43 : decode cX6_compare 43 = .ok (.ifCond .ne 11, 3) := by decide +kernel
theorem dX6_compare_46 : decode cX6_compare 46 = .ok (.aload_n 0, 1) := by decide +kernel
theorem dX6_compare_47 : decode cX6_compare 47 = .ok (.iload_n 1, 1) := by decide +kernel
theorem dX6_compare_48 : decode cX6_compare 48 = .ok (.invokevirtual 382, 3) := by decide +kernel
theorem dX6_compare_51 : decode cX6_compare 51 = .ok (.goto 8, 3) := by decide +kernel
theorem dX6_compare_54 : decode cX6_compare 54 = .ok (.aload_n 0, 1) := by decide +kernel
theorem dX6_compare_55 : decode cX6_compare 55 = .ok (.iload_n 1, 1) := by decide +kernel
theorem dX6_compare_56 : decode cX6_compare 56 = .ok (.invokevirtual 437, 3) := by decide +kernel
theorem dX6_compare_59 : decode cX6_compare 59 = .ok (.ireturn, 1) := by decide +kernel
theorem dX6_mildest_0 : decode cX6_mildest 0 = .ok (.aload_n 0, 1) := by decide +kernel
theorem dX6_mildest_1 : decode cX6_mildest 1 = .ok (.iconst 0, 1) := by decide +kernel
theorem dX6_mildest_2 : decode cX6_mildest 2 = .ok (.putfield 129, 3) := by decide +kernel
theorem dX6_mildest_5 : decode cX6_mildest 5 = .ok (.aload_n 0, 1) := by decide +kernel
theorem dX6_mildest_6 : decode cX6_mildest 6 = .ok (.iload_n 1, 1) := by decide +kernel
theorem dX6_mildest_7 : decode cX6_mildest 7 = .ok (.iconst 0, 1) := by decide +kernel
theorem dX6_mildest_8 : decode cX6_mildest 8 = .ok (.sipush 9999, 3) := by decide +kernel
theorem dX6_mildest_11 : decode cX6_mildest 11 = .ok (.invokestatic 385, 3) := by decide +kernel
theorem dX6_mildest_14 : decode cX6_mildest 14 = .ok (.iconst 1, 1) := by decide +kernel
theorem dX6_mildest_15 : decode cX6_mildest 15 = .ok (.invokevirtual 290, 3) := by decide +kernel
theorem dX6_mildest_18 : decode cX6_mildest 18 = .ok (.ifCond .ne 5, 3) := by decide +kernel
theorem dX6_mildest_21 : decode cX6_mildest 21 = .ok (.iconst 0, 1) := by decide +kernel
theorem dX6_mildest_22 : decode cX6_mildest 22 = .ok (.ireturn, 1) := by decide +kernel
theorem dX6_mildest_23 : decode cX6_mildest 23 = .ok (.iconst (-1), 1) := by decide +kernel
theorem dX6_mildest_24 : decode cX6_mildest 24 = .ok (.istore_n 2, 1) := by decide +kernel
theorem dX6_mildest_25 : decode cX6_mildest 25 = .ok (.iconst 0, 1) := by decide +kernel
theorem dX6_mildest_26 : decode cX6_mildest 26 = .ok (.istore_n 3, 1) := by decide +kernel
theorem dX6_mildest_27 : decode cX6_mildest 27 = .ok (.iload_n 3, 1) := by decide +kernel
theorem dX6_mildest_28 : decode cX6_mildest 28 = .ok (.aload_n 0, 1) := by decide +kernel
theorem dX6_mildest_29 : decode cX6_mildest 29 = .ok (.getfield 300, 3) := by decide +kernel
theorem dX6_mildest_32 : decode cX6_mildest 32 = .ok (.if_icmp .ge 38, 3) := by decide +kernel
theorem dX6_mildest_35 : decode cX6_mildest 35 = .ok (.aload_n 0, 1) := by decide +kernel
theorem dX6_mildest_36 : decode cX6_mildest 36 = .ok (.iload_n 3, 1) := by decide +kernel
theorem dX6_mildest_37 : decode cX6_mildest 37 = .ok (.invokevirtual 382, 3) := by decide +kernel
theorem dX6_mildest_40 : decode cX6_mildest 40 = .ok (.iload_n 1, 1) := by decide +kernel
theorem dX6_mildest_41 : decode cX6_mildest 41 = .ok (.if_icmp .lt 23, 3) := by decide +kernel
theorem dX6_mildest_44 : decode cX6_mildest 44 = .ok (.iload_n 2, 1) := by decide +kernel
theorem dX6_mildest_45 : decode cX6_mildest 45 = .ok (.iconst (-1), 1) := by decide +kernel
theorem dX6_mildest_46 : decode cX6_mildest 46 = .ok (.if_icmp .eq 16, 3) := by decide +kernel
theorem dX6_mildest_49 : decode cX6_mildest 49 = .ok (.aload_n 0, 1) := by decide +kernel
theorem dX6_mildest_50 : decode cX6_mildest 50 = .ok (.iload_n 3, 1) := by decide +kernel
theorem dX6_mildest_51 : decode cX6_mildest 51 = .ok (.invokevirtual 437, 3) := by decide +kernel
theorem dX6_mildest_54 : decode cX6_mildest 54 = .ok (.aload_n 0, 1) := by decide +kernel
theorem dX6_mildest_55 : decode cX6_mildest 55 = .ok (.iload_n 2, 1) := by decide +kernel
theorem dX6_mildest_56 : decode cX6_mildest 56 = .ok (.invokevirtual 437, 3) := by decide +kernel
theorem dX6_mildest_59 : decode cX6_mildest 59 = .ok (.if_icmp .ge 5, 3) := by decide +kernel
theorem dX6_mildest_62 : decode cX6_mildest 62 = .ok (.iload_n 3, 1) := by decide +kernel
theorem dX6_mildest_63 : decode cX6_mildest 63 = .ok (.istore_n 2, 1) := by decide +kernel
theorem dX6_mildest_64 : decode cX6_mildest 64 = .ok (.iinc 3 1, 3) := by decide +kernel
theorem dX6_mildest_67 : decode cX6_mildest 67 = .ok (.goto (-40), 3) := by decide +kernel
theorem dX6_mildest_70 : decode cX6_mildest 70 = .ok (.iload_n 2, 1) := by decide +kernel
theorem dX6_mildest_71 : decode cX6_mildest 71 = .ok (.ireturn, 1) := by decide +kernel
theorem dX6_stepsTo_0 : decode cX6_stepsTo 0 = .ok (.iload_n 1, 1) := by decide +kernel
theorem dX6_stepsTo_1 : decode cX6_stepsTo 1 = .ok (.aload_n 0, 1) := by decide +kernel
theorem dX6_stepsTo_2 : decode cX6_stepsTo 2 = .ok (.getfield 7, 3) := by decide +kernel
theorem dX6_stepsTo_5 : decode cX6_stepsTo 5 = .ok (.irem, 1) := by decide +kernel
theorem dX6_stepsTo_6 : decode cX6_stepsTo 6 = .ok (.iload_n 2, 1) := by decide +kernel
theorem dX6_stepsTo_7 : decode cX6_stepsTo 7 = .ok (.aload_n 0, 1) := by decide +kernel
theorem dX6_stepsTo_8 : decode cX6_stepsTo 8 = .ok (.getfield 7, 3) := by decide +kernel
theorem dX6_stepsTo_11 : decode cX6_stepsTo 11 = .ok (.irem, 1) := by decide +kernel
theorem dX6_stepsTo_12 : decode cX6_stepsTo 12 = .ok (.invokestatic 440, 3) := by decide +kernel
theorem dX6_stepsTo_15 : decode cX6_stepsTo 15 = .ok (.istore_n 3, 1) := by decide +kernel
theorem dX6_stepsTo_16 : decode cX6_stepsTo 16 = .ok (.iload_n 1, 1) := by decide +kernel
theorem dX6_stepsTo_17 : decode cX6_stepsTo 17 = .ok (.aload_n 0, 1) := by decide +kernel
theorem dX6_stepsTo_18 : decode cX6_stepsTo 18 = .ok (.getfield 7, 3) := by decide +kernel
theorem dX6_stepsTo_21 : decode cX6_stepsTo 21 = .ok (.idiv, 1) := by decide +kernel
theorem dX6_stepsTo_22 : decode cX6_stepsTo 22 = .ok (.iload_n 2, 1) := by decide +kernel
theorem dX6_stepsTo_23 : decode cX6_stepsTo 23 = .ok (.aload_n 0, 1) := by decide +kernel
theorem dX6_stepsTo_24 : decode cX6_stepsTo 24 = .ok (.getfield 7, 3) := by decide +kernel
theorem dX6_stepsTo_27 : decode cX6_stepsTo 27 = .ok (.idiv, 1) := by decide +kernel
theorem dX6_stepsTo_28 : decode cX6_stepsTo 28 = .ok (.invokestatic 440, 3) := by decide +kernel
theorem dX6_stepsTo_31 : decode cX6_stepsTo 31 = .ok (.istore 4, 2) := by decide +kernel
theorem dX6_stepsTo_33 : decode cX6_stepsTo 33 = .ok (.iload_n 3, 1) := by decide +kernel
theorem dX6_stepsTo_34 : decode cX6_stepsTo 34 = .ok (.iload 4, 2) := by decide +kernel
theorem dX6_stepsTo_36 : decode cX6_stepsTo 36 = .ok (.if_icmp .le 7, 3) := by decide +kernel
theorem dX6_stepsTo_39 : decode cX6_stepsTo 39 = .ok (.iload_n 3, 1) := by decide +kernel
theorem dX6_stepsTo_40 : decode cX6_stepsTo 40 = .ok (.goto 5, 3) := by decide +kernel
theorem dX6_stepsTo_43 : decode cX6_stepsTo 43 = .ok (.iload 4, 2) := by decide +kernel
theorem dX6_stepsTo_45 : decode cX6_stepsTo 45 = .ok (.ireturn, 1) := by decide +kernel
theorem dX6_nextRow_0 : decode cX6_nextRow 0 = .ok (.aload_n 0, 1) := by decide +kernel
theorem dX6_nextRow_1 : decode cX6_nextRow 1 = .ok (.getfield 297, 3) := by decide +kernel
theorem dX6_nextRow_4 : decode cX6_nextRow 4 = .ok (.iconst 2, 1) := by decide +kernel
theorem dX6_nextRow_5 : decode cX6_nextRow 5 = .ok (.isub, 1) := by decide +kernel
theorem dX6_nextRow_6 : decode cX6_nextRow 6 = .ok (.istore_n 1, 1) := by decide +kernel
theorem dX6_nextRow_7 : decode cX6_nextRow 7 = .ok (.iload_n 1, 1) := by decide +kernel
theorem dX6_nextRow_8 : decode cX6_nextRow 8 = .ok (.ifCond .lt 26, 3) := by decide +kernel
theorem dX6_nextRow_11 : decode cX6_nextRow 11 = .ok (.aload_n 0, 1) := by decide +kernel
theorem dX6_nextRow_12 : decode cX6_nextRow 12 = .ok (.getfield 111, 3) := by decide +kernel
theorem dX6_nextRow_15 : decode cX6_nextRow 15 = .ok (.iload_n 1, 1) := by decide +kernel
theorem dX6_nextRow_16 : decode cX6_nextRow 16 = .ok (.iaload, 1) := by decide +kernel
theorem dX6_nextRow_17 : decode cX6_nextRow 17 = .ok (.aload_n 0, 1) := by decide +kernel
theorem dX6_nextRow_18 : decode cX6_nextRow 18 = .ok (.getfield 111, 3) := by decide +kernel
theorem dX6_nextRow_21 : decode cX6_nextRow 21 = .ok (.iload_n 1, 1) := by decide +kernel
theorem dX6_nextRow_22 : decode cX6_nextRow 22 = .ok (.iconst 1, 1) := by decide +kernel
theorem dX6_nextRow_23 : decode cX6_nextRow 23 = .ok (.iadd, 1) := by decide +kernel
theorem dX6_nextRow_24 : decode cX6_nextRow 24 = .ok (.iaload, 1) := by decide +kernel
theorem dX6_nextRow_25 : decode cX6_nextRow 25 = .ok (.if_icmp .le 9, 3) := by decide +kernel
theorem dX6_nextRow_28 : decode cX6_nextRow 28 = .ok (.iinc 1 (-1), 3) := by decide +kernel
theorem dX6_nextRow_31 : decode cX6_nextRow 31 = .ok (.goto (-24), 3) := by decide +kernel
theorem dX6_nextRow_34 : decode cX6_nextRow 34 = .ok (.iload_n 1, 1) := by decide +kernel
theorem dX6_nextRow_35 : decode cX6_nextRow 35 = .ok (.ifCond .ge 5, 3) := by decide +kernel
theorem dX6_nextRow_38 : decode cX6_nextRow 38 = .ok (.iconst 0, 1) := by decide +kernel
theorem dX6_nextRow_39 : decode cX6_nextRow 39 = .ok (.ireturn, 1) := by decide +kernel
theorem dX6_nextRow_40 : decode cX6_nextRow 40 = .ok (.aload_n 0, 1) := by decide +kernel
theorem dX6_nextRow_41 : decode cX6_nextRow 41 = .ok (.getfield 297, 3) := by decide +kernel
theorem dX6_nextRow_44 : decode cX6_nextRow 44 = .ok (.iconst 1, 1) := by decide +kernel
theorem dX6_nextRow_45 : decode cX6_nextRow 45 = .ok (.isub, 1) := by decide +kernel
theorem dX6_nextRow_46 : decode cX6_nextRow 46 = .ok (.istore_n 2, 1) := by decide +kernel
theorem dX6_nextRow_47 : decode cX6_nextRow 47 = .ok (.aload_n 0, 1) := by decide +kernel
theorem dX6_nextRow_48 : decode cX6_nextRow 48 = .ok (.getfield 111, 3) := by decide +kernel
theorem dX6_nextRow_51 : decode cX6_nextRow 51 = .ok (.iload_n 2, 1) := by decide +kernel
theorem dX6_nextRow_52 : decode cX6_nextRow 52 = .ok (.iaload, 1) := by decide +kernel
theorem dX6_nextRow_53 : decode cX6_nextRow 53 = .ok (.aload_n 0, 1) := by decide +kernel
theorem dX6_nextRow_54 : decode cX6_nextRow 54 = .ok (.getfield 111, 3) := by decide +kernel
theorem dX6_nextRow_57 : decode cX6_nextRow 57 = .ok (.iload_n 1, 1) := by decide +kernel
theorem dX6_nextRow_58 : decode cX6_nextRow 58 = .ok (.iaload, 1) := by decide +kernel
theorem dX6_nextRow_59 : decode cX6_nextRow 59 = .ok (.if_icmp .ge 9, 3) := by decide +kernel
theorem dX6_nextRow_62 : decode cX6_nextRow 62 = .ok (.iinc 2 (-1), 3) := by decide +kernel
theorem dX6_nextRow_65 : decode cX6_nextRow 65 = .ok (.goto (-18), 3) := by decide +kernel
theorem dX6_nextRow_68 : decode cX6_nextRow 68 = .ok (.aload_n 0, 1) := by decide +kernel
theorem dX6_nextRow_69 : decode cX6_nextRow 69 = .ok (.iload_n 1, 1) := by decide +kernel
theorem dX6_nextRow_70 : decode cX6_nextRow 70 = .ok (.iload_n 2, 1) := by decide +kernel
theorem dX6_nextRow_71 : decode cX6_nextRow 71 = .ok (.invokevirtual 443, 3) := by decide +kernel
theorem dX6_nextRow_74 : decode cX6_nextRow 74 = .ok (.iload_n 1, 1) := by decide +kernel
theorem dX6_nextRow_75 : decode cX6_nextRow 75 = .ok (.iconst 1, 1) := by decide +kernel
theorem dX6_nextRow_76 : decode cX6_nextRow 76 = .ok (.iadd, 1) := by decide +kernel
theorem dX6_nextRow_77 : decode cX6_nextRow 77 = .ok (.istore_n 3, 1) := by decide +kernel
theorem dX6_nextRow_78 : decode cX6_nextRow 78 = .ok (.aload_n 0, 1) := by decide +kernel
theorem dX6_nextRow_79 : decode cX6_nextRow 79 = .ok (.getfield 297, 3) := by decide +kernel
theorem dX6_nextRow_82 : decode cX6_nextRow 82 = .ok (.iconst 1, 1) := by decide +kernel
theorem dX6_nextRow_83 : decode cX6_nextRow 83 = .ok (.isub, 1) := by decide +kernel
theorem dX6_nextRow_84 : decode cX6_nextRow 84 = .ok (.istore 4, 2) := by decide +kernel
theorem dX6_nextRow_86 : decode cX6_nextRow 86 = .ok (.iload_n 3, 1) := by decide +kernel
theorem dX6_nextRow_87 : decode cX6_nextRow 87 = .ok (.iload 4, 2) := by decide +kernel
theorem dX6_nextRow_89 : decode cX6_nextRow 89 = .ok (.if_icmp .ge 19, 3) := by decide +kernel
theorem dX6_nextRow_92 : decode cX6_nextRow 92 = .ok (.aload_n 0, 1) := by decide +kernel
theorem dX6_nextRow_93 : decode cX6_nextRow 93 = .ok (.iload_n 3, 1) := by decide +kernel
theorem dX6_nextRow_94 : decode cX6_nextRow 94 = .ok (.iload 4, 2) := by decide +kernel
theorem dX6_nextRow_96 : decode cX6_nextRow 96 = .ok (.invokevirtual 443, 3) := by decide +kernel
theorem dX6_nextRow_99 : decode cX6_nextRow 99 = .ok (.iinc 3 1, 3) := by decide +kernel
theorem dX6_nextRow_102 : decode cX6_nextRow 102 = .ok (.iinc 4 (-1), 3) := by decide +kernel
theorem dX6_nextRow_105 : decode cX6_nextRow 105 = .ok (.goto (-19), 3) := by decide +kernel
theorem dX6_nextRow_108 : decode cX6_nextRow 108 = .ok (.iconst 1, 1) := by decide +kernel
theorem dX6_nextRow_109 : decode cX6_nextRow 109 = .ok (.ireturn, 1) := by decide +kernel
theorem dX6_changes_0 : decode cX6_changes 0 = .ok (.aload_n 0, 1) := by decide +kernel
theorem dX6_changes_1 : decode cX6_changes 1 = .ok (.getfield 111, 3) := by decide +kernel
theorem dX6_changes_4 : decode cX6_changes 4 = .ok (.iload_n 1, 1) := by decide +kernel
theorem dX6_changes_5 : decode cX6_changes 5 = .ok (.iaload, 1) := by decide +kernel
theorem dX6_changes_6 : decode cX6_changes 6 = .ok (.istore_n 3, 1) := by decide +kernel
theorem dX6_changes_7 : decode cX6_changes 7 = .ok (.aload_n 0, 1) := by decide +kernel
theorem dX6_changes_8 : decode cX6_changes 8 = .ok (.getfield 111, 3) := by decide +kernel
theorem dX6_changes_11 : decode cX6_changes 11 = .ok (.iload_n 1, 1) := by decide +kernel
theorem dX6_changes_12 : decode cX6_changes 12 = .ok (.aload_n 0, 1) := by decide +kernel
theorem dX6_changes_13 : decode cX6_changes 13 = .ok (.getfield 111, 3) := by decide +kernel
theorem dX6_changes_16 : decode cX6_changes 16 = .ok (.iload_n 2, 1) := by decide +kernel
theorem dX6_changes_17 : decode cX6_changes 17 = .ok (.iaload, 1) := by decide +kernel
theorem dX6_changes_18 : decode cX6_changes 18 = .ok (.iastore, 1) := by decide +kernel
theorem dX6_changes_19 : decode cX6_changes 19 = .ok (.aload_n 0, 1) := by decide +kernel
theorem dX6_changes_20 : decode cX6_changes 20 = .ok (.getfield 111, 3) := by decide +kernel
theorem dX6_changes_23 : decode cX6_changes 23 = .ok (.iload_n 2, 1) := by decide +kernel
theorem dX6_changes_24 : decode cX6_changes 24 = .ok (.iload_n 3, 1) := by decide +kernel
theorem dX6_changes_25 : decode cX6_changes 25 = .ok (.iastore, 1) := by decide +kernel
theorem dX6_changes_26 : decode cX6_changes 26 = .ok (.return_, 1) := by decide +kernel
theorem dX6_round_0 : decode cX6_round 0 = .ok (.aload_n 0, 1) := by decide +kernel
theorem dX6_round_1 : decode cX6_round 1 = .ok (.iconst 0, 1) := by decide +kernel
theorem dX6_round_2 : decode cX6_round 2 = .ok (.putfield 129, 3) := by decide +kernel
theorem dX6_round_5 : decode cX6_round 5 = .ok (.aload_n 0, 1) := by decide +kernel
theorem dX6_round_6 : decode cX6_round 6 = .ok (.iload_n 1, 1) := by decide +kernel
theorem dX6_round_7 : decode cX6_round 7 = .ok (.invokevirtual 395, 3) := by decide +kernel
theorem dX6_round_10 : decode cX6_round 10 = .ok (.ifCond .ne 5, 3) := by decide +kernel
theorem dX6_round_13 : decode cX6_round 13 = .ok (.iconst 0, 1) := by decide +kernel
theorem dX6_round_14 : decode cX6_round 14 = .ok (.ireturn, 1) := by decide +kernel
theorem dX6_round_15 : decode cX6_round 15 = .ok (.iconst 0, 1) := by decide +kernel
theorem dX6_round_16 : decode cX6_round 16 = .ok (.istore_n 2, 1) := by decide +kernel
theorem dX6_round_17 : decode cX6_round 17 = .ok (.iload_n 2, 1) := by decide +kernel
theorem dX6_round_18 : decode cX6_round 18 = .ok (.aload_n 0, 1) := by decide +kernel
theorem dX6_round_19 : decode cX6_round 19 = .ok (.getfield 297, 3) := by decide +kernel
theorem dX6_round_22 : decode cX6_round 22 = .ok (.if_icmp .ge 16, 3) := by decide +kernel
theorem dX6_round_25 : decode cX6_round 25 = .ok (.aload_n 0, 1) := by decide +kernel
theorem dX6_round_26 : decode cX6_round 26 = .ok (.getfield 111, 3) := by decide +kernel
theorem dX6_round_29 : decode cX6_round 29 = .ok (.iload_n 2, 1) := by decide +kernel
theorem dX6_round_30 : decode cX6_round 30 = .ok (.iload_n 2, 1) := by decide +kernel
theorem dX6_round_31 : decode cX6_round 31 = .ok (.iastore, 1) := by decide +kernel
theorem dX6_round_32 : decode cX6_round 32 = .ok (.iinc 2 1, 3) := by decide +kernel
theorem dX6_round_35 : decode cX6_round 35 = .ok (.goto (-18), 3) := by decide +kernel
theorem dX6_round_38 : decode cX6_round 38 = .ok (.iconst (-1), 1) := by decide +kernel
theorem dX6_round_39 : decode cX6_round 39 = .ok (.istore_n 2, 1) := by decide +kernel
theorem dX6_round_40 : decode cX6_round 40 = .ok (.iconst 1, 1) := by decide +kernel
theorem dX6_round_41 : decode cX6_round 41 = .ok (.istore_n 3, 1) := by decide +kernel
theorem dX6_round_42 : decode cX6_round 42 = .ok (.iload_n 3, 1) := by decide +kernel
theorem dX6_round_43 : decode cX6_round 43 = .ok (.ifCond .eq 102, 3) := by decide +kernel
theorem dX6_round_46 : decode cX6_round 46 = .ok (.iconst 0, 1) := by decide +kernel
theorem dX6_round_47 : decode cX6_round 47 = .ok (.istore 4, 2) := by decide +kernel
theorem dX6_round_49 : decode cX6_round 49 = .ok (.iconst 0, 1) := by decide +kernel
theorem dX6_round_50 : decode cX6_round 50 = .ok (.istore 5, 2) := by decide +kernel
theorem dX6_round_52 : decode cX6_round 52 = .ok (.iload 5, 2) := by decide +kernel
theorem dX6_round_54 : decode cX6_round 54 = .ok (.aload_n 0, 1) := by decide +kernel
theorem dX6_round_55 : decode cX6_round 55 = .ok (.getfield 297, 3) := by decide +kernel
theorem dX6_round_58 : decode cX6_round 58 = .ok (.if_icmp .ge 53, 3) := by decide +kernel
theorem dX6_round_61 : decode cX6_round 61 = .ok (.iload 4, 2) := by decide +kernel
theorem dX6_round_63 : decode cX6_round 63 = .ok (.aload_n 0, 1) := by decide +kernel
theorem dX6_round_64 : decode cX6_round 64 = .ok (.iload 5, 2) := by decide +kernel
theorem dX6_round_66 : decode cX6_round 66 = .ok (.ifCond .ne 7, 3) := by decide +kernel
theorem dX6_round_69 : decode cX6_round 69 = .ok (.iload_n 1, 1) := by decide +kernel
theorem dX6_round_70 : decode cX6_round 70 = .ok (.goto 17, 3) := by decide +kernel
theorem dX6_round_73 : decode cX6_round 73 = .ok (.aload_n 0, 1) := by decide +kernel
theorem dX6_round_74 : decode cX6_round 74 = .ok (.getfield 20, 3) := by decide +kernel
theorem dX6_round_77 : decode cX6_round 77 = .ok (.aload_n 0, 1) := by decide +kernel
theorem dX6_round_78 : decode cX6_round 78 = .ok (.getfield 111, 3) := by decide +kernel
theorem dX6_round_81 : decode cX6_round 81 = .ok (.iload 5, 2) := by decide +kernel
theorem dX6_round_83 : decode cX6_round 83 = .ok (.iconst 1, 1) := by decide +kernel
theorem dX6_round_84 : decode cX6_round 84 = .ok (.isub, 1) := by decide +kernel
theorem dX6_round_85 : decode cX6_round 85 = .ok (.iaload, 1) := by decide +kernel
theorem dX6_round_86 : decode cX6_round 86 = .ok (.iaload, 1) := by decide +kernel
theorem dX6_round_87 : decode cX6_round 87 = .ok (.aload_n 0, 1) := by decide +kernel
theorem dX6_round_88 : decode cX6_round 88 = .ok (.getfield 20, 3) := by decide +kernel
theorem dX6_round_91 : decode cX6_round 91 = .ok (.aload_n 0, 1) := by decide +kernel
theorem dX6_round_92 : decode cX6_round 92 = .ok (.getfield 111, 3) := by decide +kernel
theorem dX6_round_95 : decode cX6_round 95 = .ok (.iload 5, 2) := by decide +kernel
theorem dX6_round_97 : decode cX6_round 97 = .ok (.iaload, 1) := by decide +kernel
theorem dX6_round_98 : decode cX6_round 98 = .ok (.iaload, 1) := by decide +kernel
theorem dX6_round_99 : decode cX6_round 99 = .ok (.invokevirtual 447, 3) := by decide +kernel
theorem dX6_round_102 : decode cX6_round 102 = .ok (.iadd, 1) := by decide +kernel
theorem dX6_round_103 : decode cX6_round 103 = .ok (.istore 4, 2) := by decide +kernel
theorem dX6_round_105 : decode cX6_round 105 = .ok (.iinc 5 1, 3) := by decide +kernel
theorem dX6_round_108 : decode cX6_round 108 = .ok (.goto (-56), 3) := by decide +kernel
theorem dX6_round_111 : decode cX6_round 111 = .ok (.iload_n 2, 1) := by decide +kernel
theorem dX6_round_112 : decode cX6_round 112 = .ok (.iconst (-1), 1) := by decide +kernel
theorem dX6_round_113 : decode cX6_round 113 = .ok (.if_icmp .eq 9, 3) := by decide +kernel
theorem dX6_round_116 : decode cX6_round 116 = .ok (.iload 4, 2) := by decide +kernel
theorem dX6_round_118 : decode cX6_round 118 = .ok (.iload_n 2, 1) := by decide +kernel
theorem dX6_round_119 : decode cX6_round 119 = .ok (.if_icmp .ge 18, 3) := by decide +kernel
theorem dX6_round_122 : decode cX6_round 122 = .ok (.iload 4, 2) := by decide +kernel
theorem dX6_round_124 : decode cX6_round 124 = .ok (.istore_n 2, 1) := by decide +kernel
theorem dX6_round_125 : decode cX6_round 125 = .ok (.aload_n 0, 1) := by decide +kernel
theorem dX6_round_126 : decode cX6_round 126 = .ok (.aload_n 0, 1) := by decide +kernel
theorem dX6_round_127 : decode cX6_round 127 = .ok (.getfield 111, 3) := by decide +kernel
theorem dX6_round_130 : decode cX6_round 130 = .ok (.aload_n 0, 1) := by decide +kernel
theorem dX6_round_131 : decode cX6_round 131 = .ok (.getfield 108, 3) := by decide +kernel
theorem dX6_round_134 : decode cX6_round 134 = .ok (.invokevirtual 306, 3) := by decide +kernel
theorem dX6_round_137 : decode cX6_round 137 = .ok (.aload_n 0, 1) := by decide +kernel
theorem dX6_round_138 : decode cX6_round 138 = .ok (.invokevirtual 450, 3) := by decide +kernel
theorem dX6_round_141 : decode cX6_round 141 = .ok (.istore_n 3, 1) := by decide +kernel
theorem dX6_round_142 : decode cX6_round 142 = .ok (.goto (-100), 3) := by decide +kernel
theorem dX6_round_145 : decode cX6_round 145 = .ok (.aload_n 0, 1) := by decide +kernel
theorem dX6_round_146 : decode cX6_round 146 = .ok (.iconst 1, 1) := by decide +kernel
theorem dX6_round_147 : decode cX6_round 147 = .ok (.putfield 316, 3) := by decide +kernel
theorem dX6_round_150 : decode cX6_round 150 = .ok (.iload_n 2, 1) := by decide +kernel
theorem dX6_round_151 : decode cX6_round 151 = .ok (.ireturn, 1) := by decide +kernel
theorem dX6_stop_0 : decode cX6_stop 0 = .ok (.aload_n 0, 1) := by decide +kernel
theorem dX6_stop_1 : decode cX6_stop 1 = .ok (.iconst 0, 1) := by decide +kernel
theorem dX6_stop_2 : decode cX6_stop 2 = .ok (.putfield 129, 3) := by decide +kernel
theorem dX6_stop_5 : decode cX6_stop 5 = .ok (.aload_n 0, 1) := by decide +kernel
theorem dX6_stop_6 : decode cX6_stop 6 = .ok (.aload_n 0, 1) := by decide +kernel
theorem dX6_stop_7 : decode cX6_stop 7 = .ok (.getfield 316, 3) := by decide +kernel
theorem dX6_stop_10 : decode cX6_stop 10 = .ok (.ifCond .eq 19, 3) := by decide +kernel
theorem dX6_stop_13 : decode cX6_stop 13 = .ok (.iload_n 1, 1) := by decide +kernel
theorem dX6_stop_14 : decode cX6_stop 14 = .ok (.ifCond .lt 15, 3) := by decide +kernel
theorem dX6_stop_17 : decode cX6_stop 17 = .ok (.iload_n 1, 1) := by decide +kernel
theorem dX6_stop_18 : decode cX6_stop 18 = .ok (.aload_n 0, 1) := by decide +kernel
theorem dX6_stop_19 : decode cX6_stop 19 = .ok (.getfield 297, 3) := by decide +kernel
theorem dX6_stop_22 : decode cX6_stop 22 = .ok (.if_icmp .ge 7, 3) := by decide +kernel
theorem dX6_stop_25 : decode cX6_stop 25 = .ok (.iconst 1, 1) := by decide +kernel
theorem dX6_stop_26 : decode cX6_stop 26 = .ok (.goto 4, 3) := by decide +kernel
theorem dX6_stop_29 : decode cX6_stop 29 = .ok (.iconst 0, 1) := by decide +kernel
theorem dX6_stop_30 : decode cX6_stop 30 = .ok (.iconst 1, 1) := by decide +kernel
theorem dX6_stop_31 : decode cX6_stop 31 = .ok (.invokevirtual 290, 3) := by decide +kernel
theorem dX6_stop_34 : decode cX6_stop 34 = .ok (.ifCond .eq 12, 3) := by decide +kernel
theorem dX6_stop_37 : decode cX6_stop 37 = .ok (.aload_n 0, 1) := by decide +kernel
theorem dX6_stop_38 : decode cX6_stop 38 = .ok (.getfield 108, 3) := by decide +kernel
theorem dX6_stop_41 : decode cX6_stop 41 = .ok (.iload_n 1, 1) := by decide +kernel
theorem dX6_stop_42 : decode cX6_stop 42 = .ok (.iaload, 1) := by decide +kernel
theorem dX6_stop_43 : decode cX6_stop 43 = .ok (.goto 4, 3) := by decide +kernel
theorem dX6_stop_46 : decode cX6_stop 46 = .ok (.iconst 0, 1) := by decide +kernel
theorem dX6_stop_47 : decode cX6_stop 47 = .ok (.ireturn, 1) := by decide +kernel
theorem dX6_loses_0 : decode cX6_loses 0 = .ok (.iconst 0, 1) := by decide +kernel
theorem dX6_loses_1 : decode cX6_loses 1 = .ok (.istore 5, 2) := by decide +kernel
theorem dX6_loses_3 : decode cX6_loses 3 = .ok (.iload 5, 2) := by decide +kernel
theorem dX6_loses_5 : decode cX6_loses 5 = .ok (.iconst 4, 1) := by decide +kernel
theorem dX6_loses_6 : decode cX6_loses 6 = .ok (.if_icmp .ge 139, 3) := by decide +kernel
theorem dX6_loses_9 : decode cX6_loses 9 = .ok (.aload_n 0, 1) := by decide +kernel
theorem dX6_loses_10 : decode cX6_loses 10 = .ok (.getfield 75, 3) := by decide +kernel
theorem dX6_loses_13 : decode cX6_loses 13 = .ok (.bipush 48, 2) := by decide +kernel
theorem dX6_loses_15 : decode cX6_loses 15 = .ok (.iload_n 1, 1) := by decide +kernel
theorem dX6_loses_16 : decode cX6_loses 16 = .ok (.iadd, 1) := by decide +kernel
theorem dX6_loses_17 : decode cX6_loses 17 = .ok (.iaload, 1) := by decide +kernel
theorem dX6_loses_18 : decode cX6_loses 18 = .ok (.istore 6, 2) := by decide +kernel
theorem dX6_loses_20 : decode cX6_loses 20 = .ok (.aload_n 0, 1) := by decide +kernel
theorem dX6_loses_21 : decode cX6_loses 21 = .ok (.getfield 75, 3) := by decide +kernel
theorem dX6_loses_24 : decode cX6_loses 24 = .ok (.bipush 48, 2) := by decide +kernel
theorem dX6_loses_26 : decode cX6_loses 26 = .ok (.iload_n 2, 1) := by decide +kernel
theorem dX6_loses_27 : decode cX6_loses 27 = .ok (.iadd, 1) := by decide +kernel
theorem dX6_loses_28 : decode cX6_loses 28 = .ok (.iaload, 1) := by decide +kernel
theorem dX6_loses_29 : decode cX6_loses 29 = .ok (.istore 7, 2) := by decide +kernel
theorem dX6_loses_31 : decode cX6_loses 31 = .ok (.aload_n 0, 1) := by decide +kernel
theorem dX6_loses_32 : decode cX6_loses 32 = .ok (.getfield 75, 3) := by decide +kernel
theorem dX6_loses_35 : decode cX6_loses 35 = .ok (.bipush 48, 2) := by decide +kernel
theorem dX6_loses_37 : decode cX6_loses 37 = .ok (.iload_n 1, 1) := by decide +kernel
theorem dX6_loses_38 : decode cX6_loses 38 = .ok (.iadd, 1) := by decide +kernel
theorem dX6_loses_39 : decode cX6_loses 39 = .ok (.dup2, 1) := by decide +kernel
theorem dX6_loses_40 : decode cX6_loses 40 = .ok (.iaload, 1) := by decide +kernel
theorem dX6_loses_41 : decode cX6_loses 41 = .ok (.iload 5, 2) := by decide +kernel
theorem dX6_loses_43 : decode cX6_loses 43 = .ok (.iconst 2, 1) := by decide +kernel
theorem dX6_loses_44 : decode cX6_loses 44 = .ok (.idiv, 1) := by decide +kernel
theorem dX6_loses_45 : decode cX6_loses 45 = .ok (.iload_n 3, 1) := by decide +kernel
theorem dX6_loses_46 : decode cX6_loses 46 = .ok (.imul, 1) := by decide +kernel
theorem dX6_loses_47 : decode cX6_loses 47 = .ok (.iadd, 1) := by decide +kernel
theorem dX6_loses_48 : decode cX6_loses 48 = .ok (.iastore, 1) := by decide +kernel
theorem dX6_loses_49 : decode cX6_loses 49 = .ok (.aload_n 0, 1) := by decide +kernel
theorem dX6_loses_50 : decode cX6_loses 50 = .ok (.getfield 75, 3) := by decide +kernel
theorem dX6_loses_53 : decode cX6_loses 53 = .ok (.bipush 48, 2) := by decide +kernel
theorem dX6_loses_55 : decode cX6_loses 55 = .ok (.iload_n 2, 1) := by decide +kernel
theorem dX6_loses_56 : decode cX6_loses 56 = .ok (.iadd, 1) := by decide +kernel
theorem dX6_loses_57 : decode cX6_loses 57 = .ok (.dup2, 1) := by decide +kernel
theorem dX6_loses_58 : decode cX6_loses 58 = .ok (.iaload, 1) := by decide +kernel
theorem dX6_loses_59 : decode cX6_loses 59 = .ok (.iload 5, 2) := by decide +kernel
theorem dX6_loses_61 : decode cX6_loses 61 = .ok (.iconst 2, 1) := by decide +kernel
theorem dX6_loses_62 : decode cX6_loses 62 = .ok (.irem, 1) := by decide +kernel
theorem dX6_loses_63 : decode cX6_loses 63 = .ok (.iload_n 3, 1) := by decide +kernel
theorem dX6_loses_64 : decode cX6_loses 64 = .ok (.imul, 1) := by decide +kernel
theorem dX6_loses_65 : decode cX6_loses 65 = .ok (.iadd, 1) := by decide +kernel
theorem dX6_loses_66 : decode cX6_loses 66 = .ok (.iastore, 1) := by decide +kernel
theorem dX6_loses_67 : decode cX6_loses 67 = .ok (.aload_n 0, 1) := by decide +kernel
theorem dX6_loses_68 : decode cX6_loses 68 = .ok (.invokevirtual 379, 3) := by decide +kernel
theorem dX6_loses_71 : decode cX6_loses 71 = .ok (.aload_n 0, 1) := by decide +kernel
theorem dX6_loses_72 : decode cX6_loses 72 = .ok (.getfield 114, 3) := by decide +kernel
theorem dX6_loses_75 : decode cX6_loses 75 = .ok (.iconst 2, 1) := by decide +kernel
theorem dX6_loses_76 : decode cX6_loses 76 = .ok (.iload 5, 2) := by decide +kernel
theorem dX6_loses_78 : decode cX6_loses 78 = .ok (.imul, 1) := by decide +kernel
theorem dX6_loses_79 : decode cX6_loses 79 = .ok (.aload_n 0, 1) := by decide +kernel
theorem dX6_loses_80 : decode cX6_loses 80 = .ok (.iload_n 1, 1) := by decide +kernel
theorem dX6_loses_81 : decode cX6_loses 81 = .ok (.invokevirtual 410, 3) := by decide +kernel
theorem dX6_loses_84 : decode cX6_loses 84 = .ok (.iload 5, 2) := by decide +kernel
theorem dX6_loses_86 : decode cX6_loses 86 = .ok (.iconst 2, 1) := by decide +kernel
theorem dX6_loses_87 : decode cX6_loses 87 = .ok (.idiv, 1) := by decide +kernel
theorem dX6_loses_88 : decode cX6_loses 88 = .ok (.iload 4, 2) := by decide +kernel
theorem dX6_loses_90 : decode cX6_loses 90 = .ok (.imul, 1) := by decide +kernel
theorem dX6_loses_91 : decode cX6_loses 91 = .ok (.iadd, 1) := by decide +kernel
theorem dX6_loses_92 : decode cX6_loses 92 = .ok (.iastore, 1) := by decide +kernel
theorem dX6_loses_93 : decode cX6_loses 93 = .ok (.aload_n 0, 1) := by decide +kernel
theorem dX6_loses_94 : decode cX6_loses 94 = .ok (.getfield 114, 3) := by decide +kernel
theorem dX6_loses_97 : decode cX6_loses 97 = .ok (.iconst 2, 1) := by decide +kernel
theorem dX6_loses_98 : decode cX6_loses 98 = .ok (.iload 5, 2) := by decide +kernel
theorem dX6_loses_100 : decode cX6_loses 100 = .ok (.imul, 1) := by decide +kernel
theorem dX6_loses_101 : decode cX6_loses 101 = .ok (.iconst 1, 1) := by decide +kernel
theorem dX6_loses_102 : decode cX6_loses 102 = .ok (.iadd, 1) := by decide +kernel
theorem dX6_loses_103 : decode cX6_loses 103 = .ok (.aload_n 0, 1) := by decide +kernel
theorem dX6_loses_104 : decode cX6_loses 104 = .ok (.iload_n 2, 1) := by decide +kernel
theorem dX6_loses_105 : decode cX6_loses 105 = .ok (.invokevirtual 410, 3) := by decide +kernel
theorem dX6_loses_108 : decode cX6_loses 108 = .ok (.iload 5, 2) := by decide +kernel
theorem dX6_loses_110 : decode cX6_loses 110 = .ok (.iconst 2, 1) := by decide +kernel
theorem dX6_loses_111 : decode cX6_loses 111 = .ok (.irem, 1) := by decide +kernel
theorem dX6_loses_112 : decode cX6_loses 112 = .ok (.iload 4, 2) := by decide +kernel
theorem dX6_loses_114 : decode cX6_loses 114 = .ok (.imul, 1) := by decide +kernel
theorem dX6_loses_115 : decode cX6_loses 115 = .ok (.iadd, 1) := by decide +kernel
theorem dX6_loses_116 : decode cX6_loses 116 = .ok (.iastore, 1) := by decide +kernel
theorem dX6_loses_117 : decode cX6_loses 117 = .ok (.aload_n 0, 1) := by decide +kernel
theorem dX6_loses_118 : decode cX6_loses 118 = .ok (.getfield 75, 3) := by decide +kernel
theorem dX6_loses_121 : decode cX6_loses 121 = .ok (.bipush 48, 2) := by decide +kernel
theorem dX6_loses_123 : decode cX6_loses 123 = .ok (.iload_n 1, 1) := by decide +kernel
theorem dX6_loses_124 : decode cX6_loses 124 = .ok (.iadd, 1) := by decide +kernel
theorem dX6_loses_125 : decode cX6_loses 125 = .ok (.iload 6, 2) := by decide +kernel
theorem dX6_loses_127 : decode cX6_loses 127 = .ok (.iastore, 1) := by decide +kernel
theorem dX6_loses_128 : decode cX6_loses 128 = .ok (.aload_n 0, 1) := by decide +kernel
theorem dX6_loses_129 : decode cX6_loses 129 = .ok (.getfield 75, 3) := by decide +kernel
theorem dX6_loses_132 : decode cX6_loses 132 = .ok (.bipush 48, 2) := by decide +kernel
theorem dX6_loses_134 : decode cX6_loses 134 = .ok (.iload_n 2, 1) := by decide +kernel
theorem dX6_loses_135 : decode cX6_loses 135 = .ok (.iadd, 1) := by decide +kernel
theorem dX6_loses_136 : decode cX6_loses 136 = .ok (.iload 7, 2) := by decide +kernel
theorem dX6_loses_138 : decode cX6_loses 138 = .ok (.iastore, 1) := by decide +kernel
theorem dX6_loses_139 : decode cX6_loses 139 = .ok (.iinc 5 1, 3) := by decide +kernel
theorem dX6_loses_142 : decode cX6_loses 142 = .ok (.goto (-139), 3) := by decide +kernel
theorem dX6_loses_145 : decode cX6_loses 145 = .ok (.return_, 1) := by decide +kernel
theorem dX6_barns_0 : decode cX6_barns 0 = .ok (.aload_n 0, 1) := by decide +kernel
theorem dX6_barns_1 : decode cX6_barns 1 = .ok (.iconst 0, 1) := by decide +kernel
theorem dX6_barns_2 : decode cX6_barns 2 = .ok (.putfield 129, 3) := by decide +kernel
theorem dX6_barns_5 : decode cX6_barns 5 = .ok (.aload_n 0, 1) := by decide +kernel
theorem dX6_barns_6 : decode cX6_barns 6 = .ok (.iload_n 1, 1) := by decide +kernel
theorem dX6_barns_7 : decode cX6_barns 7 = .ok (.invokevirtual 407, 3) := by decide +kernel
theorem dX6_barns_10 : decode cX6_barns 10 = .ok (.ifCond .eq 59, 3) := by decide +kernel
theorem dX6_barns_13 : decode cX6_barns 13 = .ok (.aload_n 0, 1) := by decide +kernel
theorem dX6_barns_14 : decode cX6_barns 14 = .ok (.iload_n 2, 1) := by decide +kernel
theorem dX6_barns_15 : decode cX6_barns 15 = .ok (.invokevirtual 407, 3) := by decide +kernel
theorem dX6_barns_18 : decode cX6_barns 18 = .ok (.ifCond .eq 51, 3) := by decide +kernel
theorem dX6_barns_21 : decode cX6_barns 21 = .ok (.aload_n 0, 1) := by decide +kernel
theorem dX6_barns_22 : decode cX6_barns 22 = .ok (.iload 5, 2) := by decide +kernel
theorem dX6_barns_24 : decode cX6_barns 24 = .ok (.iconst 1, 1) := by decide +kernel
theorem dX6_barns_25 : decode cX6_barns 25 = .ok (.invokevirtual 398, 3) := by decide +kernel
theorem dX6_barns_28 : decode cX6_barns 28 = .ok (.ifCond .eq 41, 3) := by decide +kernel
theorem dX6_barns_31 : decode cX6_barns 31 = .ok (.aload_n 0, 1) := by decide +kernel
theorem dX6_barns_32 : decode cX6_barns 32 = .ok (.iload_n 1, 1) := by decide +kernel
theorem dX6_barns_33 : decode cX6_barns 33 = .ok (.iload_n 2, 1) := by decide +kernel
theorem dX6_barns_34 : decode cX6_barns 34 = .ok (.if_icmp .eq 27, 3) := by decide +kernel
theorem dX6_barns_37 : decode cX6_barns 37 = .ok (.iload_n 3, 1) := by decide +kernel
theorem dX6_barns_38 : decode cX6_barns 38 = .ok (.iconst 1, 1) := by decide +kernel
theorem dX6_barns_39 : decode cX6_barns 39 = .ok (.iconst 5, 1) := by decide +kernel
theorem dX6_barns_40 : decode cX6_barns 40 = .ok (.invokestatic 385, 3) := by decide +kernel
theorem dX6_barns_43 : decode cX6_barns 43 = .ok (.ifCond .eq 18, 3) := by decide +kernel
theorem dX6_barns_46 : decode cX6_barns 46 = .ok (.iload 4, 2) := by decide +kernel
theorem dX6_barns_48 : decode cX6_barns 48 = .ok (.iconst 0, 1) := by decide +kernel
theorem dX6_barns_49 : decode cX6_barns 49 = .ok (.bipush 99, 2) := by decide +kernel
theorem dX6_barns_51 : decode cX6_barns 51 = .ok (.invokestatic 385, 3) := by decide +kernel
theorem dX6_barns_54 : decode cX6_barns 54 = .ok (.ifCond .eq 7, 3) := by decide +kernel
theorem dX6_barns_57 : decode cX6_barns 57 = .ok (.iconst 1, 1) := by decide +kernel
theorem dX6_barns_58 : decode cX6_barns 58 = .ok (.goto 4, 3) := by decide +kernel
theorem dX6_barns_61 : decode cX6_barns 61 = .ok (.iconst 0, 1) := by decide +kernel
theorem dX6_barns_62 : decode cX6_barns 62 = .ok (.iconst 2, 1) := by decide +kernel
theorem dX6_barns_63 : decode cX6_barns 63 = .ok (.invokevirtual 290, 3) := by decide +kernel
theorem dX6_barns_66 : decode cX6_barns 66 = .ok (.ifCond .ne 5, 3) := by decide +kernel
theorem dX6_barns_69 : decode cX6_barns 69 = .ok (.iconst 0, 1) := by decide +kernel
theorem dX6_barns_70 : decode cX6_barns 70 = .ok (.ireturn, 1) := by decide +kernel
theorem dX6_barns_71 : decode cX6_barns 71 = .ok (.aload_n 0, 1) := by decide +kernel
theorem dX6_barns_72 : decode cX6_barns 72 = .ok (.iload_n 1, 1) := by decide +kernel
theorem dX6_barns_73 : decode cX6_barns 73 = .ok (.iload_n 2, 1) := by decide +kernel
theorem dX6_barns_74 : decode cX6_barns 74 = .ok (.iload_n 3, 1) := by decide +kernel
theorem dX6_barns_75 : decode cX6_barns 75 = .ok (.iload 4, 2) := by decide +kernel
theorem dX6_barns_77 : decode cX6_barns 77 = .ok (.invokevirtual 453, 3) := by decide +kernel
theorem dX6_barns_80 : decode cX6_barns 80 = .ok (.iconst 0, 1) := by decide +kernel
theorem dX6_barns_81 : decode cX6_barns 81 = .ok (.istore 6, 2) := by decide +kernel
theorem dX6_barns_83 : decode cX6_barns 83 = .ok (.iconst (-1), 1) := by decide +kernel
theorem dX6_barns_84 : decode cX6_barns 84 = .ok (.istore 7, 2) := by decide +kernel
theorem dX6_barns_86 : decode cX6_barns 86 = .ok (.iconst 0, 1) := by decide +kernel
theorem dX6_barns_87 : decode cX6_barns 87 = .ok (.istore 8, 2) := by decide +kernel
theorem dX6_barns_89 : decode cX6_barns 89 = .ok (.iload 8, 2) := by decide +kernel
theorem dX6_barns_91 : decode cX6_barns 91 = .ok (.iconst 4, 1) := by decide +kernel
theorem dX6_barns_92 : decode cX6_barns 92 = .ok (.if_icmp .ge 109, 3) := by decide +kernel
theorem dX6_barns_95 : decode cX6_barns 95 = .ok (.iload 8, 2) := by decide +kernel
theorem dX6_barns_97 : decode cX6_barns 97 = .ok (.iconst 2, 1) := by decide +kernel
theorem dX6_barns_98 : decode cX6_barns 98 = .ok (.iadd, 1) := by decide +kernel
theorem dX6_barns_99 : decode cX6_barns 99 = .ok (.iconst 4, 1) := by decide +kernel
theorem dX6_barns_100 : decode cX6_barns 100 = .ok (.irem, 1) := by decide +kernel
theorem dX6_barns_101 : decode cX6_barns 101 = .ok (.istore 9, 2) := by decide +kernel
theorem dX6_barns_103 : decode cX6_barns 103 = .ok (.iload 8, 2) := by decide +kernel
theorem dX6_barns_105 : decode cX6_barns 105 = .ok (.iconst 2, 1) := by decide +kernel
theorem dX6_barns_106 : decode cX6_barns 106 = .ok (.irem, 1) := by decide +kernel
theorem dX6_barns_107 : decode cX6_barns 107 = .ok (.ifCond .ne 10, 3) := by decide +kernel
theorem dX6_barns_110 : decode cX6_barns 110 = .ok (.iload 8, 2) := by decide +kernel
theorem dX6_barns_112 : decode cX6_barns 112 = .ok (.iconst 1, 1) := by decide +kernel
theorem dX6_barns_113 : decode cX6_barns 113 = .ok (.iadd, 1) := by decide +kernel
theorem dX6_barns_114 : decode cX6_barns 114 = .ok (.goto 7, 3) := by decide +kernel
theorem dX6_barns_117 : decode cX6_barns 117 = .ok (.iload 8, 2) := by decide +kernel
theorem dX6_barns_119 : decode cX6_barns 119 = .ok (.iconst 1, 1) := by decide +kernel
theorem dX6_barns_120 : decode cX6_barns 120 = .ok (.isub, 1) := by decide +kernel
theorem dX6_barns_121 : decode cX6_barns 121 = .ok (.istore 10, 2) := by decide +kernel
theorem dX6_barns_123 : decode cX6_barns 123 = .ok (.aload_n 0, 1) := by decide +kernel
theorem dX6_barns_124 : decode cX6_barns 124 = .ok (.getfield 114, 3) := by decide +kernel
theorem dX6_barns_127 : decode cX6_barns 127 = .ok (.iconst 2, 1) := by decide +kernel
theorem dX6_barns_128 : decode cX6_barns 128 = .ok (.iload 9, 2) := by decide +kernel
theorem dX6_barns_130 : decode cX6_barns 130 = .ok (.imul, 1) := by decide +kernel
theorem dX6_barns_131 : decode cX6_barns 131 = .ok (.iaload, 1) := by decide +kernel
theorem dX6_barns_132 : decode cX6_barns 132 = .ok (.aload_n 0, 1) := by decide +kernel
theorem dX6_barns_133 : decode cX6_barns 133 = .ok (.getfield 114, 3) := by decide +kernel
theorem dX6_barns_136 : decode cX6_barns 136 = .ok (.iconst 2, 1) := by decide +kernel
theorem dX6_barns_137 : decode cX6_barns 137 = .ok (.iload 8, 2) := by decide +kernel
theorem dX6_barns_139 : decode cX6_barns 139 = .ok (.imul, 1) := by decide +kernel
theorem dX6_barns_140 : decode cX6_barns 140 = .ok (.iaload, 1) := by decide +kernel
theorem dX6_barns_141 : decode cX6_barns 141 = .ok (.if_icmp .lt 54, 3) := by decide +kernel
theorem dX6_barns_144 : decode cX6_barns 144 = .ok (.aload_n 0, 1) := by decide +kernel
theorem dX6_barns_145 : decode cX6_barns 145 = .ok (.getfield 114, 3) := by decide +kernel
theorem dX6_barns_148 : decode cX6_barns 148 = .ok (.iconst 2, 1) := by decide +kernel
theorem dX6_barns_149 : decode cX6_barns 149 = .ok (.iload 10, 2) := by decide +kernel
theorem dX6_barns_151 : decode cX6_barns 151 = .ok (.imul, 1) := by decide +kernel
theorem dX6_barns_152 : decode cX6_barns 152 = .ok (.iconst 1, 1) := by decide +kernel
theorem dX6_barns_153 : decode cX6_barns 153 = .ok (.iadd, 1) := by decide +kernel
theorem dX6_barns_154 : decode cX6_barns 154 = .ok (.iaload, 1) := by decide +kernel
theorem dX6_barns_155 : decode cX6_barns 155 = .ok (.aload_n 0, 1) := by decide +kernel
theorem dX6_barns_156 : decode cX6_barns 156 = .ok (.getfield 114, 3) := by decide +kernel
theorem dX6_barns_159 : decode cX6_barns 159 = .ok (.iconst 2, 1) := by decide +kernel
theorem dX6_barns_160 : decode cX6_barns 160 = .ok (.iload 8, 2) := by decide +kernel
theorem dX6_barns_162 : decode cX6_barns 162 = .ok (.imul, 1) := by decide +kernel
theorem dX6_barns_163 : decode cX6_barns 163 = .ok (.iconst 1, 1) := by decide +kernel
theorem dX6_barns_164 : decode cX6_barns 164 = .ok (.iadd, 1) := by decide +kernel
theorem dX6_barns_165 : decode cX6_barns 165 = .ok (.iaload, 1) := by decide +kernel
theorem dX6_barns_166 : decode cX6_barns 166 = .ok (.if_icmp .ge 6, 3) := by decide +kernel
theorem dX6_barns_169 : decode cX6_barns 169 = .ok (.goto 26, 3) := by decide +kernel
theorem dX6_barns_172 : decode cX6_barns 172 = .ok (.iinc 6 1, 3) := by decide +kernel
theorem dX6_barns_175 : decode cX6_barns 175 = .ok (.iload 7, 2) := by decide +kernel
theorem dX6_barns_177 : decode cX6_barns 177 = .ok (.iconst (-1), 1) := by decide +kernel
theorem dX6_barns_178 : decode cX6_barns 178 = .ok (.if_icmp .ne 17, 3) := by decide +kernel
theorem dX6_barns_181 : decode cX6_barns 181 = .ok (.bipush 10, 2) := by decide +kernel
theorem dX6_barns_183 : decode cX6_barns 183 = .ok (.iload 8, 2) := by decide +kernel
theorem dX6_barns_185 : decode cX6_barns 185 = .ok (.iconst 2, 1) := by decide +kernel
theorem dX6_barns_186 : decode cX6_barns 186 = .ok (.idiv, 1) := by decide +kernel
theorem dX6_barns_187 : decode cX6_barns 187 = .ok (.imul, 1) := by decide +kernel
theorem dX6_barns_188 : decode cX6_barns 188 = .ok (.iload 8, 2) := by decide +kernel
theorem dX6_barns_190 : decode cX6_barns 190 = .ok (.iconst 2, 1) := by decide +kernel
theorem dX6_barns_191 : decode cX6_barns 191 = .ok (.irem, 1) := by decide +kernel
theorem dX6_barns_192 : decode cX6_barns 192 = .ok (.iadd, 1) := by decide +kernel
theorem dX6_barns_193 : decode cX6_barns 193 = .ok (.istore 7, 2) := by decide +kernel
theorem dX6_barns_195 : decode cX6_barns 195 = .ok (.iinc 8 1, 3) := by decide +kernel
theorem dX6_barns_198 : decode cX6_barns 198 = .ok (.goto (-109), 3) := by decide +kernel
theorem dX6_barns_201 : decode cX6_barns 201 = .ok (.iload 5, 2) := by decide +kernel
theorem dX6_barns_203 : decode cX6_barns 203 = .ok (.ifCond .ne 8, 3) := by decide +kernel
theorem dX6_barns_206 : decode cX6_barns 206 = .ok (.iload 6, 2) := by decide +kernel
theorem dX6_barns_208 : decode cX6_barns 208 = .ok (.goto 5, 3) := by decide +kernel
theorem dX6_barns_211 : decode cX6_barns 211 = .ok (.iload 7, 2) := by decide +kernel
theorem dX6_barns_213 : decode cX6_barns 213 = .ok (.ireturn, 1) := by decide +kernel
theorem dX6_tell_0 : decode cX6_tell 0 = .ok (.aload_n 0, 1) := by decide +kernel
theorem dX6_tell_1 : decode cX6_tell 1 = .ok (.iconst 0, 1) := by decide +kernel
theorem dX6_tell_2 : decode cX6_tell 2 = .ok (.putfield 129, 3) := by decide +kernel
theorem dX6_tell_5 : decode cX6_tell 5 = .ok (.aload_n 0, 1) := by decide +kernel
theorem dX6_tell_6 : decode cX6_tell 6 = .ok (.iload_n 1, 1) := by decide +kernel
theorem dX6_tell_7 : decode cX6_tell 7 = .ok (.invokevirtual 407, 3) := by decide +kernel
theorem dX6_tell_10 : decode cX6_tell 10 = .ok (.ifCond .ne 5, 3) := by decide +kernel
theorem dX6_tell_13 : decode cX6_tell 13 = .ok (.iconst 0, 1) := by decide +kernel
theorem dX6_tell_14 : decode cX6_tell 14 = .ok (.ireturn, 1) := by decide +kernel
theorem dX6_tell_15 : decode cX6_tell 15 = .ok (.aload_n 0, 1) := by decide +kernel
theorem dX6_tell_16 : decode cX6_tell 16 = .ok (.getfield 313, 3) := by decide +kernel
theorem dX6_tell_19 : decode cX6_tell 19 = .ok (.bipush 6, 2) := by decide +kernel
theorem dX6_tell_21 : decode cX6_tell 21 = .ok (.if_icmp .eq 13, 3) := by decide +kernel
theorem dX6_tell_24 : decode cX6_tell 24 = .ok (.iload_n 2, 1) := by decide +kernel
theorem dX6_tell_25 : decode cX6_tell 25 = .ok (.iconst 0, 1) := by decide +kernel
theorem dX6_tell_26 : decode cX6_tell 26 = .ok (.bipush 99, 2) := by decide +kernel
theorem dX6_tell_28 : decode cX6_tell 28 = .ok (.invokestatic 385, 3) := by decide +kernel
theorem dX6_tell_31 : decode cX6_tell 31 = .ok (.ifCond .ne 10, 3) := by decide +kernel
theorem dX6_tell_34 : decode cX6_tell 34 = .ok (.aload_n 0, 1) := by decide +kernel
theorem dX6_tell_35 : decode cX6_tell 35 = .ok (.iconst 2, 1) := by decide +kernel
theorem dX6_tell_36 : decode cX6_tell 36 = .ok (.iconst (-1), 1) := by decide +kernel
theorem dX6_tell_37 : decode cX6_tell 37 = .ok (.invokevirtual 413, 3) := by decide +kernel
theorem dX6_tell_40 : decode cX6_tell 40 = .ok (.ireturn, 1) := by decide +kernel
theorem dX6_tell_41 : decode cX6_tell 41 = .ok (.aload_n 0, 1) := by decide +kernel
theorem dX6_tell_42 : decode cX6_tell 42 = .ok (.getfield 117, 3) := by decide +kernel
theorem dX6_tell_45 : decode cX6_tell 45 = .ok (.iconst 2, 1) := by decide +kernel
theorem dX6_tell_46 : decode cX6_tell 46 = .ok (.aload_n 0, 1) := by decide +kernel
theorem dX6_tell_47 : decode cX6_tell 47 = .ok (.getfield 313, 3) := by decide +kernel
theorem dX6_tell_50 : decode cX6_tell 50 = .ok (.imul, 1) := by decide +kernel
theorem dX6_tell_51 : decode cX6_tell 51 = .ok (.iload_n 1, 1) := by decide +kernel
theorem dX6_tell_52 : decode cX6_tell 52 = .ok (.iastore, 1) := by decide +kernel
theorem dX6_tell_53 : decode cX6_tell 53 = .ok (.aload_n 0, 1) := by decide +kernel
theorem dX6_tell_54 : decode cX6_tell 54 = .ok (.getfield 117, 3) := by decide +kernel
theorem dX6_tell_57 : decode cX6_tell 57 = .ok (.iconst 2, 1) := by decide +kernel
theorem dX6_tell_58 : decode cX6_tell 58 = .ok (.aload_n 0, 1) := by decide +kernel
theorem dX6_tell_59 : decode cX6_tell 59 = .ok (.getfield 313, 3) := by decide +kernel
theorem dX6_tell_62 : decode cX6_tell 62 = .ok (.imul, 1) := by decide +kernel
theorem dX6_tell_63 : decode cX6_tell 63 = .ok (.iconst 1, 1) := by decide +kernel
theorem dX6_tell_64 : decode cX6_tell 64 = .ok (.iadd, 1) := by decide +kernel
theorem dX6_tell_65 : decode cX6_tell 65 = .ok (.iload_n 2, 1) := by decide +kernel
theorem dX6_tell_66 : decode cX6_tell 66 = .ok (.iastore, 1) := by decide +kernel
theorem dX6_tell_67 : decode cX6_tell 67 = .ok (.aload_n 0, 1) := by decide +kernel
theorem dX6_tell_68 : decode cX6_tell 68 = .ok (.dup, 1) := by decide +kernel
theorem dX6_tell_69 : decode cX6_tell 69 = .ok (.getfield 313, 3) := by decide +kernel
theorem dX6_tell_72 : decode cX6_tell 72 = .ok (.iconst 1, 1) := by decide +kernel
theorem dX6_tell_73 : decode cX6_tell 73 = .ok (.iadd, 1) := by decide +kernel
theorem dX6_tell_74 : decode cX6_tell 74 = .ok (.putfield 313, 3) := by decide +kernel
theorem dX6_tell_77 : decode cX6_tell 77 = .ok (.aload_n 0, 1) := by decide +kernel
theorem dX6_tell_78 : decode cX6_tell 78 = .ok (.getfield 313, 3) := by decide +kernel
theorem dX6_tell_81 : decode cX6_tell 81 = .ok (.ireturn, 1) := by decide +kernel
theorem dX6_forget_0 : decode cX6_forget 0 = .ok (.aload_n 0, 1) := by decide +kernel
theorem dX6_forget_1 : decode cX6_forget 1 = .ok (.iconst 0, 1) := by decide +kernel
theorem dX6_forget_2 : decode cX6_forget 2 = .ok (.putfield 129, 3) := by decide +kernel
theorem dX6_forget_5 : decode cX6_forget 5 = .ok (.aload_n 0, 1) := by decide +kernel
theorem dX6_forget_6 : decode cX6_forget 6 = .ok (.iconst 0, 1) := by decide +kernel
theorem dX6_forget_7 : decode cX6_forget 7 = .ok (.putfield 313, 3) := by decide +kernel
theorem dX6_forget_10 : decode cX6_forget 10 = .ok (.return_, 1) := by decide +kernel
theorem dX6_liarsNow_0 : decode cX6_liarsNow 0 = .ok (.aload_n 0, 1) := by decide +kernel
theorem dX6_liarsNow_1 : decode cX6_liarsNow 1 = .ok (.invokevirtual 379, 3) := by decide +kernel
theorem dX6_liarsNow_4 : decode cX6_liarsNow 4 = .ok (.iconst 0, 1) := by decide +kernel
theorem dX6_liarsNow_5 : decode cX6_liarsNow 5 = .ok (.istore_n 1, 1) := by decide +kernel
theorem dX6_liarsNow_6 : decode cX6_liarsNow 6 = .ok (.iconst 0, 1) := by decide +kernel
theorem dX6_liarsNow_7 : decode cX6_liarsNow 7 = .ok (.istore_n 2, 1) := by decide +kernel
theorem dX6_liarsNow_8 : decode cX6_liarsNow 8 = .ok (.iload_n 2, 1) := by decide +kernel
theorem dX6_liarsNow_9 : decode cX6_liarsNow 9 = .ok (.aload_n 0, 1) := by decide +kernel
theorem dX6_liarsNow_10 : decode cX6_liarsNow 10 = .ok (.getfield 313, 3) := by decide +kernel
theorem dX6_liarsNow_13 : decode cX6_liarsNow 13 = .ok (.if_icmp .ge 55, 3) := by decide +kernel
theorem dX6_liarsNow_16 : decode cX6_liarsNow 16 = .ok (.aload_n 0, 1) := by decide +kernel
theorem dX6_liarsNow_17 : decode cX6_liarsNow 17 = .ok (.aload_n 0, 1) := by decide +kernel
theorem dX6_liarsNow_18 : decode cX6_liarsNow 18 = .ok (.getfield 117, 3) := by decide +kernel
theorem dX6_liarsNow_21 : decode cX6_liarsNow 21 = .ok (.iconst 2, 1) := by decide +kernel
theorem dX6_liarsNow_22 : decode cX6_liarsNow 22 = .ok (.iload_n 2, 1) := by decide +kernel
theorem dX6_liarsNow_23 : decode cX6_liarsNow 23 = .ok (.imul, 1) := by decide +kernel
theorem dX6_liarsNow_24 : decode cX6_liarsNow 24 = .ok (.iaload, 1) := by decide +kernel
theorem dX6_liarsNow_25 : decode cX6_liarsNow 25 = .ok (.invokevirtual 364, 3) := by decide +kernel
theorem dX6_liarsNow_28 : decode cX6_liarsNow 28 = .ok (.iload_n 1, 1) := by decide +kernel
theorem dX6_liarsNow_29 : decode cX6_liarsNow 29 = .ok (.aload_n 0, 1) := by decide +kernel
theorem dX6_liarsNow_30 : decode cX6_liarsNow 30 = .ok (.getfield 354, 3) := by decide +kernel
theorem dX6_liarsNow_33 : decode cX6_liarsNow 33 = .ok (.aload_n 0, 1) := by decide +kernel
theorem dX6_liarsNow_34 : decode cX6_liarsNow 34 = .ok (.getfield 117, 3) := by decide +kernel
theorem dX6_liarsNow_37 : decode cX6_liarsNow 37 = .ok (.iconst 2, 1) := by decide +kernel
theorem dX6_liarsNow_38 : decode cX6_liarsNow 38 = .ok (.iload_n 2, 1) := by decide +kernel
theorem dX6_liarsNow_39 : decode cX6_liarsNow 39 = .ok (.imul, 1) := by decide +kernel
theorem dX6_liarsNow_40 : decode cX6_liarsNow 40 = .ok (.iconst 1, 1) := by decide +kernel
theorem dX6_liarsNow_41 : decode cX6_liarsNow 41 = .ok (.iadd, 1) := by decide +kernel
theorem dX6_liarsNow_42 : decode cX6_liarsNow 42 = .ok (.iaload, 1) := by decide +kernel
theorem dX6_liarsNow_43 : decode cX6_liarsNow 43 = .ok (.if_icmp .eq 16, 3) := by decide +kernel
theorem dX6_liarsNow_46 : decode cX6_liarsNow 46 = .ok (.iconst 1, 1) := by decide +kernel
theorem dX6_liarsNow_47 : decode cX6_liarsNow 47 = .ok (.aload_n 0, 1) := by decide +kernel
theorem dX6_liarsNow_48 : decode cX6_liarsNow 48 = .ok (.getfield 117, 3) := by decide +kernel
theorem dX6_liarsNow_51 : decode cX6_liarsNow 51 = .ok (.iconst 2, 1) := by decide +kernel
theorem dX6_liarsNow_52 : decode cX6_liarsNow 52 = .ok (.iload_n 2, 1) := by decide +kernel
theorem dX6_liarsNow_53 : decode cX6_liarsNow 53 = .ok (.imul, 1) := by decide +kernel
theorem dX6_liarsNow_54 : decode cX6_liarsNow 54 = .ok (.iaload, 1) := by decide +kernel
theorem dX6_liarsNow_55 : decode cX6_liarsNow 55 = .ok (.ishl, 1) := by decide +kernel
theorem dX6_liarsNow_56 : decode cX6_liarsNow 56 = .ok (.goto 4, 3) := by decide +kernel
theorem dX6_liarsNow_59 : decode cX6_liarsNow 59 = .ok (.iconst 0, 1) := by decide +kernel
theorem dX6_liarsNow_60 : decode cX6_liarsNow 60 = .ok (.ior, 1) := by decide +kernel
theorem dX6_liarsNow_61 : decode cX6_liarsNow 61 = .ok (.istore_n 1, 1) := by decide +kernel
theorem dX6_liarsNow_62 : decode cX6_liarsNow 62 = .ok (.iinc 2 1, 3) := by decide +kernel
theorem dX6_liarsNow_65 : decode cX6_liarsNow 65 = .ok (.goto (-57), 3) := by decide +kernel
theorem dX6_liarsNow_68 : decode cX6_liarsNow 68 = .ok (.iload_n 1, 1) := by decide +kernel
theorem dX6_liarsNow_69 : decode cX6_liarsNow 69 = .ok (.ireturn, 1) := by decide +kernel
theorem dX6_liars_0 : decode cX6_liars 0 = .ok (.aload_n 0, 1) := by decide +kernel
theorem dX6_liars_1 : decode cX6_liars 1 = .ok (.iconst 0, 1) := by decide +kernel
theorem dX6_liars_2 : decode cX6_liars 2 = .ok (.putfield 129, 3) := by decide +kernel
theorem dX6_liars_5 : decode cX6_liars 5 = .ok (.aload_n 0, 1) := by decide +kernel
theorem dX6_liars_6 : decode cX6_liars 6 = .ok (.invokevirtual 457, 3) := by decide +kernel
theorem dX6_liars_9 : decode cX6_liars 9 = .ok (.ireturn, 1) := by decide +kernel
theorem dX6_heights_0 : decode cX6_heights 0 = .ok (.aload_n 0, 1) := by decide +kernel
theorem dX6_heights_1 : decode cX6_heights 1 = .ok (.iconst 0, 1) := by decide +kernel
theorem dX6_heights_2 : decode cX6_heights 2 = .ok (.putfield 129, 3) := by decide +kernel
theorem dX6_heights_5 : decode cX6_heights 5 = .ok (.aload_n 0, 1) := by decide +kernel
theorem dX6_heights_6 : decode cX6_heights 6 = .ok (.iload_n 1, 1) := by decide +kernel
theorem dX6_heights_7 : decode cX6_heights 7 = .ok (.invokevirtual 395, 3) := by decide +kernel
theorem dX6_heights_10 : decode cX6_heights 10 = .ok (.ifCond .eq 12, 3) := by decide +kernel
theorem dX6_heights_13 : decode cX6_heights 13 = .ok (.aload_n 0, 1) := by decide +kernel
theorem dX6_heights_14 : decode cX6_heights 14 = .ok (.iload_n 2, 1) := by decide +kernel
theorem dX6_heights_15 : decode cX6_heights 15 = .ok (.iconst 1, 1) := by decide +kernel
theorem dX6_heights_16 : decode cX6_heights 16 = .ok (.invokevirtual 398, 3) := by decide +kernel
theorem dX6_heights_19 : decode cX6_heights 19 = .ok (.ifCond .ne 5, 3) := by decide +kernel
theorem dX6_heights_22 : decode cX6_heights 22 = .ok (.iconst 0, 1) := by decide +kernel
theorem dX6_heights_23 : decode cX6_heights 23 = .ok (.ireturn, 1) := by decide +kernel
theorem dX6_heights_24 : decode cX6_heights 24 = .ok (.aload_n 0, 1) := by decide +kernel
theorem dX6_heights_25 : decode cX6_heights 25 = .ok (.getfield 16, 3) := by decide +kernel
theorem dX6_heights_28 : decode cX6_heights 28 = .ok (.iload_n 1, 1) := by decide +kernel
theorem dX6_heights_29 : decode cX6_heights 29 = .ok (.iaload, 1) := by decide +kernel
theorem dX6_heights_30 : decode cX6_heights 30 = .ok (.istore_n 3, 1) := by decide +kernel
theorem dX6_heights_31 : decode cX6_heights 31 = .ok (.iconst 0, 1) := by decide +kernel
theorem dX6_heights_32 : decode cX6_heights 32 = .ok (.istore 4, 2) := by decide +kernel
theorem dX6_heights_34 : decode cX6_heights 34 = .ok (.iconst (-1), 1) := by decide +kernel
theorem dX6_heights_35 : decode cX6_heights 35 = .ok (.istore 5, 2) := by decide +kernel
theorem dX6_heights_37 : decode cX6_heights 37 = .ok (.bipush 9, 2) := by decide +kernel
theorem dX6_heights_39 : decode cX6_heights 39 = .ok (.istore 6, 2) := by decide +kernel
theorem dX6_heights_41 : decode cX6_heights 41 = .ok (.iload 6, 2) := by decide +kernel
theorem dX6_heights_43 : decode cX6_heights 43 = .ok (.ifCond .lt 34, 3) := by decide +kernel
