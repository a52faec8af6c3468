theorem dX5_seen_5 : decode cX5_seen 5 = .ok (.aload_n 0, 1) := by decide +kernel
theorem dX5_seen_6 : decode cX5_seen 6 = .ok (.invokevirtual 126, 3) := by decide +kernel
theorem dX5_seen_9 : decode cX5_seen 9 = .ok (.iload_n 1, 1) := by decide +kernel
theorem dX5_seen_10 : decode cX5_seen 10 = .ok (.invokevirtual 194, 3) := by decide +kernel
theorem dX5_seen_13 : decode cX5_seen 13 = .ok (.aload_n 0, 1) := by decide +kernel
theorem dX5_seen_14 : decode cX5_seen 14 = .ok (.getfield 37, 3) := by decide +kernel
theorem dX5_seen_17 : decode cX5_seen 17 = .ok (.getfield 200, 3) := by decide +kernel
theorem dX5_seen_20 : decode cX5_seen 20 = .ok (.lreturn, 1) := by decide +kernel
theorem dX5_years_0 : decode cX5_years 0 = .ok (.iload_n 1, 1) := by decide +kernel
theorem dX5_years_1 : decode cX5_years 1 = .ok (.iconst 1, 1) := by decide +kernel
theorem dX5_years_2 : decode cX5_years 2 = .ok (.if_icmp .lt 27, 3) := by decide +kernel
theorem dX5_years_5 : decode cX5_years 5 = .ok (.iload_n 1, 1) := by decide +kernel
theorem dX5_years_6 : decode cX5_years 6 = .ok (.bipush 20, 2) := by decide +kernel
theorem dX5_years_8 : decode cX5_years 8 = .ok (.if_icmp .gt 21, 3) := by decide +kernel
theorem dX5_years_11 : decode cX5_years 11 = .ok (.aload_n 0, 1) := by decide +kernel
theorem dX5_years_12 : decode cX5_years 12 = .ok (.getfield 44, 3) := by decide +kernel
theorem dX5_years_15 : decode cX5_years 15 = .ok (.getfield 109, 3) := by decide +kernel
theorem dX5_years_18 : decode cX5_years 18 = .ok (.bipush 61, 2) := by decide +kernel
theorem dX5_years_20 : decode cX5_years 20 = .ok (.iaload, 1) := by decide +kernel
theorem dX5_years_21 : decode cX5_years 21 = .ok (.iload_n 1, 1) := by decide +kernel
theorem dX5_years_22 : decode cX5_years 22 = .ok (.iadd, 1) := by decide +kernel
theorem dX5_years_23 : decode cX5_years 23 = .ok (.sipush 999, 3) := by decide +kernel
theorem dX5_years_26 : decode cX5_years 26 = .ok (.if_icmp .le 15, 3) := by decide +kernel
theorem dX5_years_29 : decode cX5_years 29 = .ok (.aload_n 0, 1) := by decide +kernel
theorem dX5_years_30 : decode cX5_years 30 = .ok (.dup, 1) := by decide +kernel
theorem dX5_years_31 : decode cX5_years 31 = .ok (.getfield 140, 3) := by decide +kernel
theorem dX5_years_34 : decode cX5_years 34 = .ok (.iconst 1, 1) := by decide +kernel
theorem dX5_years_35 : decode cX5_years 35 = .ok (.iadd, 1) := by decide +kernel
theorem dX5_years_36 : decode cX5_years 36 = .ok (.putfield 140, 3) := by decide +kernel
theorem dX5_years_39 : decode cX5_years 39 = .ok (.iconst (-1), 1) := by decide +kernel
theorem dX5_years_40 : decode cX5_years 40 = .ok (.ireturn, 1) := by decide +kernel
theorem dX5_years_41 : decode cX5_years 41 = .ok (.aload_n 0, 1) := by decide +kernel
theorem dX5_years_42 : decode cX5_years 42 = .ok (.getfield 44, 3) := by decide +kernel
theorem dX5_years_45 : decode cX5_years 45 = .ok (.invokevirtual 204, 3) := by decide +kernel
theorem dX5_years_48 : decode cX5_years 48 = .ok (.aload_n 0, 1) := by decide +kernel
theorem dX5_years_49 : decode cX5_years 49 = .ok (.invokevirtual 126, 3) := by decide +kernel
theorem dX5_years_52 : decode cX5_years 52 = .ok (.pop, 1) := by decide +kernel
theorem dX5_years_53 : decode cX5_years 53 = .ok (.iconst 0, 1) := by decide +kernel
theorem dX5_years_54 : decode cX5_years 54 = .ok (.istore_n 2, 1) := by decide +kernel
theorem dX5_years_55 : decode cX5_years 55 = .ok (.iload_n 2, 1) := by decide +kernel
theorem dX5_years_56 : decode cX5_years 56 = .ok (.iload_n 1, 1) := by decide +kernel
theorem dX5_years_57 : decode cX5_years 57 = .ok (.if_icmp .ge 17, 3) := by decide +kernel
theorem dX5_years_60 : decode cX5_years 60 = .ok (.aload_n 0, 1) := by decide +kernel
theorem dX5_years_61 : decode cX5_years 61 = .ok (.getfield 37, 3) := by decide +kernel
theorem dX5_years_64 : decode cX5_years 64 = .ok (.invokevirtual 207, 3) := by decide +kernel
theorem dX5_years_67 : decode cX5_years 67 = .ok (.pop, 1) := by decide +kernel
theorem dX5_years_68 : decode cX5_years 68 = .ok (.iinc 2 1, 3) := by decide +kernel
theorem dX5_years_71 : decode cX5_years 71 = .ok (.goto (-16), 3) := by decide +kernel
theorem dX5_years_74 : decode cX5_years 74 = .ok (.aload_n 0, 1) := by decide +kernel
theorem dX5_years_75 : decode cX5_years 75 = .ok (.getfield 37, 3) := by decide +kernel
theorem dX5_years_78 : decode cX5_years 78 = .ok (.getfield 210, 3) := by decide +kernel
theorem dX5_years_81 : decode cX5_years 81 = .ok (.iconst 0, 1) := by decide +kernel
theorem dX5_years_82 : decode cX5_years 82 = .ok (.aload_n 0, 1) := by decide +kernel
theorem dX5_years_83 : decode cX5_years 83 = .ok (.getfield 44, 3) := by decide +kernel
theorem dX5_years_86 : decode cX5_years 86 = .ok (.getfield 109, 3) := by decide +kernel
theorem dX5_years_89 : decode cX5_years 89 = .ok (.iconst 0, 1) := by decide +kernel
theorem dX5_years_90 : decode cX5_years 90 = .ok (.bipush 62, 2) := by decide +kernel
theorem dX5_years_92 : decode cX5_years 92 = .ok (.invokestatic 211, 3) := by decide +kernel
theorem dX5_years_95 : decode cX5_years 95 = .ok (.aload_n 0, 1) := by decide +kernel
theorem dX5_years_96 : decode cX5_years 96 = .ok (.getfield 44, 3) := by decide +kernel
theorem dX5_years_99 : decode cX5_years 99 = .ok (.getfield 109, 3) := by decide +kernel
theorem dX5_years_102 : decode cX5_years 102 = .ok (.bipush 61, 2) := by decide +kernel
theorem dX5_years_104 : decode cX5_years 104 = .ok (.iaload, 1) := by decide +kernel
theorem dX5_years_105 : decode cX5_years 105 = .ok (.ireturn, 1) := by decide +kernel
theorem dX5_plant_0 : decode cX5_plant 0 = .ok (.aload_n 0, 1) := by decide +kernel
theorem dX5_plant_1 : decode cX5_plant 1 = .ok (.iload_n 1, 1) := by decide +kernel
theorem dX5_plant_2 : decode cX5_plant 2 = .ok (.invokevirtual 151, 3) := by decide +kernel
theorem dX5_plant_5 : decode cX5_plant 5 = .ok (.aload_n 0, 1) := by decide +kernel
theorem dX5_plant_6 : decode cX5_plant 6 = .ok (.getfield 44, 3) := by decide +kernel
theorem dX5_plant_9 : decode cX5_plant 9 = .ok (.getfield 109, 3) := by decide +kernel
theorem dX5_plant_12 : decode cX5_plant 12 = .ok (.invokestatic 217, 3) := by decide +kernel
theorem dX5_plant_15 : decode cX5_plant 15 = .ok (.istore_n 3, 1) := by decide +kernel
theorem dX5_plant_16 : decode cX5_plant 16 = .ok (.aload_n 0, 1) := by decide +kernel
theorem dX5_plant_17 : decode cX5_plant 17 = .ok (.getfield 44, 3) := by decide +kernel
theorem dX5_plant_20 : decode cX5_plant 20 = .ok (.getfield 109, 3) := by decide +kernel
theorem dX5_plant_23 : decode cX5_plant 23 = .ok (.iload_n 1, 1) := by decide +kernel
theorem dX5_plant_24 : decode cX5_plant 24 = .ok (.invokestatic 160, 3) := by decide +kernel
theorem dX5_plant_27 : decode cX5_plant 27 = .ok (.iconst (-1), 1) := by decide +kernel
theorem dX5_plant_28 : decode cX5_plant 28 = .ok (.if_icmp .ne 15, 3) := by decide +kernel
theorem dX5_plant_31 : decode cX5_plant 31 = .ok (.aload_n 0, 1) := by decide +kernel
theorem dX5_plant_32 : decode cX5_plant 32 = .ok (.getfield 10, 3) := by decide +kernel
theorem dX5_plant_35 : decode cX5_plant 35 = .ok (.iload_n 1, 1) := by decide +kernel
theorem dX5_plant_36 : decode cX5_plant 36 = .ok (.invokevirtual 164, 3) := by decide +kernel
theorem dX5_plant_39 : decode cX5_plant 39 = .ok (.iconst (-1), 1) := by decide +kernel
theorem dX5_plant_40 : decode cX5_plant 40 = .ok (.if_icmp .eq 7, 3) := by decide +kernel
theorem dX5_plant_43 : decode cX5_plant 43 = .ok (.iconst 1, 1) := by decide +kernel
theorem dX5_plant_44 : decode cX5_plant 44 = .ok (.goto 4, 3) := by decide +kernel
theorem dX5_plant_47 : decode cX5_plant 47 = .ok (.iconst 0, 1) := by decide +kernel
theorem dX5_plant_48 : decode cX5_plant 48 = .ok (.istore 4, 2) := by decide +kernel
theorem dX5_plant_50 : decode cX5_plant 50 = .ok (.iload_n 2, 1) := by decide +kernel
theorem dX5_plant_51 : decode cX5_plant 51 = .ok (.iconst 1, 1) := by decide +kernel
theorem dX5_plant_52 : decode cX5_plant 52 = .ok (.if_icmp .lt 19, 3) := by decide +kernel
theorem dX5_plant_55 : decode cX5_plant 55 = .ok (.iload_n 2, 1) := by decide +kernel
theorem dX5_plant_56 : decode cX5_plant 56 = .ok (.bipush 9, 2) := by decide +kernel
theorem dX5_plant_58 : decode cX5_plant 58 = .ok (.if_icmp .gt 13, 3) := by decide +kernel
theorem dX5_plant_61 : decode cX5_plant 61 = .ok (.iload_n 3, 1) := by decide +kernel
theorem dX5_plant_62 : decode cX5_plant 62 = .ok (.iconst (-1), 1) := by decide +kernel
theorem dX5_plant_63 : decode cX5_plant 63 = .ok (.if_icmp .eq 8, 3) := by decide +kernel
theorem dX5_plant_66 : decode cX5_plant 66 = .ok (.iload 4, 2) := by decide +kernel
theorem dX5_plant_68 : decode cX5_plant 68 = .ok (.ifCond .eq 15, 3) := by decide +kernel
theorem dX5_plant_71 : decode cX5_plant 71 = .ok (.aload_n 0, 1) := by decide +kernel
theorem dX5_plant_72 : decode cX5_plant 72 = .ok (.dup, 1) := by decide +kernel
theorem dX5_plant_73 : decode cX5_plant 73 = .ok (.getfield 140, 3) := by decide +kernel
theorem dX5_plant_76 : decode cX5_plant 76 = .ok (.iconst 1, 1) := by decide +kernel
theorem dX5_plant_77 : decode cX5_plant 77 = .ok (.iadd, 1) := by decide +kernel
theorem dX5_plant_78 : decode cX5_plant 78 = .ok (.putfield 140, 3) := by decide +kernel
theorem dX5_plant_81 : decode cX5_plant 81 = .ok (.iconst (-1), 1) := by decide +kernel
theorem dX5_plant_82 : decode cX5_plant 82 = .ok (.ireturn, 1) := by decide +kernel
theorem dX5_plant_83 : decode cX5_plant 83 = .ok (.aload_n 0, 1) := by decide +kernel
theorem dX5_plant_84 : decode cX5_plant 84 = .ok (.getfield 44, 3) := by decide +kernel
theorem dX5_plant_87 : decode cX5_plant 87 = .ok (.invokevirtual 204, 3) := by decide +kernel
theorem dX5_plant_90 : decode cX5_plant 90 = .ok (.aload_n 0, 1) := by decide +kernel
theorem dX5_plant_91 : decode cX5_plant 91 = .ok (.getfield 44, 3) := by decide +kernel
theorem dX5_plant_94 : decode cX5_plant 94 = .ok (.getfield 109, 3) := by decide +kernel
theorem dX5_plant_97 : decode cX5_plant 97 = .ok (.iconst 0, 1) := by decide +kernel
theorem dX5_plant_98 : decode cX5_plant 98 = .ok (.iload_n 3, 1) := by decide +kernel
theorem dX5_plant_99 : decode cX5_plant 99 = .ok (.iadd, 1) := by decide +kernel
theorem dX5_plant_100 : decode cX5_plant 100 = .ok (.iload_n 1, 1) := by decide +kernel
theorem dX5_plant_101 : decode cX5_plant 101 = .ok (.iastore, 1) := by decide +kernel
theorem dX5_plant_102 : decode cX5_plant 102 = .ok (.aload_n 0, 1) := by decide +kernel
theorem dX5_plant_103 : decode cX5_plant 103 = .ok (.getfield 44, 3) := by decide +kernel
theorem dX5_plant_106 : decode cX5_plant 106 = .ok (.getfield 109, 3) := by decide +kernel
theorem dX5_plant_109 : decode cX5_plant 109 = .ok (.bipush 12, 2) := by decide +kernel
theorem dX5_plant_111 : decode cX5_plant 111 = .ok (.iload_n 3, 1) := by decide +kernel
theorem dX5_plant_112 : decode cX5_plant 112 = .ok (.iadd, 1) := by decide +kernel
theorem dX5_plant_113 : decode cX5_plant 113 = .ok (.iconst 1, 1) := by decide +kernel
theorem dX5_plant_114 : decode cX5_plant 114 = .ok (.iastore, 1) := by decide +kernel
theorem dX5_plant_115 : decode cX5_plant 115 = .ok (.aload_n 0, 1) := by decide +kernel
theorem dX5_plant_116 : decode cX5_plant 116 = .ok (.getfield 44, 3) := by decide +kernel
theorem dX5_plant_119 : decode cX5_plant 119 = .ok (.getfield 109, 3) := by decide +kernel
theorem dX5_plant_122 : decode cX5_plant 122 = .ok (.bipush 24, 2) := by decide +kernel
theorem dX5_plant_124 : decode cX5_plant 124 = .ok (.iload_n 3, 1) := by decide +kernel
theorem dX5_plant_125 : decode cX5_plant 125 = .ok (.iadd, 1) := by decide +kernel
theorem dX5_plant_126 : decode cX5_plant 126 = .ok (.iload_n 2, 1) := by decide +kernel
theorem dX5_plant_127 : decode cX5_plant 127 = .ok (.iastore, 1) := by decide +kernel
theorem dX5_plant_128 : decode cX5_plant 128 = .ok (.iload_n 3, 1) := by decide +kernel
theorem dX5_plant_129 : decode cX5_plant 129 = .ok (.ireturn, 1) := by decide +kernel
theorem dX5_fell_0 : decode cX5_fell 0 = .ok (.aload_n 0, 1) := by decide +kernel
theorem dX5_fell_1 : decode cX5_fell 1 = .ok (.iload_n 1, 1) := by decide +kernel
theorem dX5_fell_2 : decode cX5_fell 2 = .ok (.invokevirtual 170, 3) := by decide +kernel
theorem dX5_fell_5 : decode cX5_fell 5 = .ok (.aload_n 0, 1) := by decide +kernel
theorem dX5_fell_6 : decode cX5_fell 6 = .ok (.getfield 44, 3) := by decide +kernel
theorem dX5_fell_9 : decode cX5_fell 9 = .ok (.getfield 109, 3) := by decide +kernel
theorem dX5_fell_12 : decode cX5_fell 12 = .ok (.iconst 0, 1) := by decide +kernel
theorem dX5_fell_13 : decode cX5_fell 13 = .ok (.iload_n 1, 1) := by decide +kernel
theorem dX5_fell_14 : decode cX5_fell 14 = .ok (.iadd, 1) := by decide +kernel
theorem dX5_fell_15 : decode cX5_fell 15 = .ok (.iaload, 1) := by decide +kernel
theorem dX5_fell_16 : decode cX5_fell 16 = .ok (.istore_n 2, 1) := by decide +kernel
theorem dX5_fell_17 : decode cX5_fell 17 = .ok (.aload_n 0, 1) := by decide +kernel
theorem dX5_fell_18 : decode cX5_fell 18 = .ok (.getfield 44, 3) := by decide +kernel
theorem dX5_fell_21 : decode cX5_fell 21 = .ok (.invokevirtual 204, 3) := by decide +kernel
theorem dX5_fell_24 : decode cX5_fell 24 = .ok (.aload_n 0, 1) := by decide +kernel
theorem dX5_fell_25 : decode cX5_fell 25 = .ok (.getfield 44, 3) := by decide +kernel
theorem dX5_fell_28 : decode cX5_fell 28 = .ok (.getfield 109, 3) := by decide +kernel
theorem dX5_fell_31 : decode cX5_fell 31 = .ok (.iconst 0, 1) := by decide +kernel
theorem dX5_fell_32 : decode cX5_fell 32 = .ok (.iload_n 1, 1) := by decide +kernel
theorem dX5_fell_33 : decode cX5_fell 33 = .ok (.iadd, 1) := by decide +kernel
theorem dX5_fell_34 : decode cX5_fell 34 = .ok (.iconst (-1), 1) := by decide +kernel
theorem dX5_fell_35 : decode cX5_fell 35 = .ok (.iastore, 1) := by decide +kernel
theorem dX5_fell_36 : decode cX5_fell 36 = .ok (.iload_n 2, 1) := by decide +kernel
theorem dX5_fell_37 : decode cX5_fell 37 = .ok (.ireturn, 1) := by decide +kernel
theorem dX5_floor_0 : decode cX5_floor 0 = .ok (.aload_n 0, 1) := by decide +kernel
theorem dX5_floor_1 : decode cX5_floor 1 = .ok (.iload_n 1, 1) := by decide +kernel
theorem dX5_floor_2 : decode cX5_floor 2 = .ok (.invokevirtual 173, 3) := by decide +kernel
theorem dX5_floor_5 : decode cX5_floor 5 = .ok (.iload_n 2, 1) := by decide +kernel
theorem dX5_floor_6 : decode cX5_floor 6 = .ok (.bipush (-3), 2) := by decide +kernel
theorem dX5_floor_8 : decode cX5_floor 8 = .ok (.if_icmp .lt 8, 3) := by decide +kernel
theorem dX5_floor_11 : decode cX5_floor 11 = .ok (.iload_n 2, 1) := by decide +kernel
theorem dX5_floor_12 : decode cX5_floor 12 = .ok (.iconst 3, 1) := by decide +kernel
theorem dX5_floor_13 : decode cX5_floor 13 = .ok (.if_icmp .le 16, 3) := by decide +kernel
theorem dX5_floor_16 : decode cX5_floor 16 = .ok (.aload_n 0, 1) := by decide +kernel
theorem dX5_floor_17 : decode cX5_floor 17 = .ok (.dup, 1) := by decide +kernel
theorem dX5_floor_18 : decode cX5_floor 18 = .ok (.getfield 140, 3) := by decide +kernel
theorem dX5_floor_21 : decode cX5_floor 21 = .ok (.iconst 1, 1) := by decide +kernel
theorem dX5_floor_22 : decode cX5_floor 22 = .ok (.iadd, 1) := by decide +kernel
theorem dX5_floor_23 : decode cX5_floor 23 = .ok (.putfield 140, 3) := by decide +kernel
theorem dX5_floor_26 : decode cX5_floor 26 = .ok (.bipush (-9), 2) := by decide +kernel
theorem dX5_floor_28 : decode cX5_floor 28 = .ok (.ireturn, 1) := by decide +kernel
theorem dX5_floor_29 : decode cX5_floor 29 = .ok (.aload_n 0, 1) := by decide +kernel
theorem dX5_floor_30 : decode cX5_floor 30 = .ok (.bipush 42, 2) := by decide +kernel
theorem dX5_floor_32 : decode cX5_floor 32 = .ok (.iload_n 1, 1) := by decide +kernel
theorem dX5_floor_33 : decode cX5_floor 33 = .ok (.iadd, 1) := by decide +kernel
theorem dX5_floor_34 : decode cX5_floor 34 = .ok (.iload_n 2, 1) := by decide +kernel
theorem dX5_floor_35 : decode cX5_floor 35 = .ok (.invokevirtual 220, 3) := by decide +kernel
theorem dX5_floor_38 : decode cX5_floor 38 = .ok (.ireturn, 1) := by decide +kernel
theorem dX5_barn_0 : decode cX5_barn 0 = .ok (.aload_n 0, 1) := by decide +kernel
theorem dX5_barn_1 : decode cX5_barn 1 = .ok (.iload_n 1, 1) := by decide +kernel
theorem dX5_barn_2 : decode cX5_barn 2 = .ok (.invokevirtual 173, 3) := by decide +kernel
theorem dX5_barn_5 : decode cX5_barn 5 = .ok (.iload_n 2, 1) := by decide +kernel
theorem dX5_barn_6 : decode cX5_barn 6 = .ok (.ifCond .lt 8, 3) := by decide +kernel
theorem dX5_barn_9 : decode cX5_barn 9 = .ok (.iload_n 2, 1) := by decide +kernel
theorem dX5_barn_10 : decode cX5_barn 10 = .ok (.iconst 5, 1) := by decide +kernel
theorem dX5_barn_11 : decode cX5_barn 11 = .ok (.if_icmp .le 15, 3) := by decide +kernel
theorem dX5_barn_14 : decode cX5_barn 14 = .ok (.aload_n 0, 1) := by decide +kernel
theorem dX5_barn_15 : decode cX5_barn 15 = .ok (.dup, 1) := by decide +kernel
theorem dX5_barn_16 : decode cX5_barn 16 = .ok (.getfield 140, 3) := by decide +kernel
theorem dX5_barn_19 : decode cX5_barn 19 = .ok (.iconst 1, 1) := by decide +kernel
theorem dX5_barn_20 : decode cX5_barn 20 = .ok (.iadd, 1) := by decide +kernel
theorem dX5_barn_21 : decode cX5_barn 21 = .ok (.putfield 140, 3) := by decide +kernel
theorem dX5_barn_24 : decode cX5_barn 24 = .ok (.iconst (-1), 1) := by decide +kernel
theorem dX5_barn_25 : decode cX5_barn 25 = .ok (.ireturn, 1) := by decide +kernel
theorem dX5_barn_26 : decode cX5_barn 26 = .ok (.aload_n 0, 1) := by decide +kernel
theorem dX5_barn_27 : decode cX5_barn 27 = .ok (.bipush 48, 2) := by decide +kernel
theorem dX5_barn_29 : decode cX5_barn 29 = .ok (.iload_n 1, 1) := by decide +kernel
theorem dX5_barn_30 : decode cX5_barn 30 = .ok (.iadd, 1) := by decide +kernel
theorem dX5_barn_31 : decode cX5_barn 31 = .ok (.iload_n 2, 1) := by decide +kernel
theorem dX5_barn_32 : decode cX5_barn 32 = .ok (.invokevirtual 220, 3) := by decide +kernel
theorem dX5_barn_35 : decode cX5_barn 35 = .ok (.ireturn, 1) := by decide +kernel
theorem dX5_sell_0 : decode cX5_sell 0 = .ok (.aload_n 0, 1) := by decide +kernel
theorem dX5_sell_1 : decode cX5_sell 1 = .ok (.iload_n 1, 1) := by decide +kernel
theorem dX5_sell_2 : decode cX5_sell 2 = .ok (.invokevirtual 173, 3) := by decide +kernel
theorem dX5_sell_5 : decode cX5_sell 5 = .ok (.iload_n 2, 1) := by decide +kernel
theorem dX5_sell_6 : decode cX5_sell 6 = .ok (.invokestatic 191, 3) := by decide +kernel
theorem dX5_sell_9 : decode cX5_sell 9 = .ok (.aload_n 0, 1) := by decide +kernel
theorem dX5_sell_10 : decode cX5_sell 10 = .ok (.getfield 44, 3) := by decide +kernel
theorem dX5_sell_13 : decode cX5_sell 13 = .ok (.getfield 109, 3) := by decide +kernel
theorem dX5_sell_16 : decode cX5_sell 16 = .ok (.bipush 54, 2) := by decide +kernel
theorem dX5_sell_18 : decode cX5_sell 18 = .ok (.iload_n 1, 1) := by decide +kernel
theorem dX5_sell_19 : decode cX5_sell 19 = .ok (.iadd, 1) := by decide +kernel
theorem dX5_sell_20 : decode cX5_sell 20 = .ok (.iaload, 1) := by decide +kernel
theorem dX5_sell_21 : decode cX5_sell 21 = .ok (.istore_n 3, 1) := by decide +kernel
theorem dX5_sell_22 : decode cX5_sell 22 = .ok (.iload_n 3, 1) := by decide +kernel
theorem dX5_sell_23 : decode cX5_sell 23 = .ok (.i2l, 1) := by decide +kernel
theorem dX5_sell_24 : decode cX5_sell 24 = .ok (.iload_n 2, 1) := by decide +kernel
theorem dX5_sell_25 : decode cX5_sell 25 = .ok (.invokestatic 224, 3) := by decide +kernel
theorem dX5_sell_28 : decode cX5_sell 28 = .ok (.ifCond .eq 15, 3) := by decide +kernel
theorem dX5_sell_31 : decode cX5_sell 31 = .ok (.aload_n 0, 1) := by decide +kernel
theorem dX5_sell_32 : decode cX5_sell 32 = .ok (.dup, 1) := by decide +kernel
theorem dX5_sell_33 : decode cX5_sell 33 = .ok (.getfield 140, 3) := by decide +kernel
theorem dX5_sell_36 : decode cX5_sell 36 = .ok (.iconst 1, 1) := by decide +kernel
theorem dX5_sell_37 : decode cX5_sell 37 = .ok (.iadd, 1) := by decide +kernel
theorem dX5_sell_38 : decode cX5_sell 38 = .ok (.putfield 140, 3) := by decide +kernel
theorem dX5_sell_41 : decode cX5_sell 41 = .ok (.iconst 0, 1) := by decide +kernel
theorem dX5_sell_42 : decode cX5_sell 42 = .ok (.ireturn, 1) := by decide +kernel
theorem dX5_sell_43 : decode cX5_sell 43 = .ok (.aload_n 0, 1) := by decide +kernel
theorem dX5_sell_44 : decode cX5_sell 44 = .ok (.bipush 54, 2) := by decide +kernel
theorem dX5_sell_46 : decode cX5_sell 46 = .ok (.iload_n 1, 1) := by decide +kernel
theorem dX5_sell_47 : decode cX5_sell 47 = .ok (.iadd, 1) := by decide +kernel
theorem dX5_sell_48 : decode cX5_sell 48 = .ok (.iload_n 3, 1) := by decide +kernel
theorem dX5_sell_49 : decode cX5_sell 49 = .ok (.iconst 1, 1) := by decide +kernel
theorem dX5_sell_50 : decode cX5_sell 50 = .ok (.iload_n 2, 1) := by decide +kernel
theorem dX5_sell_51 : decode cX5_sell 51 = .ok (.ishl, 1) := by decide +kernel
theorem dX5_sell_52 : decode cX5_sell 52 = .ok (.ior, 1) := by decide +kernel
theorem dX5_sell_53 : decode cX5_sell 53 = .ok (.invokevirtual 220, 3) := by decide +kernel
theorem dX5_sell_56 : decode cX5_sell 56 = .ok (.pop, 1) := by decide +kernel
theorem dX5_sell_57 : decode cX5_sell 57 = .ok (.iconst 1, 1) := by decide +kernel
theorem dX5_sell_58 : decode cX5_sell 58 = .ok (.ireturn, 1) := by decide +kernel
theorem dX5_obey_0 : decode cX5_obey 0 = .ok (.aload_n 0, 1) := by decide +kernel
theorem dX5_obey_1 : decode cX5_obey 1 = .ok (.iload_n 1, 1) := by decide +kernel
theorem dX5_obey_2 : decode cX5_obey 2 = .ok (.invokevirtual 228, 3) := by decide +kernel
theorem dX5_obey_5 : decode cX5_obey 5 = .ok (.ifCond .ne 15, 3) := by decide +kernel
theorem dX5_obey_8 : decode cX5_obey 8 = .ok (.aload_n 0, 1) := by decide +kernel
theorem dX5_obey_9 : decode cX5_obey 9 = .ok (.dup, 1) := by decide +kernel
theorem dX5_obey_10 : decode cX5_obey 10 = .ok (.getfield 140, 3) := by decide +kernel
theorem dX5_obey_13 : decode cX5_obey 13 = .ok (.iconst 1, 1) := by decide +kernel
theorem dX5_obey_14 : decode cX5_obey 14 = .ok (.iadd, 1) := by decide +kernel
theorem dX5_obey_15 : decode cX5_obey 15 = .ok (.putfield 140, 3) := by decide +kernel
theorem dX5_obey_18 : decode cX5_obey 18 = .ok (.iconst 0, 1) := by decide +kernel
theorem dX5_obey_19 : decode cX5_obey 19 = .ok (.ireturn, 1) := by decide +kernel
theorem dX5_obey_20 : decode cX5_obey 20 = .ok (.aload_n 0, 1) := by decide +kernel
theorem dX5_obey_21 : decode cX5_obey 21 = .ok (.bipush 60, 2) := by decide +kernel
theorem dX5_obey_23 : decode cX5_obey 23 = .ok (.iload_n 1, 1) := by decide +kernel
theorem dX5_obey_24 : decode cX5_obey 24 = .ok (.invokevirtual 220, 3) := by decide +kernel
theorem dX5_obey_27 : decode cX5_obey 27 = .ok (.pop, 1) := by decide +kernel
theorem dX5_obey_28 : decode cX5_obey 28 = .ok (.iconst 1, 1) := by decide +kernel
theorem dX5_obey_29 : decode cX5_obey 29 = .ok (.ireturn, 1) := by decide +kernel
theorem dX5_actOn_0 : decode cX5_actOn 0 = .ok (.aload_n 0, 1) := by decide +kernel
theorem dX5_actOn_1 : decode cX5_actOn 1 = .ok (.getfield 44, 3) := by decide +kernel
theorem dX5_actOn_4 : decode cX5_actOn 4 = .ok (.getfield 109, 3) := by decide +kernel
theorem dX5_actOn_7 : decode cX5_actOn 7 = .ok (.iload_n 1, 1) := by decide +kernel
theorem dX5_actOn_8 : decode cX5_actOn 8 = .ok (.iaload, 1) := by decide +kernel
theorem dX5_actOn_9 : decode cX5_actOn 9 = .ok (.istore_n 3, 1) := by decide +kernel
theorem dX5_actOn_10 : decode cX5_actOn 10 = .ok (.aload_n 0, 1) := by decide +kernel
theorem dX5_actOn_11 : decode cX5_actOn 11 = .ok (.getfield 44, 3) := by decide +kernel
theorem dX5_actOn_14 : decode cX5_actOn 14 = .ok (.invokevirtual 204, 3) := by decide +kernel
theorem dX5_actOn_17 : decode cX5_actOn 17 = .ok (.aload_n 0, 1) := by decide +kernel
theorem dX5_actOn_18 : decode cX5_actOn 18 = .ok (.getfield 44, 3) := by decide +kernel
theorem dX5_actOn_21 : decode cX5_actOn 21 = .ok (.getfield 109, 3) := by decide +kernel
theorem dX5_actOn_24 : decode cX5_actOn 24 = .ok (.iload_n 1, 1) := by decide +kernel
theorem dX5_actOn_25 : decode cX5_actOn 25 = .ok (.iload_n 2, 1) := by decide +kernel
theorem dX5_actOn_26 : decode cX5_actOn 26 = .ok (.iastore, 1) := by decide +kernel
theorem dX5_actOn_27 : decode cX5_actOn 27 = .ok (.iload_n 3, 1) := by decide +kernel
theorem dX5_actOn_28 : decode cX5_actOn 28 = .ok (.ireturn, 1) := by decide +kernel
theorem dX5_undo_0 : decode cX5_undo 0 = .ok (.aload_n 0, 1) := by decide +kernel
theorem dX5_undo_1 : decode cX5_undo 1 = .ok (.getfield 44, 3) := by decide +kernel
theorem dX5_undo_4 : decode cX5_undo 4 = .ok (.invokevirtual 232, 3) := by decide +kernel
theorem dX5_undo_7 : decode cX5_undo 7 = .ok (.ifCond .eq 13, 3) := by decide +kernel
theorem dX5_undo_10 : decode cX5_undo 10 = .ok (.aload_n 0, 1) := by decide +kernel
theorem dX5_undo_11 : decode cX5_undo 11 = .ok (.getfield 44, 3) := by decide +kernel
theorem dX5_undo_14 : decode cX5_undo 14 = .ok (.getfield 134, 3) := by decide +kernel
theorem dX5_undo_17 : decode cX5_undo 17 = .ok (.goto 4, 3) := by decide +kernel
theorem dX5_undo_20 : decode cX5_undo 20 = .ok (.iconst (-1), 1) := by decide +kernel
theorem dX5_undo_21 : decode cX5_undo 21 = .ok (.ireturn, 1) := by decide +kernel
theorem dX5_firs_0 : decode cX5_firs 0 = .ok (.iload_n 1, 1) := by decide +kernel
theorem dX5_firs_1 : decode cX5_firs 1 = .ok (.aload_n 0, 1) := by decide +kernel
theorem dX5_firs_2 : decode cX5_firs 2 = .ok (.invokevirtual 236, 3) := by decide +kernel
theorem dX5_firs_5 : decode cX5_firs 5 = .ok (.iconst (-1), 1) := by decide +kernel
theorem dX5_firs_6 : decode cX5_firs 6 = .ok (.ixor, 1) := by decide +kernel
theorem dX5_firs_7 : decode cX5_firs 7 = .ok (.iand, 1) := by decide +kernel
theorem dX5_firs_8 : decode cX5_firs 8 = .ok (.ifCond .ne 10, 3) := by decide +kernel
theorem dX5_firs_11 : decode cX5_firs 11 = .ok (.iload_n 2, 1) := by decide +kernel
theorem dX5_firs_12 : decode cX5_firs 12 = .ok (.invokestatic 239, 3) := by decide +kernel
theorem dX5_firs_15 : decode cX5_firs 15 = .ok (.ifCond .ne 13, 3) := by decide +kernel
theorem dX5_firs_18 : decode cX5_firs 18 = .ok (.new 73, 3) := by decide +kernel
theorem dX5_firs_21 : decode cX5_firs 21 = .ok (.dup, 1) := by decide +kernel
theorem dX5_firs_22 : decode cX5_firs 22 = .ok (.ldc 242, 2) := by decide +kernel
theorem dX5_firs_24 : decode cX5_firs 24 = .ok (.invokespecial 77, 3) := by decide +kernel
theorem dX5_firs_27 : decode cX5_firs 27 = .ok (.athrow, 1) := by decide +kernel
theorem dX5_firs_28 : decode cX5_firs 28 = .ok (.aload_n 0, 1) := by decide +kernel
theorem dX5_firs_29 : decode cX5_firs 29 = .ok (.invokevirtual 126, 3) := by decide +kernel
theorem dX5_firs_32 : decode cX5_firs 32 = .ok (.iload_n 1, 1) := by decide +kernel
theorem dX5_firs_33 : decode cX5_firs 33 = .ok (.iload_n 2, 1) := by decide +kernel
theorem dX5_firs_34 : decode cX5_firs 34 = .ok (.invokevirtual 244, 3) := by decide +kernel
theorem dX5_firs_37 : decode cX5_firs 37 = .ok (.ifCond .eq 11, 3) := by decide +kernel
theorem dX5_firs_40 : decode cX5_firs 40 = .ok (.aload_n 0, 1) := by decide +kernel
theorem dX5_firs_41 : decode cX5_firs 41 = .ok (.iconst 0, 1) := by decide +kernel
theorem dX5_firs_42 : decode cX5_firs 42 = .ok (.iconst 0, 1) := by decide +kernel
theorem dX5_firs_43 : decode cX5_firs 43 = .ok (.iconst 0, 1) := by decide +kernel
theorem dX5_firs_44 : decode cX5_firs 44 = .ok (.invokevirtual 248, 3) := by decide +kernel
theorem dX5_firs_47 : decode cX5_firs 47 = .ok (.ireturn, 1) := by decide +kernel
theorem dX5_firs_48 : decode cX5_firs 48 = .ok (.aload_n 0, 1) := by decide +kernel
theorem dX5_firs_49 : decode cX5_firs 49 = .ok (.getfield 37, 3) := by decide +kernel
theorem dX5_firs_52 : decode cX5_firs 52 = .ok (.invokevirtual 252, 3) := by decide +kernel
theorem dX5_firs_55 : decode cX5_firs 55 = .ok (.aload_n 0, 1) := by decide +kernel
theorem dX5_firs_56 : decode cX5_firs 56 = .ok (.getfield 37, 3) := by decide +kernel
theorem dX5_firs_59 : decode cX5_firs 59 = .ok (.iload_n 1, 1) := by decide +kernel
theorem dX5_firs_60 : decode cX5_firs 60 = .ok (.invokevirtual 256, 3) := by decide +kernel
theorem dX5_firs_63 : decode cX5_firs 63 = .ok (.land, 1) := by decide +kernel
theorem dX5_firs_64 : decode cX5_firs 64 = .ok (.lstore_n 3, 1) := by decide +kernel
theorem dX5_firs_65 : decode cX5_firs 65 = .ok (.iconst 0, 1) := by decide +kernel
theorem dX5_firs_66 : decode cX5_firs 66 = .ok (.istore 5, 2) := by decide +kernel
theorem dX5_firs_68 : decode cX5_firs 68 = .ok (.iload 5, 2) := by decide +kernel
theorem dX5_firs_70 : decode cX5_firs 70 = .ok (.bipush 64, 2) := by decide +kernel
theorem dX5_firs_72 : decode cX5_firs 72 = .ok (.if_icmp .ge 39, 3) := by decide +kernel
theorem dX5_firs_75 : decode cX5_firs 75 = .ok (.lload_n 3, 1) := by decide +kernel
theorem dX5_firs_76 : decode cX5_firs 76 = .ok (.iload 5, 2) := by decide +kernel
theorem dX5_firs_78 : decode cX5_firs 78 = .ok (.invokestatic 224, 3) := by decide +kernel
theorem dX5_firs_81 : decode cX5_firs 81 = .ok (.ifCond .eq 24, 3) := by decide +kernel
theorem dX5_firs_84 : decode cX5_firs 84 = .ok (.aload_n 0, 1) := by decide +kernel
theorem dX5_firs_85 : decode cX5_firs 85 = .ok (.iload 5, 2) := by decide +kernel
theorem dX5_firs_87 : decode cX5_firs 87 = .ok (.iconst (-1), 1) := by decide +kernel
theorem dX5_firs_88 : decode cX5_firs 88 = .ok (.iload_n 1, 1) := by decide +kernel
theorem dX5_firs_89 : decode cX5_firs 89 = .ok (.iload_n 2, 1) := by decide +kernel
theorem dX5_firs_90 : decode cX5_firs 90 = .ok (.invokevirtual 260, 3) := by decide +kernel
theorem dX5_firs_93 : decode cX5_firs 93 = .ok (.ifCond .eq 12, 3) := by decide +kernel
theorem dX5_firs_96 : decode cX5_firs 96 = .ok (.aload_n 0, 1) := by decide +kernel
theorem dX5_firs_97 : decode cX5_firs 97 = .ok (.iconst 1, 1) := by decide +kernel
theorem dX5_firs_98 : decode cX5_firs 98 = .ok (.iload 5, 2) := by decide +kernel
theorem dX5_firs_100 : decode cX5_firs 100 = .ok (.iconst 0, 1) := by decide +kernel
theorem dX5_firs_101 : decode cX5_firs 101 = .ok (.invokevirtual 248, 3) := by decide +kernel
theorem dX5_firs_104 : decode cX5_firs 104 = .ok (.ireturn, 1) := by decide +kernel
theorem dX5_firs_105 : decode cX5_firs 105 = .ok (.iinc 5 1, 3) := by decide +kernel
theorem dX5_firs_108 : decode cX5_firs 108 = .ok (.goto (-40), 3) := by decide +kernel
theorem dX5_firs_111 : decode cX5_firs 111 = .ok (.iconst 0, 1) := by decide +kernel
theorem dX5_firs_112 : decode cX5_firs 112 = .ok (.istore 5, 2) := by decide +kernel
theorem dX5_firs_114 : decode cX5_firs 114 = .ok (.iload 5, 2) := by decide +kernel
theorem dX5_firs_116 : decode cX5_firs 116 = .ok (.bipush 64, 2) := by decide +kernel
theorem dX5_firs_118 : decode cX5_firs 118 = .ok (.if_icmp .ge 69, 3) := by decide +kernel
theorem dX5_firs_121 : decode cX5_firs 121 = .ok (.iload 5, 2) := by decide +kernel
theorem dX5_firs_123 : decode cX5_firs 123 = .ok (.iconst 1, 1) := by decide +kernel
theorem dX5_firs_124 : decode cX5_firs 124 = .ok (.iadd, 1) := by decide +kernel
theorem dX5_firs_125 : decode cX5_firs 125 = .ok (.istore 6, 2) := by decide +kernel
theorem dX5_firs_127 : decode cX5_firs 127 = .ok (.iload 6, 2) := by decide +kernel
theorem dX5_firs_129 : decode cX5_firs 129 = .ok (.bipush 64, 2) := by decide +kernel
theorem dX5_firs_131 : decode cX5_firs 131 = .ok (.if_icmp .ge 50, 3) := by decide +kernel
theorem dX5_firs_134 : decode cX5_firs 134 = .ok (.lload_n 3, 1) := by decide +kernel
theorem dX5_firs_135 : decode cX5_firs 135 = .ok (.iload 5, 2) := by decide +kernel
theorem dX5_firs_137 : decode cX5_firs 137 = .ok (.invokestatic 224, 3) := by decide +kernel
theorem dX5_firs_140 : decode cX5_firs 140 = .ok (.ifCond .eq 41, 3) := by decide +kernel
theorem dX5_firs_143 : decode cX5_firs 143 = .ok (.lload_n 3, 1) := by decide +kernel
theorem dX5_firs_144 : decode cX5_firs 144 = .ok (.iload 6, 2) := by decide +kernel
theorem dX5_firs_146 : decode cX5_firs 146 = .ok (.invokestatic 224, 3) := by decide +kernel
theorem dX5_firs_149 : decode cX5_firs 149 = .ok (.ifCond .eq 26, 3) := by decide +kernel
theorem dX5_firs_152 : decode cX5_firs 152 = .ok (.aload_n 0, 1) := by decide +kernel
theorem dX5_firs_153 : decode cX5_firs 153 = .ok (.iload 5, 2) := by decide +kernel
theorem dX5_firs_155 : decode cX5_firs 155 = .ok (.iload 6, 2) := by decide +kernel
theorem dX5_firs_157 : decode cX5_firs 157 = .ok (.iload_n 1, 1) := by decide +kernel
theorem dX5_firs_158 : decode cX5_firs 158 = .ok (.iload_n 2, 1) := by decide +kernel
theorem dX5_firs_159 : decode cX5_firs 159 = .ok (.invokevirtual 260, 3) := by decide +kernel
theorem dX5_firs_162 : decode cX5_firs 162 = .ok (.ifCond .eq 13, 3) := by decide +kernel
theorem dX5_firs_165 : decode cX5_firs 165 = .ok (.aload_n 0, 1) := by decide +kernel
theorem dX5_firs_166 : decode cX5_firs 166 = .ok (.iconst 2, 1) := by decide +kernel
theorem dX5_firs_167 : decode cX5_firs 167 = .ok (.iload 5, 2) := by decide +kernel
theorem dX5_firs_169 : decode cX5_firs 169 = .ok (.iload 6, 2) := by decide +kernel
theorem dX5_firs_171 : decode cX5_firs 171 = .ok (.invokevirtual 248, 3) := by decide +kernel
theorem dX5_firs_174 : decode cX5_firs 174 = .ok (.ireturn, 1) := by decide +kernel
theorem dX5_firs_175 : decode cX5_firs 175 = .ok (.iinc 6 1, 3) := by decide +kernel
theorem dX5_firs_178 : decode cX5_firs 178 = .ok (.goto (-51), 3) := by decide +kernel
theorem dX5_firs_181 : decode cX5_firs 181 = .ok (.iinc 5 1, 3) := by decide +kernel
theorem dX5_firs_184 : decode cX5_firs 184 = .ok (.goto (-70), 3) := by decide +kernel
theorem dX5_firs_187 : decode cX5_firs 187 = .ok (.iconst (-1), 1) := by decide +kernel
theorem dX5_firs_188 : decode cX5_firs 188 = .ok (.ireturn, 1) := by decide +kernel
theorem dX5_keepFirs_0 : decode cX5_keepFirs 0 = .ok (.aload_n 0, 1) := by decide +kernel
theorem dX5_keepFirs_1 : decode cX5_keepFirs 1 = .ok (.getfield 55, 3) := by decide +kernel
theorem dX5_keepFirs_4 : decode cX5_keepFirs 4 = .ok (.iconst 0, 1) := by decide +kernel
theorem dX5_keepFirs_5 : decode cX5_keepFirs 5 = .ok (.iload_n 2, 1) := by decide +kernel
theorem dX5_keepFirs_6 : decode cX5_keepFirs 6 = .ok (.iastore, 1) := by decide +kernel
theorem dX5_keepFirs_7 : decode cX5_keepFirs 7 = .ok (.aload_n 0, 1) := by decide +kernel
theorem dX5_keepFirs_8 : decode cX5_keepFirs 8 = .ok (.getfield 55, 3) := by decide +kernel
theorem dX5_keepFirs_11 : decode cX5_keepFirs 11 = .ok (.iconst 1, 1) := by decide +kernel
theorem dX5_keepFirs_12 : decode cX5_keepFirs 12 = .ok (.iload_n 3, 1) := by decide +kernel
theorem dX5_keepFirs_13 : decode cX5_keepFirs 13 = .ok (.iastore, 1) := by decide +kernel
theorem dX5_keepFirs_14 : decode cX5_keepFirs 14 = .ok (.aload_n 0, 1) := by decide +kernel
theorem dX5_keepFirs_15 : decode cX5_keepFirs 15 = .ok (.iload_n 1, 1) := by decide +kernel
theorem dX5_keepFirs_16 : decode cX5_keepFirs 16 = .ok (.putfield 97, 3) := by decide +kernel
theorem dX5_keepFirs_19 : decode cX5_keepFirs 19 = .ok (.iload_n 1, 1) := by decide +kernel
theorem dX5_keepFirs_20 : decode cX5_keepFirs 20 = .ok (.ireturn, 1) := by decide +kernel
theorem dX5_firsHelp_0 : decode cX5_firsHelp 0 = .ok (.aload_n 0, 1) := by decide +kernel
theorem dX5_firsHelp_1 : decode cX5_firsHelp 1 = .ok (.getfield 37, 3) := by decide +kernel
theorem dX5_firsHelp_4 : decode cX5_firsHelp 4 = .ok (.iload_n 1, 1) := by decide +kernel
theorem dX5_firsHelp_5 : decode cX5_firsHelp 5 = .ok (.bipush 9, 2) := by decide +kernel
theorem dX5_firsHelp_7 : decode cX5_firsHelp 7 = .ok (.invokevirtual 264, 3) := by decide +kernel
theorem dX5_firsHelp_10 : decode cX5_firsHelp 10 = .ok (.aload_n 0, 1) := by decide +kernel
theorem dX5_firsHelp_11 : decode cX5_firsHelp 11 = .ok (.getfield 37, 3) := by decide +kernel
theorem dX5_firsHelp_14 : decode cX5_firsHelp 14 = .ok (.iload_n 2, 1) := by decide +kernel
theorem dX5_firsHelp_15 : decode cX5_firsHelp 15 = .ok (.bipush 9, 2) := by decide +kernel
theorem dX5_firsHelp_17 : decode cX5_firsHelp 17 = .ok (.invokevirtual 264, 3) := by decide +kernel
theorem dX5_firsHelp_20 : decode cX5_firsHelp 20 = .ok (.aload_n 0, 1) := by decide +kernel
theorem dX5_firsHelp_21 : decode cX5_firsHelp 21 = .ok (.getfield 37, 3) := by decide +kernel
theorem dX5_firsHelp_24 : decode cX5_firsHelp 24 = .ok (.iload_n 3, 1) := by decide +kernel
theorem dX5_firsHelp_25 : decode cX5_firsHelp 25 = .ok (.iload 4, 2) := by decide +kernel
theorem dX5_firsHelp_27 : decode cX5_firsHelp 27 = .ok (.invokevirtual 244, 3) := by decide +kernel
theorem dX5_firsHelp_30 : decode cX5_firsHelp 30 = .ok (.istore 5, 2) := by decide +kernel
theorem dX5_firsHelp_32 : decode cX5_firsHelp 32 = .ok (.aload_n 0, 1) := by decide +kernel
theorem dX5_firsHelp_33 : decode cX5_firsHelp 33 = .ok (.getfield 37, 3) := by decide +kernel
theorem dX5_firsHelp_36 : decode cX5_firsHelp 36 = .ok (.iload_n 1, 1) := by decide +kernel
theorem dX5_firsHelp_37 : decode cX5_firsHelp 37 = .ok (.bipush (-9), 2) := by decide +kernel
theorem dX5_firsHelp_39 : decode cX5_firsHelp 39 = .ok (.invokevirtual 264, 3) := by decide +kernel
theorem dX5_firsHelp_42 : decode cX5_firsHelp 42 = .ok (.aload_n 0, 1) := by decide +kernel
theorem dX5_firsHelp_43 : decode cX5_firsHelp 43 = .ok (.getfield 37, 3) := by decide +kernel
theorem dX5_firsHelp_46 : decode cX5_firsHelp 46 = .ok (.iload_n 2, 1) := by decide +kernel
theorem dX5_firsHelp_47 : decode cX5_firsHelp 47 = .ok (.bipush (-9), 2) := by decide +kernel
theorem dX5_firsHelp_49 : decode cX5_firsHelp 49 = .ok (.invokevirtual 264, 3) := by decide +kernel
theorem dX5_firsHelp_52 : decode cX5_firsHelp 52 = .ok (.iload 5, 2) := by decide +kernel
theorem dX5_firsHelp_54 : decode cX5_firsHelp 54 = .ok (.ireturn, 1) := by decide +kernel
theorem dX5_fir_0 : decode cX5_fir 0 = .ok (.iload_n 1, 1) := by decide +kernel
theorem dX5_fir_1 : decode cX5_fir 1 = .ok (.ifCond .lt 20, 3) := by decide +kernel
theorem dX5_fir_4 : decode cX5_fir 4 = .ok (.iload_n 1, 1) := by decide +kernel
theorem dX5_fir_5 : decode cX5_fir 5 = .ok (.aload_n 0, 1) := by decide +kernel
theorem dX5_fir_6 : decode cX5_fir 6 = .ok (.getfield 97, 3) := by decide +kernel
theorem dX5_fir_9 : decode cX5_fir 9 = .ok (.if_icmp .ge 12, 3) := by decide +kernel
theorem dX5_fir_12 : decode cX5_fir 12 = .ok (.iload_n 1, 1) := by decide +kernel
theorem dX5_fir_13 : decode cX5_fir 13 = .ok (.aload_n 0, 1) := by decide +kernel
theorem dX5_fir_14 : decode cX5_fir 14 = .ok (.getfield 55, 3) := by decide +kernel
theorem dX5_fir_17 : decode cX5_fir 17 = .ok (.arraylength, 1) := by decide +kernel
theorem dX5_fir_18 : decode cX5_fir 18 = .ok (.if_icmp .lt 14, 3) := by decide +kernel
theorem dX5_fir_21 : decode cX5_fir 21 = .ok (.new 146, 3) := by decide +kernel
theorem dX5_fir_24 : decode cX5_fir 24 = .ok (.dup, 1) := by decide +kernel
theorem dX5_fir_25 : decode cX5_fir 25 = .ok (.ldc_w 268, 3) := by decide +kernel
theorem dX5_fir_28 : decode cX5_fir 28 = .ok (.invokespecial 150, 3) := by decide +kernel
theorem dX5_fir_31 : decode cX5_fir 31 = .ok (.athrow, 1) := by decide +kernel
theorem dX5_fir_32 : decode cX5_fir 32 = .ok (.aload_n 0, 1) := by decide +kernel
theorem dX5_fir_33 : decode cX5_fir 33 = .ok (.getfield 55, 3) := by decide +kernel
theorem dX5_fir_36 : decode cX5_fir 36 = .ok (.iload_n 1, 1) := by decide +kernel
theorem dX5_fir_37 : decode cX5_fir 37 = .ok (.iaload, 1) := by decide +kernel
theorem dX5_fir_38 : decode cX5_fir 38 = .ok (.ireturn, 1) := by decide +kernel
theorem dX5_spades_0 : decode cX5_spades 0 = .ok (.aload_n 0, 1) := by decide +kernel
theorem dX5_spades_1 : decode cX5_spades 1 = .ok (.iload_n 1, 1) := by decide +kernel
theorem dX5_spades_2 : decode cX5_spades 2 = .ok (.invokevirtual 173, 3) := by decide +kernel
theorem dX5_spades_5 : decode cX5_spades 5 = .ok (.iload_n 2, 1) := by decide +kernel
theorem dX5_spades_6 : decode cX5_spades 6 = .ok (.invokestatic 239, 3) := by decide +kernel
theorem dX5_spades_9 : decode cX5_spades 9 = .ok (.ifCond .ne 14, 3) := by decide +kernel
theorem dX5_spades_12 : decode cX5_spades 12 = .ok (.new 73, 3) := by decide +kernel
theorem dX5_spades_15 : decode cX5_spades 15 = .ok (.dup, 1) := by decide +kernel
theorem dX5_spades_16 : decode cX5_spades 16 = .ok (.ldc_w 270, 3) := by decide +kernel
theorem dX5_spades_19 : decode cX5_spades 19 = .ok (.invokespecial 77, 3) := by decide +kernel
theorem dX5_spades_22 : decode cX5_spades 22 = .ok (.athrow, 1) := by decide +kernel
theorem dX5_spades_23 : decode cX5_spades 23 = .ok (.aload_n 0, 1) := by decide +kernel
theorem dX5_spades_24 : decode cX5_spades 24 = .ok (.invokevirtual 126, 3) := by decide +kernel
theorem dX5_spades_27 : decode cX5_spades 27 = .ok (.pop, 1) := by decide +kernel
theorem dX5_spades_28 : decode cX5_spades 28 = .ok (.aload_n 0, 1) := by decide +kernel
theorem dX5_spades_29 : decode cX5_spades 29 = .ok (.getfield 37, 3) := by decide +kernel
theorem dX5_spades_32 : decode cX5_spades 32 = .ok (.getfield 210, 3) := by decide +kernel
theorem dX5_spades_35 : decode cX5_spades 35 = .ok (.bipush 42, 2) := by decide +kernel
theorem dX5_spades_37 : decode cX5_spades 37 = .ok (.iload_n 1, 1) := by decide +kernel
theorem dX5_spades_38 : decode cX5_spades 38 = .ok (.iadd, 1) := by decide +kernel
theorem dX5_spades_39 : decode cX5_spades 39 = .ok (.iaload, 1) := by decide +kernel
theorem dX5_spades_40 : decode cX5_spades 40 = .ok (.istore_n 3, 1) := by decide +kernel
theorem dX5_spades_41 : decode cX5_spades 41 = .ok (.iload_n 3, 1) := by decide +kernel
theorem dX5_spades_42 : decode cX5_spades 42 = .ok (.istore 4, 2) := by decide +kernel
theorem dX5_spades_44 : decode cX5_spades 44 = .ok (.iload 4, 2) := by decide +kernel
theorem dX5_spades_46 : decode cX5_spades 46 = .ok (.bipush (-3), 2) := by decide +kernel
theorem dX5_spades_48 : decode cX5_spades 48 = .ok (.if_icmp .lt 40, 3) := by decide +kernel
theorem dX5_spades_51 : decode cX5_spades 51 = .ok (.aload_n 0, 1) := by decide +kernel
theorem dX5_spades_52 : decode cX5_spades 52 = .ok (.getfield 37, 3) := by decide +kernel
theorem dX5_spades_55 : decode cX5_spades 55 = .ok (.getfield 210, 3) := by decide +kernel
theorem dX5_spades_58 : decode cX5_spades 58 = .ok (.bipush 42, 2) := by decide +kernel
theorem dX5_spades_60 : decode cX5_spades 60 = .ok (.iload_n 1, 1) := by decide +kernel
theorem dX5_spades_61 : decode cX5_spades 61 = .ok (.iadd, 1) := by decide +kernel
theorem dX5_spades_62 : decode cX5_spades 62 = .ok (.iload 4, 2) := by decide +kernel
theorem dX5_spades_64 : decode cX5_spades 64 = .ok (.iastore, 1) := by decide +kernel
theorem dX5_spades_65 : decode cX5_spades 65 = .ok (.aload_n 0, 1) := by decide +kernel
theorem dX5_spades_66 : decode cX5_spades 66 = .ok (.getfield 37, 3) := by decide +kernel
theorem dX5_spades_69 : decode cX5_spades 69 = .ok (.iload_n 1, 1) := by decide +kernel
theorem dX5_spades_70 : decode cX5_spades 70 = .ok (.invokevirtual 185, 3) := by decide +kernel
theorem dX5_spades_73 : decode cX5_spades 73 = .ok (.iload_n 2, 1) := by decide +kernel
theorem dX5_spades_74 : decode cX5_spades 74 = .ok (.if_icmp .gt 8, 3) := by decide +kernel
theorem dX5_spades_77 : decode cX5_spades 77 = .ok (.iload_n 3, 1) := by decide +kernel
theorem dX5_spades_78 : decode cX5_spades 78 = .ok (.iload 4, 2) := by decide +kernel
theorem dX5_spades_80 : decode cX5_spades 80 = .ok (.isub, 1) := by decide +kernel
theorem dX5_spades_81 : decode cX5_spades 81 = .ok (.ireturn, 1) := by decide +kernel
theorem dX5_spades_82 : decode cX5_spades 82 = .ok (.iinc 4 (-1), 3) := by decide +kernel
theorem dX5_spades_85 : decode cX5_spades 85 = .ok (.goto (-41), 3) := by decide +kernel
theorem dX5_spades_88 : decode cX5_spades 88 = .ok (.iconst (-1), 1) := by decide +kernel
theorem dX5_spades_89 : decode cX5_spades 89 = .ok (.ireturn, 1) := by decide +kernel
theorem dX5_felling_0 : decode cX5_felling 0 = .ok (.aload_n 0, 1) := by decide +kernel
theorem dX5_felling_1 : decode cX5_felling 1 = .ok (.iload_n 1, 1) := by decide +kernel
theorem dX5_felling_2 : decode cX5_felling 2 = .ok (.invokevirtual 170, 3) := by decide +kernel
theorem dX5_felling_5 : decode cX5_felling 5 = .ok (.aload_n 0, 1) := by decide +kernel
theorem dX5_felling_6 : decode cX5_felling 6 = .ok (.invokevirtual 126, 3) := by decide +kernel
theorem dX5_felling_9 : decode cX5_felling 9 = .ok (.invokevirtual 130, 3) := by decide +kernel
theorem dX5_felling_12 : decode cX5_felling 12 = .ok (.istore_n 2, 1) := by decide +kernel
theorem dX5_felling_13 : decode cX5_felling 13 = .ok (.aload_n 0, 1) := by decide +kernel
theorem dX5_felling_14 : decode cX5_felling 14 = .ok (.getfield 37, 3) := by decide +kernel
theorem dX5_felling_17 : decode cX5_felling 17 = .ok (.iload_n 1, 1) := by decide +kernel
theorem dX5_felling_18 : decode cX5_felling 18 = .ok (.invokevirtual 272, 3) := by decide +kernel
theorem dX5_felling_21 : decode cX5_felling 21 = .ok (.aload_n 0, 1) := by decide +kernel
theorem dX5_felling_22 : decode cX5_felling 22 = .ok (.getfield 37, 3) := by decide +kernel
theorem dX5_felling_25 : decode cX5_felling 25 = .ok (.invokevirtual 130, 3) := by decide +kernel
theorem dX5_felling_28 : decode cX5_felling 28 = .ok (.iload_n 2, 1) := by decide +kernel
theorem dX5_felling_29 : decode cX5_felling 29 = .ok (.isub, 1) := by decide +kernel
theorem dX5_felling_30 : decode cX5_felling 30 = .ok (.ireturn, 1) := by decide +kernel
theorem dX5_ruin_0 : decode cX5_ruin 0 = .ok (.aload_n 0, 1) := by decide +kernel
theorem dX5_ruin_1 : decode cX5_ruin 1 = .ok (.invokevirtual 126, 3) := by decide +kernel
theorem dX5_ruin_4 : decode cX5_ruin 4 = .ok (.invokevirtual 275, 3) := by decide +kernel
theorem dX5_ruin_7 : decode cX5_ruin 7 = .ok (.istore_n 1, 1) := by decide +kernel
theorem dX5_ruin_8 : decode cX5_ruin 8 = .ok (.iconst 0, 1) := by decide +kernel
theorem dX5_ruin_9 : decode cX5_ruin 9 = .ok (.istore_n 2, 1) := by decide +kernel
theorem dX5_ruin_10 : decode cX5_ruin 10 = .ok (.iconst 0, 1) := by decide +kernel
theorem dX5_ruin_11 : decode cX5_ruin 11 = .ok (.istore_n 3, 1) := by decide +kernel
theorem dX5_ruin_12 : decode cX5_ruin 12 = .ok (.iload_n 3, 1) := by decide +kernel
theorem dX5_ruin_13 : decode cX5_ruin 13 = .ok (.bipush 12, 2) := by decide +kernel
theorem dX5_ruin_15 : decode cX5_ruin 15 = .ok (.if_icmp .ge 52, 3) := by decide +kernel
theorem dX5_ruin_18 : decode cX5_ruin 18 = .ok (.aload_n 0, 1) := by decide +kernel
theorem dX5_ruin_19 : decode cX5_ruin 19 = .ok (.getfield 44, 3) := by decide +kernel
theorem dX5_ruin_22 : decode cX5_ruin 22 = .ok (.getfield 109, 3) := by decide +kernel
theorem dX5_ruin_25 : decode cX5_ruin 25 = .ok (.iconst 0, 1) := by decide +kernel
theorem dX5_ruin_26 : decode cX5_ruin 26 = .ok (.iload_n 3, 1) := by decide +kernel
theorem dX5_ruin_27 : decode cX5_ruin 27 = .ok (.iadd, 1) := by decide +kernel
theorem dX5_ruin_28 : decode cX5_ruin 28 = .ok (.iaload, 1) := by decide +kernel
theorem dX5_ruin_29 : decode cX5_ruin 29 = .ok (.iconst (-1), 1) := by decide +kernel
theorem dX5_ruin_30 : decode cX5_ruin 30 = .ok (.if_icmp .eq 31, 3) := by decide +kernel
theorem dX5_ruin_33 : decode cX5_ruin 33 = .ok (.aload_n 0, 1) := by decide +kernel
theorem dX5_ruin_34 : decode cX5_ruin 34 = .ok (.invokevirtual 126, 3) := by decide +kernel
theorem dX5_ruin_37 : decode cX5_ruin 37 = .ok (.iload_n 3, 1) := by decide +kernel
theorem dX5_ruin_38 : decode cX5_ruin 38 = .ok (.invokevirtual 272, 3) := by decide +kernel
theorem dX5_ruin_41 : decode cX5_ruin 41 = .ok (.iload_n 1, 1) := by decide +kernel
theorem dX5_ruin_42 : decode cX5_ruin 42 = .ok (.aload_n 0, 1) := by decide +kernel
theorem dX5_ruin_43 : decode cX5_ruin 43 = .ok (.getfield 37, 3) := by decide +kernel
theorem dX5_ruin_46 : decode cX5_ruin 46 = .ok (.invokevirtual 275, 3) := by decide +kernel
theorem dX5_ruin_49 : decode cX5_ruin 49 = .ok (.iconst (-1), 1) := by decide +kernel
theorem dX5_ruin_50 : decode cX5_ruin 50 = .ok (.ixor, 1) := by decide +kernel
theorem dX5_ruin_51 : decode cX5_ruin 51 = .ok (.iand, 1) := by decide +kernel
theorem dX5_ruin_52 : decode cX5_ruin 52 = .ok (.ifCond .eq 9, 3) := by decide +kernel
theorem dX5_ruin_55 : decode cX5_ruin 55 = .ok (.iload_n 2, 1) := by decide +kernel
theorem dX5_ruin_56 : decode cX5_ruin 56 = .ok (.iconst 1, 1) := by decide +kernel
theorem dX5_ruin_57 : decode cX5_ruin 57 = .ok (.iload_n 3, 1) := by decide +kernel
theorem dX5_ruin_58 : decode cX5_ruin 58 = .ok (.ishl, 1) := by decide +kernel
theorem dX5_ruin_59 : decode cX5_ruin 59 = .ok (.ior, 1) := by decide +kernel
theorem dX5_ruin_60 : decode cX5_ruin 60 = .ok (.istore_n 2, 1) := by decide +kernel
theorem dX5_ruin_61 : decode cX5_ruin 61 = .ok (.iinc 3 1, 3) := by decide +kernel
theorem dX5_ruin_64 : decode cX5_ruin 64 = .ok (.goto (-52), 3) := by decide +kernel
theorem dX5_ruin_67 : decode cX5_ruin 67 = .ok (.iload_n 2, 1) := by decide +kernel
theorem dX5_ruin_68 : decode cX5_ruin 68 = .ok (.ireturn, 1) := by decide +kernel
theorem dX5_compare_0 : decode cX5_compare 0 = .ok (.aload_n 0, 1) := by decide +kernel
theorem dX5_compare_1 : decode cX5_compare 1 = .ok (.iload_n 1, 1) := by decide +kernel
theorem dX5_compare_2 : decode cX5_compare 2 = .ok (.invokevirtual 228, 3) := by decide +kernel
theorem dX5_compare_5 : decode cX5_compare 5 = .ok (.ifCond .ne 14, 3) := by decide +kernel
theorem dX5_compare_8 : decode cX5_compare 8 = .ok (.new 146, 3) := by decide +kernel
theorem dX5_compare_11 : decode cX5_compare 11 = .ok (.dup, 1) := by decide +kernel
theorem dX5_compare_12 : decode cX5_compare 12 = .ok (.ldc_w 278, 3) := by decide +kernel
theorem dX5_compare_15 : decode cX5_compare 15 = .ok (.invokespecial 150, 3) := by decide +kernel
theorem dX5_compare_18 : decode cX5_compare 18 = .ok (.athrow, 1) := by decide +kernel
theorem dX5_compare_19 : decode cX5_compare 19 = .ok (.iload_n 2, 1) := by decide +kernel
theorem dX5_compare_20 : decode cX5_compare 20 = .ok (.iconst 1, 1) := by decide +kernel
theorem dX5_compare_21 : decode cX5_compare 21 = .ok (.invokestatic 280, 3) := by decide +kernel
theorem dX5_compare_24 : decode cX5_compare 24 = .ok (.aload_n 0, 1) := by decide +kernel
theorem dX5_compare_25 : decode cX5_compare 25 = .ok (.invokevirtual 126, 3) := by decide +kernel
theorem dX5_compare_28 : decode cX5_compare 28 = .ok (.pop, 1) := by decide +kernel
theorem dX5_compare_29 : decode cX5_compare 29 = .ok (.iload_n 2, 1) := by decide +kernel
theorem dX5_compare_30 : decode cX5_compare 30 = .ok (.ifCond .ne 14, 3) := by decide +kernel
theorem dX5_compare_33 : decode cX5_compare 33 = .ok (.aload_n 0, 1) := by decide +kernel
theorem dX5_compare_34 : decode cX5_compare 34 = .ok (.getfield 37, 3) := by decide +kernel
theorem dX5_compare_37 : decode cX5_compare 37 = .ok (.iload_n 1, 1) := by decide +kernel
theorem dX5_compare_38 : decode cX5_compare 38 = .ok (.invokevirtual 283, 3) := by decide +kernel
theorem dX5_compare_41 : decode cX5_compare 41 = .ok (.goto 11, 3) := by decide +kernel
theorem dX5_compare_44 : decode cX5_compare 44 = .ok (.aload_n 0, 1) := by decide +kernel
theorem dX5_compare_45 : decode cX5_compare 45 = .ok (.getfield 37, 3) := by decide +kernel
theorem dX5_compare_48 : decode cX5_compare 48 = .ok (.iload_n 1, 1) := by decide +kernel
theorem dX5_compare_49 : decode cX5_compare 49 = .ok (.invokevirtual 286, 3) := by decide +kernel
theorem dX5_compare_52 : decode cX5_compare 52 = .ok (.ireturn, 1) := by decide +kernel
theorem dX5_mildest_0 : decode cX5_mildest 0 = .ok (.iload_n 1, 1) := by decide +kernel
theorem dX5_mildest_1 : decode cX5_mildest 1 = .ok (.ifCond .lt 10, 3) := by decide +kernel
theorem dX5_mildest_4 : decode cX5_mildest 4 = .ok (.iload_n 1, 1) := by decide +kernel
theorem dX5_mildest_5 : decode cX5_mildest 5 = .ok (.sipush 9999, 3) := by decide +kernel
theorem dX5_mildest_8 : decode cX5_mildest 8 = .ok (.if_icmp .le 14, 3) := by decide +kernel
theorem dX5_mildest_11 : decode cX5_mildest 11 = .ok (.new 73, 3) := by decide +kernel
theorem dX5_mildest_14 : decode cX5_mildest 14 = .ok (.dup, 1) := by decide +kernel
theorem dX5_mildest_15 : decode cX5_mildest 15 = .ok (.ldc_w 270, 3) := by decide +kernel
theorem dX5_mildest_18 : decode cX5_mildest 18 = .ok (.invokespecial 77, 3) := by decide +kernel
theorem dX5_mildest_21 : decode cX5_mildest 21 = .ok (.athrow, 1) := by decide +kernel
theorem dX5_mildest_22 : decode cX5_mildest 22 = .ok (.aload_n 0, 1) := by decide +kernel
theorem dX5_mildest_23 : decode cX5_mildest 23 = .ok (.invokevirtual 126, 3) := by decide +kernel
theorem dX5_mildest_26 : decode cX5_mildest 26 = .ok (.pop, 1) := by decide +kernel
theorem dX5_mildest_27 : decode cX5_mildest 27 = .ok (.iconst (-1), 1) := by decide +kernel
theorem dX5_mildest_28 : decode cX5_mildest 28 = .ok (.istore_n 2, 1) := by decide +kernel
theorem dX5_mildest_29 : decode cX5_mildest 29 = .ok (.iconst 0, 1) := by decide +kernel
theorem dX5_mildest_30 : decode cX5_mildest 30 = .ok (.istore_n 3, 1) := by decide +kernel
theorem dX5_mildest_31 : decode cX5_mildest 31 = .ok (.iconst 0, 1) := by decide +kernel
theorem dX5_mildest_32 : decode cX5_mildest 32 = .ok (.istore 4, 2) := by decide +kernel
theorem dX5_mildest_34 : decode cX5_mildest 34 = .ok (.iload 4, 2) := by decide +kernel
theorem dX5_mildest_36 : decode cX5_mildest 36 = .ok (.aload_n 0, 1) := by decide +kernel
theorem dX5_mildest_37 : decode cX5_mildest 37 = .ok (.getfield 10, 3) := by decide +kernel
theorem dX5_mildest_40 : decode cX5_mildest 40 = .ok (.getfield 119, 3) := by decide +kernel
theorem dX5_mildest_43 : decode cX5_mildest 43 = .ok (.if_icmp .ge 50, 3) := by decide +kernel
theorem dX5_mildest_46 : decode cX5_mildest 46 = .ok (.aload_n 0, 1) := by decide +kernel
theorem dX5_mildest_47 : decode cX5_mildest 47 = .ok (.getfield 37, 3) := by decide +kernel
theorem dX5_mildest_50 : decode cX5_mildest 50 = .ok (.iload 4, 2) := by decide +kernel
theorem dX5_mildest_52 : decode cX5_mildest 52 = .ok (.invokevirtual 283, 3) := by decide +kernel
theorem dX5_mildest_55 : decode cX5_mildest 55 = .ok (.iload_n 1, 1) := by decide +kernel
theorem dX5_mildest_56 : decode cX5_mildest 56 = .ok (.if_icmp .lt 31, 3) := by decide +kernel
theorem dX5_mildest_59 : decode cX5_mildest 59 = .ok (.aload_n 0, 1) := by decide +kernel
theorem dX5_mildest_60 : decode cX5_mildest 60 = .ok (.getfield 37, 3) := by decide +kernel
theorem dX5_mildest_63 : decode cX5_mildest 63 = .ok (.iload 4, 2) := by decide +kernel
theorem dX5_mildest_65 : decode cX5_mildest 65 = .ok (.invokevirtual 286, 3) := by decide +kernel
theorem dX5_mildest_68 : decode cX5_mildest 68 = .ok (.istore 5, 2) := by decide +kernel
theorem dX5_mildest_70 : decode cX5_mildest 70 = .ok (.iload_n 2, 1) := by decide +kernel
theorem dX5_mildest_71 : decode cX5_mildest 71 = .ok (.iconst (-1), 1) := by decide +kernel
theorem dX5_mildest_72 : decode cX5_mildest 72 = .ok (.if_icmp .eq 9, 3) := by decide +kernel
theorem dX5_mildest_75 : decode cX5_mildest 75 = .ok (.iload 5, 2) := by decide +kernel
theorem dX5_mildest_77 : decode cX5_mildest 77 = .ok (.iload_n 3, 1) := by decide +kernel
theorem dX5_mildest_78 : decode cX5_mildest 78 = .ok (.if_icmp .ge 9, 3) := by decide +kernel
theorem dX5_mildest_81 : decode cX5_mildest 81 = .ok (.iload 4, 2) := by decide +kernel
theorem dX5_mildest_83 : decode cX5_mildest 83 = .ok (.istore_n 2, 1) := by decide +kernel
theorem dX5_mildest_84 : decode cX5_mildest 84 = .ok (.iload 5, 2) := by decide +kernel
theorem dX5_mildest_86 : decode cX5_mildest 86 = .ok (.istore_n 3, 1) := by decide +kernel
theorem dX5_mildest_87 : decode cX5_mildest 87 = .ok (.iinc 4 1, 3) := by decide +kernel
theorem dX5_mildest_90 : decode cX5_mildest 90 = .ok (.goto (-56), 3) := by decide +kernel
theorem dX5_mildest_93 : decode cX5_mildest 93 = .ok (.iload_n 2, 1) := by decide +kernel
theorem dX5_mildest_94 : decode cX5_mildest 94 = .ok (.ireturn, 1) := by decide +kernel
theorem dX5_round_0 : decode cX5_round 0 = .ok (.aload_n 0, 1) := by decide +kernel
theorem dX5_round_1 : decode cX5_round 1 = .ok (.iload_n 1, 1) := by decide +kernel
theorem dX5_round_2 : decode cX5_round 2 = .ok (.invokevirtual 151, 3) := by decide +kernel
theorem dX5_round_5 : decode cX5_round 5 = .ok (.aload_n 0, 1) := by decide +kernel
theorem dX5_round_6 : decode cX5_round 6 = .ok (.getfield 51, 3) := by decide +kernel
theorem dX5_round_9 : decode cX5_round 9 = .ok (.aload_n 0, 1) := by decide +kernel
theorem dX5_round_10 : decode cX5_round 10 = .ok (.getfield 10, 3) := by decide +kernel
theorem dX5_round_13 : decode cX5_round 13 = .ok (.iload_n 1, 1) := by decide +kernel
theorem dX5_round_14 : decode cX5_round 14 = .ok (.invokevirtual 289, 3) := by decide +kernel
theorem dX5_round_17 : decode cX5_round 17 = .ok (.ireturn, 1) := by decide +kernel
theorem dX5_stop_0 : decode cX5_stop 0 = .ok (.iload_n 1, 1) := by decide +kernel
theorem dX5_stop_1 : decode cX5_stop 1 = .ok (.ifCond .lt 26, 3) := by decide +kernel
theorem dX5_stop_4 : decode cX5_stop 4 = .ok (.iload_n 1, 1) := by decide +kernel
theorem dX5_stop_5 : decode cX5_stop 5 = .ok (.aload_n 0, 1) := by decide +kernel
theorem dX5_stop_6 : decode cX5_stop 6 = .ok (.getfield 51, 3) := by decide +kernel
theorem dX5_stop_9 : decode cX5_stop 9 = .ok (.getfield 100, 3) := by decide +kernel
theorem dX5_stop_12 : decode cX5_stop 12 = .ok (.if_icmp .ge 15, 3) := by decide +kernel
theorem dX5_stop_15 : decode cX5_stop 15 = .ok (.iload_n 1, 1) := by decide +kernel
theorem dX5_stop_16 : decode cX5_stop 16 = .ok (.aload_n 0, 1) := by decide +kernel
theorem dX5_stop_17 : decode cX5_stop 17 = .ok (.getfield 51, 3) := by decide +kernel
theorem dX5_stop_20 : decode cX5_stop 20 = .ok (.getfield 293, 3) := by decide +kernel
theorem dX5_stop_23 : decode cX5_stop 23 = .ok (.arraylength, 1) := by decide +kernel
theorem dX5_stop_24 : decode cX5_stop 24 = .ok (.if_icmp .lt 14, 3) := by decide +kernel
theorem dX5_stop_27 : decode cX5_stop 27 = .ok (.new 146, 3) := by decide +kernel
theorem dX5_stop_30 : decode cX5_stop 30 = .ok (.dup, 1) := by decide +kernel
theorem dX5_stop_31 : decode cX5_stop 31 = .ok (.ldc_w 296, 3) := by decide +kernel
theorem dX5_stop_34 : decode cX5_stop 34 = .ok (.invokespecial 150, 3) := by decide +kernel
theorem dX5_stop_37 : decode cX5_stop 37 = .ok (.athrow, 1) := by decide +kernel
theorem dX5_stop_38 : decode cX5_stop 38 = .ok (.aload_n 0, 1) := by decide +kernel
theorem dX5_stop_39 : decode cX5_stop 39 = .ok (.getfield 51, 3) := by decide +kernel
theorem dX5_stop_42 : decode cX5_stop 42 = .ok (.getfield 293, 3) := by decide +kernel
theorem dX5_stop_45 : decode cX5_stop 45 = .ok (.iload_n 1, 1) := by decide +kernel
theorem dX5_stop_46 : decode cX5_stop 46 = .ok (.iaload, 1) := by decide +kernel
theorem dX5_stop_47 : decode cX5_stop 47 = .ok (.ireturn, 1) := by decide +kernel
theorem dX5_barns_0 : decode cX5_barns 0 = .ok (.aload_n 0, 1) := by decide +kernel
theorem dX5_barns_1 : decode cX5_barns 1 = .ok (.iload_n 1, 1) := by decide +kernel
theorem dX5_barns_2 : decode cX5_barns 2 = .ok (.invokevirtual 173, 3) := by decide +kernel
theorem dX5_barns_5 : decode cX5_barns 5 = .ok (.aload_n 0, 1) := by decide +kernel
theorem dX5_barns_6 : decode cX5_barns 6 = .ok (.iload_n 2, 1) := by decide +kernel
theorem dX5_barns_7 : decode cX5_barns 7 = .ok (.invokevirtual 173, 3) := by decide +kernel
theorem dX5_barns_10 : decode cX5_barns 10 = .ok (.iload 5, 2) := by decide +kernel
theorem dX5_barns_12 : decode cX5_barns 12 = .ok (.iconst 1, 1) := by decide +kernel
theorem dX5_barns_13 : decode cX5_barns 13 = .ok (.invokestatic 280, 3) := by decide +kernel
theorem dX5_barns_16 : decode cX5_barns 16 = .ok (.iload_n 1, 1) := by decide +kernel
theorem dX5_barns_17 : decode cX5_barns 17 = .ok (.iload_n 2, 1) := by decide +kernel
theorem dX5_barns_18 : decode cX5_barns 18 = .ok (.if_icmp .eq 25, 3) := by decide +kernel
theorem dX5_barns_21 : decode cX5_barns 21 = .ok (.iload_n 3, 1) := by decide +kernel
theorem dX5_barns_22 : decode cX5_barns 22 = .ok (.iconst 1, 1) := by decide +kernel
theorem dX5_barns_23 : decode cX5_barns 23 = .ok (.if_icmp .lt 20, 3) := by decide +kernel
theorem dX5_barns_26 : decode cX5_barns 26 = .ok (.iload_n 3, 1) := by decide +kernel
theorem dX5_barns_27 : decode cX5_barns 27 = .ok (.iconst 5, 1) := by decide +kernel
theorem dX5_barns_28 : decode cX5_barns 28 = .ok (.if_icmp .gt 15, 3) := by decide +kernel
theorem dX5_barns_31 : decode cX5_barns 31 = .ok (.iload 4, 2) := by decide +kernel
theorem dX5_barns_33 : decode cX5_barns 33 = .ok (.ifCond .lt 10, 3) := by decide +kernel
theorem dX5_barns_36 : decode cX5_barns 36 = .ok (.iload 4, 2) := by decide +kernel
theorem dX5_barns_38 : decode cX5_barns 38 = .ok (.bipush 99, 2) := by decide +kernel
theorem dX5_barns_40 : decode cX5_barns 40 = .ok (.if_icmp .le 14, 3) := by decide +kernel
theorem dX5_barns_43 : decode cX5_barns 43 = .ok (.new 73, 3) := by decide +kernel
theorem dX5_barns_46 : decode cX5_barns 46 = .ok (.dup, 1) := by decide +kernel
theorem dX5_barns_47 : decode cX5_barns 47 = .ok (.ldc_w 298, 3) := by decide +kernel
theorem dX5_barns_50 : decode cX5_barns 50 = .ok (.invokespecial 77, 3) := by decide +kernel
theorem dX5_barns_53 : decode cX5_barns 53 = .ok (.athrow, 1) := by decide +kernel
theorem dX5_barns_54 : decode cX5_barns 54 = .ok (.iconst 0, 1) := by decide +kernel
theorem dX5_barns_55 : decode cX5_barns 55 = .ok (.istore 6, 2) := by decide +kernel
theorem dX5_barns_57 : decode cX5_barns 57 = .ok (.iconst (-1), 1) := by decide +kernel
theorem dX5_barns_58 : decode cX5_barns 58 = .ok (.istore 7, 2) := by decide +kernel
theorem dX5_barns_60 : decode cX5_barns 60 = .ok (.iconst 3, 1) := by decide +kernel
theorem dX5_barns_61 : decode cX5_barns 61 = .ok (.istore 8, 2) := by decide +kernel
theorem dX5_barns_63 : decode cX5_barns 63 = .ok (.iload 8, 2) := by decide +kernel
theorem dX5_barns_65 : decode cX5_barns 65 = .ok (.ifCond .lt 78, 3) := by decide +kernel
theorem dX5_barns_68 : decode cX5_barns 68 = .ok (.iload 8, 2) := by decide +kernel
theorem dX5_barns_70 : decode cX5_barns 70 = .ok (.iconst 1, 1) := by decide +kernel
theorem dX5_barns_71 : decode cX5_barns 71 = .ok (.ishr, 1) := by decide +kernel
theorem dX5_barns_72 : decode cX5_barns 72 = .ok (.istore 9, 2) := by decide +kernel
theorem dX5_barns_74 : decode cX5_barns 74 = .ok (.iload 8, 2) := by decide +kernel
theorem dX5_barns_76 : decode cX5_barns 76 = .ok (.iconst 1, 1) := by decide +kernel
theorem dX5_barns_77 : decode cX5_barns 77 = .ok (.iand, 1) := by decide +kernel
theorem dX5_barns_78 : decode cX5_barns 78 = .ok (.istore 10, 2) := by decide +kernel
theorem dX5_barns_80 : decode cX5_barns 80 = .ok (.aload_n 0, 1) := by decide +kernel
theorem dX5_barns_81 : decode cX5_barns 81 = .ok (.iload_n 1, 1) := by decide +kernel
theorem dX5_barns_82 : decode cX5_barns 82 = .ok (.iload_n 2, 1) := by decide +kernel
theorem dX5_barns_83 : decode cX5_barns 83 = .ok (.iload_n 3, 1) := by decide +kernel
theorem dX5_barns_84 : decode cX5_barns 84 = .ok (.iload 4, 2) := by decide +kernel
theorem dX5_barns_86 : decode cX5_barns 86 = .ok (.iload 9, 2) := by decide +kernel
theorem dX5_barns_88 : decode cX5_barns 88 = .ok (.iload 10, 2) := by decide +kernel
theorem dX5_barns_90 : decode cX5_barns 90 = .ok (.invokevirtual 300, 3) := by decide +kernel
theorem dX5_barns_93 : decode cX5_barns 93 = .ok (.ifCond .eq 23, 3) := by decide +kernel
theorem dX5_barns_96 : decode cX5_barns 96 = .ok (.aload_n 0, 1) := by decide +kernel
theorem dX5_barns_97 : decode cX5_barns 97 = .ok (.iload_n 2, 1) := by decide +kernel
theorem dX5_barns_98 : decode cX5_barns 98 = .ok (.iload_n 1, 1) := by decide +kernel
theorem dX5_barns_99 : decode cX5_barns 99 = .ok (.iload_n 3, 1) := by decide +kernel
theorem dX5_barns_100 : decode cX5_barns 100 = .ok (.iload 4, 2) := by decide +kernel
theorem dX5_barns_102 : decode cX5_barns 102 = .ok (.iload 10, 2) := by decide +kernel
theorem dX5_barns_104 : decode cX5_barns 104 = .ok (.iload 9, 2) := by decide +kernel
theorem dX5_barns_106 : decode cX5_barns 106 = .ok (.invokevirtual 300, 3) := by decide +kernel
theorem dX5_barns_109 : decode cX5_barns 109 = .ok (.ifCond .eq 7, 3) := by decide +kernel
theorem dX5_barns_112 : decode cX5_barns 112 = .ok (.iconst 1, 1) := by decide +kernel
theorem dX5_barns_113 : decode cX5_barns 113 = .ok (.goto 4, 3) := by decide +kernel
theorem dX5_barns_116 : decode cX5_barns 116 = .ok (.iconst 0, 1) := by decide +kernel
theorem dX5_barns_117 : decode cX5_barns 117 = .ok (.istore 11, 2) := by decide +kernel
theorem dX5_barns_119 : decode cX5_barns 119 = .ok (.iload 11, 2) := by decide +kernel
theorem dX5_barns_121 : decode cX5_barns 121 = .ok (.ifCond .eq 16, 3) := by decide +kernel
theorem dX5_barns_124 : decode cX5_barns 124 = .ok (.iinc 6 1, 3) := by decide +kernel
theorem dX5_barns_127 : decode cX5_barns 127 = .ok (.bipush 10, 2) := by decide +kernel
theorem dX5_barns_129 : decode cX5_barns 129 = .ok (.iload 9, 2) := by decide +kernel
theorem dX5_barns_131 : decode cX5_barns 131 = .ok (.imul, 1) := by decide +kernel
theorem dX5_barns_132 : decode cX5_barns 132 = .ok (.iload 10, 2) := by decide +kernel
theorem dX5_barns_134 : decode cX5_barns 134 = .ok (.iadd, 1) := by decide +kernel
theorem dX5_barns_135 : decode cX5_barns 135 = .ok (.istore 7, 2) := by decide +kernel
theorem dX5_barns_137 : decode cX5_barns 137 = .ok (.iinc 8 (-1), 3) := by decide +kernel
theorem dX5_barns_140 : decode cX5_barns 140 = .ok (.goto (-77), 3) := by decide +kernel
theorem dX5_barns_143 : decode cX5_barns 143 = .ok (.iload 5, 2) := by decide +kernel
theorem dX5_barns_145 : decode cX5_barns 145 = .ok (.ifCond .ne 8, 3) := by decide +kernel
theorem dX5_barns_148 : decode cX5_barns 148 = .ok (.iload 6, 2) := by decide +kernel
theorem dX5_barns_150 : decode cX5_barns 150 = .ok (.goto 5, 3) := by decide +kernel
theorem dX5_barns_153 : decode cX5_barns 153 = .ok (.iload 7, 2) := by decide +kernel
theorem dX5_barns_155 : decode cX5_barns 155 = .ok (.ireturn, 1) := by decide +kernel
theorem dX5_restsWith_0 : decode cX5_restsWith 0 = .ok (.aload_n 0, 1) := by decide +kernel
theorem dX5_restsWith_1 : decode cX5_restsWith 1 = .ok (.iload_n 1, 1) := by decide +kernel
theorem dX5_restsWith_2 : decode cX5_restsWith 2 = .ok (.iload_n 2, 1) := by decide +kernel
theorem dX5_restsWith_3 : decode cX5_restsWith 3 = .ok (.iload_n 3, 1) := by decide +kernel
theorem dX5_restsWith_4 : decode cX5_restsWith 4 = .ok (.iload 5, 2) := by decide +kernel
theorem dX5_restsWith_6 : decode cX5_restsWith 6 = .ok (.iload 6, 2) := by decide +kernel
theorem dX5_restsWith_8 : decode cX5_restsWith 8 = .ok (.invokevirtual 304, 3) := by decide +kernel
theorem dX5_restsWith_11 : decode cX5_restsWith 11 = .ok (.iload 5, 2) := by decide +kernel
theorem dX5_restsWith_13 : decode cX5_restsWith 13 = .ok (.iload 4, 2) := by decide +kernel
theorem dX5_restsWith_15 : decode cX5_restsWith 15 = .ok (.imul, 1) := by decide +kernel
theorem dX5_restsWith_16 : decode cX5_restsWith 16 = .ok (.iadd, 1) := by decide +kernel
theorem dX5_restsWith_17 : decode cX5_restsWith 17 = .ok (.istore 7, 2) := by decide +kernel
theorem dX5_restsWith_19 : decode cX5_restsWith 19 = .ok (.aload_n 0, 1) := by decide +kernel
theorem dX5_restsWith_20 : decode cX5_restsWith 20 = .ok (.iload_n 1, 1) := by decide +kernel
theorem dX5_restsWith_21 : decode cX5_restsWith 21 = .ok (.iload_n 2, 1) := by decide +kernel
theorem dX5_restsWith_22 : decode cX5_restsWith 22 = .ok (.iload_n 3, 1) := by decide +kernel
theorem dX5_restsWith_23 : decode cX5_restsWith 23 = .ok (.iconst 1, 1) := by decide +kernel
theorem dX5_restsWith_24 : decode cX5_restsWith 24 = .ok (.iload 5, 2) := by decide +kernel
theorem dX5_restsWith_26 : decode cX5_restsWith 26 = .ok (.isub, 1) := by decide +kernel
theorem dX5_restsWith_27 : decode cX5_restsWith 27 = .ok (.iload 6, 2) := by decide +kernel
theorem dX5_restsWith_29 : decode cX5_restsWith 29 = .ok (.invokevirtual 304, 3) := by decide +kernel
theorem dX5_restsWith_32 : decode cX5_restsWith 32 = .ok (.iconst 1, 1) := by decide +kernel
theorem dX5_restsWith_33 : decode cX5_restsWith 33 = .ok (.iload 5, 2) := by decide +kernel
theorem dX5_restsWith_35 : decode cX5_restsWith 35 = .ok (.isub, 1) := by decide +kernel
theorem dX5_restsWith_36 : decode cX5_restsWith 36 = .ok (.iload 4, 2) := by decide +kernel
theorem dX5_restsWith_38 : decode cX5_restsWith 38 = .ok (.imul, 1) := by decide +kernel
theorem dX5_restsWith_39 : decode cX5_restsWith 39 = .ok (.iadd, 1) := by decide +kernel
theorem dX5_restsWith_40 : decode cX5_restsWith 40 = .ok (.istore 8, 2) := by decide +kernel
theorem dX5_restsWith_42 : decode cX5_restsWith 42 = .ok (.iload 8, 2) := by decide +kernel
theorem dX5_restsWith_44 : decode cX5_restsWith 44 = .ok (.iload 7, 2) := by decide +kernel
theorem dX5_restsWith_46 : decode cX5_restsWith 46 = .ok (.if_icmp .lt 7, 3) := by decide +kernel
theorem dX5_restsWith_49 : decode cX5_restsWith 49 = .ok (.iconst 1, 1) := by decide +kernel
theorem dX5_restsWith_50 : decode cX5_restsWith 50 = .ok (.goto 4, 3) := by decide +kernel
theorem dX5_restsWith_53 : decode cX5_restsWith 53 = .ok (.iconst 0, 1) := by decide +kernel
theorem dX5_restsWith_54 : decode cX5_restsWith 54 = .ok (.ireturn, 1) := by decide +kernel
theorem dX5_lossOf_0 : decode cX5_lossOf 0 = .ok (.aload_n 0, 1) := by decide +kernel
theorem dX5_lossOf_1 : decode cX5_lossOf 1 = .ok (.invokevirtual 126, 3) := by decide +kernel
theorem dX5_lossOf_4 : decode cX5_lossOf 4 = .ok (.pop, 1) := by decide +kernel
theorem dX5_lossOf_5 : decode cX5_lossOf 5 = .ok (.aload_n 0, 1) := by decide +kernel
theorem dX5_lossOf_6 : decode cX5_lossOf 6 = .ok (.getfield 37, 3) := by decide +kernel
theorem dX5_lossOf_9 : decode cX5_lossOf 9 = .ok (.aload_n 0, 1) := by decide +kernel
theorem dX5_lossOf_10 : decode cX5_lossOf 10 = .ok (.getfield 10, 3) := by decide +kernel
theorem dX5_lossOf_13 : decode cX5_lossOf 13 = .ok (.getfield 176, 3) := by decide +kernel
theorem dX5_lossOf_16 : decode cX5_lossOf 16 = .ok (.iload_n 1, 1) := by decide +kernel
theorem dX5_lossOf_17 : decode cX5_lossOf 17 = .ok (.iaload, 1) := by decide +kernel
theorem dX5_lossOf_18 : decode cX5_lossOf 18 = .ok (.iload 4, 2) := by decide +kernel
theorem dX5_lossOf_20 : decode cX5_lossOf 20 = .ok (.iload_n 3, 1) := by decide +kernel
theorem dX5_lossOf_21 : decode cX5_lossOf 21 = .ok (.imul, 1) := by decide +kernel
theorem dX5_lossOf_22 : decode cX5_lossOf 22 = .ok (.invokevirtual 264, 3) := by decide +kernel
theorem dX5_lossOf_25 : decode cX5_lossOf 25 = .ok (.aload_n 0, 1) := by decide +kernel
theorem dX5_lossOf_26 : decode cX5_lossOf 26 = .ok (.getfield 37, 3) := by decide +kernel
theorem dX5_lossOf_29 : decode cX5_lossOf 29 = .ok (.aload_n 0, 1) := by decide +kernel
theorem dX5_lossOf_30 : decode cX5_lossOf 30 = .ok (.getfield 10, 3) := by decide +kernel
theorem dX5_lossOf_33 : decode cX5_lossOf 33 = .ok (.getfield 176, 3) := by decide +kernel
theorem dX5_lossOf_36 : decode cX5_lossOf 36 = .ok (.iload_n 2, 1) := by decide +kernel
theorem dX5_lossOf_37 : decode cX5_lossOf 37 = .ok (.iaload, 1) := by decide +kernel
theorem dX5_lossOf_38 : decode cX5_lossOf 38 = .ok (.iload 5, 2) := by decide +kernel
theorem dX5_lossOf_40 : decode cX5_lossOf 40 = .ok (.iload_n 3, 1) := by decide +kernel
theorem dX5_lossOf_41 : decode cX5_lossOf 41 = .ok (.imul, 1) := by decide +kernel
theorem dX5_lossOf_42 : decode cX5_lossOf 42 = .ok (.invokevirtual 264, 3) := by decide +kernel
theorem dX5_lossOf_45 : decode cX5_lossOf 45 = .ok (.aload_n 0, 1) := by decide +kernel
theorem dX5_lossOf_46 : decode cX5_lossOf 46 = .ok (.getfield 37, 3) := by decide +kernel
theorem dX5_lossOf_49 : decode cX5_lossOf 49 = .ok (.iload_n 1, 1) := by decide +kernel
theorem dX5_lossOf_50 : decode cX5_lossOf 50 = .ok (.invokevirtual 185, 3) := by decide +kernel
theorem dX5_lossOf_53 : decode cX5_lossOf 53 = .ok (.ireturn, 1) := by decide +kernel
theorem dX5_tell_0 : decode cX5_tell 0 = .ok (.aload_n 0, 1) := by decide +kernel
theorem dX5_tell_1 : decode cX5_tell 1 = .ok (.iload_n 1, 1) := by decide +kernel
theorem dX5_tell_2 : decode cX5_tell 2 = .ok (.invokevirtual 173, 3) := by decide +kernel
theorem dX5_tell_5 : decode cX5_tell 5 = .ok (.iload_n 2, 1) := by decide +kernel
theorem dX5_tell_6 : decode cX5_tell 6 = .ok (.ifCond .lt 21, 3) := by decide +kernel
theorem dX5_tell_9 : decode cX5_tell 9 = .ok (.iload_n 2, 1) := by decide +kernel
theorem dX5_tell_10 : decode cX5_tell 10 = .ok (.bipush 99, 2) := by decide +kernel
theorem dX5_tell_12 : decode cX5_tell 12 = .ok (.if_icmp .gt 15, 3) := by decide +kernel
theorem dX5_tell_15 : decode cX5_tell 15 = .ok (.aload_n 0, 1) := by decide +kernel
theorem dX5_tell_16 : decode cX5_tell 16 = .ok (.getfield 44, 3) := by decide +kernel
theorem dX5_tell_19 : decode cX5_tell 19 = .ok (.iload_n 1, 1) := by decide +kernel
theorem dX5_tell_20 : decode cX5_tell 20 = .ok (.iload_n 2, 1) := by decide +kernel
theorem dX5_tell_21 : decode cX5_tell 21 = .ok (.invokevirtual 308, 3) := by decide +kernel
theorem dX5_tell_24 : decode cX5_tell 24 = .ok (.ifCond .ne 15, 3) := by decide +kernel
theorem dX5_tell_27 : decode cX5_tell 27 = .ok (.aload_n 0, 1) := by decide +kernel
theorem dX5_tell_28 : decode cX5_tell 28 = .ok (.dup, 1) := by decide +kernel
theorem dX5_tell_29 : decode cX5_tell 29 = .ok (.getfield 143, 3) := by decide +kernel
theorem dX5_tell_32 : decode cX5_tell 32 = .ok (.iconst 1, 1) := by decide +kernel
theorem dX5_tell_33 : decode cX5_tell 33 = .ok (.iadd, 1) := by decide +kernel
theorem dX5_tell_34 : decode cX5_tell 34 = .ok (.putfield 143, 3) := by decide +kernel
theorem dX5_tell_37 : decode cX5_tell 37 = .ok (.iconst (-1), 1) := by decide +kernel
theorem dX5_tell_38 : decode cX5_tell 38 = .ok (.ireturn, 1) := by decide +kernel
theorem dX5_tell_39 : decode cX5_tell 39 = .ok (.aload_n 0, 1) := by decide +kernel
theorem dX5_tell_40 : decode cX5_tell 40 = .ok (.getfield 44, 3) := by decide +kernel
theorem dX5_tell_43 : decode cX5_tell 43 = .ok (.getfield 137, 3) := by decide +kernel
theorem dX5_tell_46 : decode cX5_tell 46 = .ok (.ireturn, 1) := by decide +kernel
theorem dX5_forget_0 : decode cX5_forget 0 = .ok (.aload_n 0, 1) := by decide +kernel
theorem dX5_forget_1 : decode cX5_forget 1 = .ok (.getfield 44, 3) := by decide +kernel
theorem dX5_forget_4 : decode cX5_forget 4 = .ok (.iconst 0, 1) := by decide +kernel
theorem dX5_forget_5 : decode cX5_forget 5 = .ok (.putfield 137, 3) := by decide +kernel
theorem dX5_forget_8 : decode cX5_forget 8 = .ok (.return_, 1) := by decide +kernel
theorem dX5_liars_0 : decode cX5_liars 0 = .ok (.aload_n 0, 1) := by decide +kernel
theorem dX5_liars_1 : decode cX5_liars 1 = .ok (.invokevirtual 126, 3) := by decide +kernel
theorem dX5_liars_4 : decode cX5_liars 4 = .ok (.aload_n 0, 1) := by decide +kernel
theorem dX5_liars_5 : decode cX5_liars 5 = .ok (.getfield 44, 3) := by decide +kernel
theorem dX5_liars_8 : decode cX5_liars 8 = .ok (.invokevirtual 311, 3) := by decide +kernel
theorem dX5_liars_11 : decode cX5_liars 11 = .ok (.ireturn, 1) := by decide +kernel
theorem dX5_heights_0 : decode cX5_heights 0 = .ok (.aload_n 0, 1) := by decide +kernel
theorem dX5_heights_1 : decode cX5_heights 1 = .ok (.iload_n 1, 1) := by decide +kernel
theorem dX5_heights_2 : decode cX5_heights 2 = .ok (.invokevirtual 151, 3) := by decide +kernel
theorem dX5_heights_5 : decode cX5_heights 5 = .ok (.iload_n 2, 1) := by decide +kernel
theorem dX5_heights_6 : decode cX5_heights 6 = .ok (.iconst 1, 1) := by decide +kernel
theorem dX5_heights_7 : decode cX5_heights 7 = .ok (.invokestatic 280, 3) := by decide +kernel
theorem dX5_heights_10 : decode cX5_heights 10 = .ok (.aload_n 0, 1) := by decide +kernel
theorem dX5_heights_11 : decode cX5_heights 11 = .ok (.invokevirtual 126, 3) := by decide +kernel
theorem dX5_heights_14 : decode cX5_heights 14 = .ok (.pop, 1) := by decide +kernel
theorem dX5_heights_15 : decode cX5_heights 15 = .ok (.iconst 0, 1) := by decide +kernel
theorem dX5_heights_16 : decode cX5_heights 16 = .ok (.istore_n 3, 1) := by decide +kernel
theorem dX5_heights_17 : decode cX5_heights 17 = .ok (.iconst (-1), 1) := by decide +kernel
theorem dX5_heights_18 : decode cX5_heights 18 = .ok (.istore 4, 2) := by decide +kernel
theorem dX5_heights_20 : decode cX5_heights 20 = .ok (.bipush 9, 2) := by decide +kernel
theorem dX5_heights_22 : decode cX5_heights 22 = .ok (.istore 5, 2) := by decide +kernel
theorem dX5_heights_24 : decode cX5_heights 24 = .ok (.iload 5, 2) := by decide +kernel
theorem dX5_heights_26 : decode cX5_heights 26 = .ok (.ifCond .lt 40, 3) := by decide +kernel
theorem dX5_heights_29 : decode cX5_heights 29 = .ok (.aload_n 0, 1) := by decide +kernel
theorem dX5_heights_30 : decode cX5_heights 30 = .ok (.getfield 37, 3) := by decide +kernel
theorem dX5_heights_33 : decode cX5_heights 33 = .ok (.iload_n 1, 1) := by decide +kernel
theorem dX5_heights_34 : decode cX5_heights 34 = .ok (.iload 5, 2) := by decide +kernel
theorem dX5_heights_36 : decode cX5_heights 36 = .ok (.invokevirtual 315, 3) := by decide +kernel
theorem dX5_heights_39 : decode cX5_heights 39 = .ok (.aload_n 0, 1) := by decide +kernel
theorem dX5_heights_40 : decode cX5_heights 40 = .ok (.getfield 37, 3) := by decide +kernel
theorem dX5_heights_43 : decode cX5_heights 43 = .ok (.aload_n 0, 1) := by decide +kernel
theorem dX5_heights_44 : decode cX5_heights 44 = .ok (.getfield 44, 3) := by decide +kernel
theorem dX5_heights_47 : decode cX5_heights 47 = .ok (.invokevirtual 311, 3) := by decide +kernel
theorem dX5_heights_50 : decode cX5_heights 50 = .ok (.ifCond .ne 10, 3) := by decide +kernel
theorem dX5_heights_53 : decode cX5_heights 53 = .ok (.iinc 3 1, 3) := by decide +kernel
theorem dX5_heights_56 : decode cX5_heights 56 = .ok (.iload 5, 2) := by decide +kernel
theorem dX5_heights_58 : decode cX5_heights 58 = .ok (.istore 4, 2) := by decide +kernel
theorem dX5_heights_60 : decode cX5_heights 60 = .ok (.iinc 5 (-1), 3) := by decide +kernel
theorem dX5_heights_63 : decode cX5_heights 63 = .ok (.goto (-39), 3) := by decide +kernel
theorem dX5_heights_66 : decode cX5_heights 66 = .ok (.iload_n 2, 1) := by decide +kernel
theorem dX5_heights_67 : decode cX5_heights 67 = .ok (.ifCond .ne 7, 3) := by decide +kernel
theorem dX5_heights_70 : decode cX5_heights 70 = .ok (.iload_n 3, 1) := by decide +kernel
theorem dX5_heights_71 : decode cX5_heights 71 = .ok (.goto 5, 3) := by decide +kernel
theorem dX5_heights_74 : decode cX5_heights 74 = .ok (.iload 4, 2) := by decide +kernel
theorem dX5_heights_76 : decode cX5_heights 76 = .ok (.ireturn, 1) := by decide +kernel
theorem dX5_cheat_0 : decode cX5_cheat 0 = .ok (.aload_n 0, 1) := by decide +kernel
theorem dX5_cheat_1 : decode cX5_cheat 1 = .ok (.invokevirtual 126, 3) := by decide +kernel
theorem dX5_cheat_4 : decode cX5_cheat 4 = .ok (.aload_n 0, 1) := by decide +kernel
theorem dX5_cheat_5 : decode cX5_cheat 5 = .ok (.getfield 44, 3) := by decide +kernel
theorem dX5_cheat_8 : decode cX5_cheat 8 = .ok (.invokevirtual 311, 3) := by decide +kernel
theorem dX5_cheat_11 : decode cX5_cheat 11 = .ok (.istore_n 1, 1) := by decide +kernel
theorem dX5_cheat_12 : decode cX5_cheat 12 = .ok (.aload_n 0, 1) := by decide +kernel
theorem dX5_cheat_13 : decode cX5_cheat 13 = .ok (.getfield 37, 3) := by decide +kernel
theorem dX5_cheat_16 : decode cX5_cheat 16 = .ok (.iload_n 1, 1) := by decide +kernel
theorem dX5_cheat_17 : decode cX5_cheat 17 = .ok (.invokevirtual 256, 3) := by decide +kernel
theorem dX5_cheat_20 : decode cX5_cheat 20 = .ok (.lstore_n 2, 1) := by decide +kernel
theorem dX5_cheat_21 : decode cX5_cheat 21 = .ok (.iload_n 1, 1) := by decide +kernel
theorem dX5_cheat_22 : decode cX5_cheat 22 = .ok (.invokestatic 318, 3) := by decide +kernel
theorem dX5_cheat_25 : decode cX5_cheat 25 = .ok (.istore 4, 2) := by decide +kernel
theorem dX5_cheat_27 : decode cX5_cheat 27 = .ok (.iconst (-1), 1) := by decide +kernel
theorem dX5_cheat_28 : decode cX5_cheat 28 = .ok (.istore 5, 2) := by decide +kernel
theorem dX5_cheat_30 : decode cX5_cheat 30 = .ok (.iconst 0, 1) := by decide +kernel
theorem dX5_cheat_31 : decode cX5_cheat 31 = .ok (.istore 6, 2) := by decide +kernel
theorem dX5_cheat_33 : decode cX5_cheat 33 = .ok (.iload 6, 2) := by decide +kernel
theorem dX5_cheat_35 : decode cX5_cheat 35 = .ok (.aload_n 0, 1) := by decide +kernel
theorem dX5_cheat_36 : decode cX5_cheat 36 = .ok (.getfield 10, 3) := by decide +kernel
theorem dX5_cheat_39 : decode cX5_cheat 39 = .ok (.invokevirtual 323, 3) := by decide +kernel
theorem dX5_cheat_42 : decode cX5_cheat 42 = .ok (.if_icmp .ge 130, 3) := by decide +kernel
theorem dX5_cheat_45 : decode cX5_cheat 45 = .ok (.lload_n 2, 1) := by decide +kernel
theorem dX5_cheat_46 : decode cX5_cheat 46 = .ok (.iload 6, 2) := by decide +kernel
theorem dX5_cheat_48 : decode cX5_cheat 48 = .ok (.invokestatic 224, 3) := by decide +kernel
theorem dX5_cheat_51 : decode cX5_cheat 51 = .ok (.ifCond .eq 20, 3) := by decide +kernel
theorem dX5_cheat_54 : decode cX5_cheat 54 = .ok (.aload_n 0, 1) := by decide +kernel
theorem dX5_cheat_55 : decode cX5_cheat 55 = .ok (.getfield 10, 3) := by decide +kernel
theorem dX5_cheat_58 : decode cX5_cheat 58 = .ok (.iload 6, 2) := by decide +kernel
theorem dX5_cheat_60 : decode cX5_cheat 60 = .ok (.invokevirtual 164, 3) := by decide +kernel
theorem dX5_cheat_63 : decode cX5_cheat 63 = .ok (.iconst (-1), 1) := by decide +kernel
theorem dX5_cheat_64 : decode cX5_cheat 64 = .ok (.if_icmp .ne 7, 3) := by decide +kernel
theorem dX5_cheat_67 : decode cX5_cheat 67 = .ok (.iconst 1, 1) := by decide +kernel
theorem dX5_cheat_68 : decode cX5_cheat 68 = .ok (.goto 4, 3) := by decide +kernel
theorem dX5_cheat_71 : decode cX5_cheat 71 = .ok (.iconst 0, 1) := by decide +kernel
theorem dX5_cheat_72 : decode cX5_cheat 72 = .ok (.istore 7, 2) := by decide +kernel
theorem dX5_cheat_74 : decode cX5_cheat 74 = .ok (.aload_n 0, 1) := by decide +kernel
theorem dX5_cheat_75 : decode cX5_cheat 75 = .ok (.getfield 37, 3) := by decide +kernel
theorem dX5_cheat_78 : decode cX5_cheat 78 = .ok (.getfield 326, 3) := by decide +kernel
theorem dX5_cheat_81 : decode cX5_cheat 81 = .ok (.iload 6, 2) := by decide +kernel
theorem dX5_cheat_83 : decode cX5_cheat 83 = .ok (.iaload, 1) := by decide +kernel
theorem dX5_cheat_84 : decode cX5_cheat 84 = .ok (.istore 8, 2) := by decide +kernel
theorem dX5_cheat_86 : decode cX5_cheat 86 = .ok (.iconst 0, 1) := by decide +kernel
theorem dX5_cheat_87 : decode cX5_cheat 87 = .ok (.istore 9, 2) := by decide +kernel
theorem dX5_cheat_89 : decode cX5_cheat 89 = .ok (.iload 9, 2) := by decide +kernel
theorem dX5_cheat_91 : decode cX5_cheat 91 = .ok (.bipush 9, 2) := by decide +kernel
theorem dX5_cheat_93 : decode cX5_cheat 93 = .ok (.if_icmp .gt 62, 3) := by decide +kernel
theorem dX5_cheat_96 : decode cX5_cheat 96 = .ok (.iload 7, 2) := by decide +kernel
theorem dX5_cheat_98 : decode cX5_cheat 98 = .ok (.ifCond .eq 57, 3) := by decide +kernel
theorem dX5_cheat_101 : decode cX5_cheat 101 = .ok (.aload_n 0, 1) := by decide +kernel
theorem dX5_cheat_102 : decode cX5_cheat 102 = .ok (.getfield 37, 3) := by decide +kernel
theorem dX5_cheat_105 : decode cX5_cheat 105 = .ok (.iload 6, 2) := by decide +kernel
theorem dX5_cheat_107 : decode cX5_cheat 107 = .ok (.iload 9, 2) := by decide +kernel
theorem dX5_cheat_109 : decode cX5_cheat 109 = .ok (.invokevirtual 315, 3) := by decide +kernel
theorem dX5_cheat_112 : decode cX5_cheat 112 = .ok (.aload_n 0, 1) := by decide +kernel
theorem dX5_cheat_113 : decode cX5_cheat 113 = .ok (.getfield 37, 3) := by decide +kernel
theorem dX5_cheat_116 : decode cX5_cheat 116 = .ok (.aload_n 0, 1) := by decide +kernel
theorem dX5_cheat_117 : decode cX5_cheat 117 = .ok (.getfield 44, 3) := by decide +kernel
theorem dX5_cheat_120 : decode cX5_cheat 120 = .ok (.invokevirtual 311, 3) := by decide +kernel
theorem dX5_cheat_123 : decode cX5_cheat 123 = .ok (.invokestatic 318, 3) := by decide +kernel
theorem dX5_cheat_126 : decode cX5_cheat 126 = .ok (.istore 10, 2) := by decide +kernel
theorem dX5_cheat_128 : decode cX5_cheat 128 = .ok (.iload 10, 2) := by decide +kernel
theorem dX5_cheat_130 : decode cX5_cheat 130 = .ok (.iload 4, 2) := by decide +kernel
theorem dX5_cheat_132 : decode cX5_cheat 132 = .ok (.if_icmp .ge 17, 3) := by decide +kernel
theorem dX5_cheat_135 : decode cX5_cheat 135 = .ok (.iload 10, 2) := by decide +kernel
theorem dX5_cheat_137 : decode cX5_cheat 137 = .ok (.istore 4, 2) := by decide +kernel
theorem dX5_cheat_139 : decode cX5_cheat 139 = .ok (.bipush 10, 2) := by decide +kernel
theorem dX5_cheat_141 : decode cX5_cheat 141 = .ok (.iload 6, 2) := by decide +kernel
theorem dX5_cheat_143 : decode cX5_cheat 143 = .ok (.imul, 1) := by decide +kernel
theorem dX5_cheat_144 : decode cX5_cheat 144 = .ok (.iload 9, 2) := by decide +kernel
theorem dX5_cheat_146 : decode cX5_cheat 146 = .ok (.iadd, 1) := by decide +kernel
theorem dX5_cheat_147 : decode cX5_cheat 147 = .ok (.istore 5, 2) := by decide +kernel
theorem dX5_cheat_149 : decode cX5_cheat 149 = .ok (.iinc 9 1, 3) := by decide +kernel
theorem dX5_cheat_152 : decode cX5_cheat 152 = .ok (.goto (-63), 3) := by decide +kernel
theorem dX5_cheat_155 : decode cX5_cheat 155 = .ok (.aload_n 0, 1) := by decide +kernel
theorem dX5_cheat_156 : decode cX5_cheat 156 = .ok (.getfield 37, 3) := by decide +kernel
theorem dX5_cheat_159 : decode cX5_cheat 159 = .ok (.iload 6, 2) := by decide +kernel
theorem dX5_cheat_161 : decode cX5_cheat 161 = .ok (.iload 8, 2) := by decide +kernel
theorem dX5_cheat_163 : decode cX5_cheat 163 = .ok (.invokevirtual 315, 3) := by decide +kernel
theorem dX5_cheat_166 : decode cX5_cheat 166 = .ok (.iinc 6 1, 3) := by decide +kernel
theorem dX5_cheat_169 : decode cX5_cheat 169 = .ok (.goto (-136), 3) := by decide +kernel
theorem dX5_cheat_172 : decode cX5_cheat 172 = .ok (.iload 5, 2) := by decide +kernel
theorem dX5_cheat_174 : decode cX5_cheat 174 = .ok (.ireturn, 1) := by decide +kernel
theorem dX5_ruined_0 : decode cX5_ruined 0 = .ok (.aload_n 0, 1) := by decide +kernel
theorem dX5_ruined_1 : decode cX5_ruined 1 = .ok (.invokevirtual 126, 3) := by decide +kernel
theorem dX5_ruined_4 : decode cX5_ruined 4 = .ok (.pop, 1) := by decide +kernel
theorem dX5_ruined_5 : decode cX5_ruined 5 = .ok (.iconst 0, 1) := by decide +kernel
theorem dX5_ruined_6 : decode cX5_ruined 6 = .ok (.istore_n 1, 1) := by decide +kernel
theorem dX5_ruined_7 : decode cX5_ruined 7 = .ok (.iload_n 1, 1) := by decide +kernel
theorem dX5_ruined_8 : decode cX5_ruined 8 = .ok (.bipush 50, 2) := by decide +kernel
theorem dX5_ruined_10 : decode cX5_ruined 10 = .ok (.if_icmp .gt 29, 3) := by decide +kernel
theorem dX5_ruined_13 : decode cX5_ruined 13 = .ok (.aload_n 0, 1) := by decide +kernel
theorem dX5_ruined_14 : decode cX5_ruined 14 = .ok (.getfield 37, 3) := by decide +kernel
theorem dX5_ruined_17 : decode cX5_ruined 17 = .ok (.invokevirtual 327, 3) := by decide +kernel
theorem dX5_ruined_20 : decode cX5_ruined 20 = .ok (.ifCond .ge 5, 3) := by decide +kernel
theorem dX5_ruined_23 : decode cX5_ruined 23 = .ok (.iload_n 1, 1) := by decide +kernel
theorem dX5_ruined_24 : decode cX5_ruined 24 = .ok (.ireturn, 1) := by decide +kernel
theorem dX5_ruined_25 : decode cX5_ruined 25 = .ok (.aload_n 0, 1) := by decide +kernel
theorem dX5_ruined_26 : decode cX5_ruined 26 = .ok (.getfield 37, 3) := by decide +kernel
theorem dX5_ruined_29 : decode cX5_ruined 29 = .ok (.invokevirtual 207, 3) := by decide +kernel
theorem dX5_ruined_32 : decode cX5_ruined 32 = .ok (.pop, 1) := by decide +kernel
theorem dX5_ruined_33 : decode cX5_ruined 33 = .ok (.iinc 1 1, 3) := by decide +kernel
theorem dX5_ruined_36 : decode cX5_ruined 36 = .ok (.goto (-29), 3) := by decide +kernel
theorem dX5_ruined_39 : decode cX5_ruined 39 = .ok (.iconst (-1), 1) := by decide +kernel
theorem dX5_ruined_40 : decode cX5_ruined 40 = .ok (.ireturn, 1) := by decide +kernel
theorem dX5_decades_0 : decode cX5_decades 0 = .ok (.iload_n 3, 1) := by decide +kernel
theorem dX5_decades_1 : decode cX5_decades 1 = .ok (.iconst 2, 1) := by decide +kernel
theorem dX5_decades_2 : decode cX5_decades 2 = .ok (.invokestatic 280, 3) := by decide +kernel
theorem dX5_decades_5 : decode cX5_decades 5 = .ok (.iload_n 2, 1) := by decide +kernel
theorem dX5_decades_6 : decode cX5_decades 6 = .ok (.ifCond .lt 9, 3) := by decide +kernel
theorem dX5_decades_9 : decode cX5_decades 9 = .ok (.iload_n 2, 1) := by decide +kernel
theorem dX5_decades_10 : decode cX5_decades 10 = .ok (.bipush 40, 2) := by decide +kernel
theorem dX5_decades_12 : decode cX5_decades 12 = .ok (.if_icmp .le 14, 3) := by decide +kernel
theorem dX5_decades_15 : decode cX5_decades 15 = .ok (.new 73, 3) := by decide +kernel
theorem dX5_decades_18 : decode cX5_decades 18 = .ok (.dup, 1) := by decide +kernel
theorem dX5_decades_19 : decode cX5_decades 19 = .ok (.ldc_w 330, 3) := by decide +kernel
theorem dX5_decades_22 : decode cX5_decades 22 = .ok (.invokespecial 77, 3) := by decide +kernel
theorem dX5_decades_25 : decode cX5_decades 25 = .ok (.athrow, 1) := by decide +kernel
theorem dX5_decades_26 : decode cX5_decades 26 = .ok (.aload_n 0, 1) := by decide +kernel
theorem dX5_decades_27 : decode cX5_decades 27 = .ok (.invokevirtual 126, 3) := by decide +kernel
theorem dX5_decades_30 : decode cX5_decades 30 = .ok (.pop, 1) := by decide +kernel
theorem dX5_decades_31 : decode cX5_decades 31 = .ok (.iload_n 1, 1) := by decide +kernel
theorem dX5_decades_32 : decode cX5_decades 32 = .ok (.istore 4, 2) := by decide +kernel
theorem dX5_decades_34 : decode cX5_decades 34 = .ok (.iconst 0, 1) := by decide +kernel
theorem dX5_decades_35 : decode cX5_decades 35 = .ok (.istore 5, 2) := by decide +kernel
theorem dX5_decades_37 : decode cX5_decades 37 = .ok (.iconst 0, 1) := by decide +kernel
theorem dX5_decades_38 : decode cX5_decades 38 = .ok (.istore 6, 2) := by decide +kernel
theorem dX5_decades_40 : decode cX5_decades 40 = .ok (.iload 6, 2) := by decide +kernel
theorem dX5_decades_42 : decode cX5_decades 42 = .ok (.iload_n 2, 1) := by decide +kernel
theorem dX5_decades_43 : decode cX5_decades 43 = .ok (.if_icmp .ge 90, 3) := by decide +kernel
theorem dX5_decades_46 : decode cX5_decades 46 = .ok (.iload 4, 2) := by decide +kernel
theorem dX5_decades_48 : decode cX5_decades 48 = .ok (.invokestatic 332, 3) := by decide +kernel
theorem dX5_decades_51 : decode cX5_decades 51 = .ok (.istore 4, 2) := by decide +kernel
theorem dX5_decades_53 : decode cX5_decades 53 = .ok (.aload_n 0, 1) := by decide +kernel
theorem dX5_decades_54 : decode cX5_decades 54 = .ok (.getfield 37, 3) := by decide +kernel
theorem dX5_decades_57 : decode cX5_decades 57 = .ok (.getfield 210, 3) := by decide +kernel
theorem dX5_decades_60 : decode cX5_decades 60 = .ok (.iload 4, 2) := by decide +kernel
theorem dX5_decades_62 : decode cX5_decades 62 = .ok (.aload_n 0, 1) := by decide +kernel
theorem dX5_decades_63 : decode cX5_decades 63 = .ok (.getfield 10, 3) := by decide +kernel
theorem dX5_decades_66 : decode cX5_decades 66 = .ok (.invokevirtual 323, 3) := by decide +kernel
theorem dX5_decades_69 : decode cX5_decades 69 = .ok (.invokestatic 335, 3) := by decide +kernel
theorem dX5_decades_72 : decode cX5_decades 72 = .ok (.invokestatic 160, 3) := by decide +kernel
theorem dX5_decades_75 : decode cX5_decades 75 = .ok (.istore 7, 2) := by decide +kernel
theorem dX5_decades_77 : decode cX5_decades 77 = .ok (.iload 7, 2) := by decide +kernel
theorem dX5_decades_79 : decode cX5_decades 79 = .ok (.iconst (-1), 1) := by decide +kernel
theorem dX5_decades_80 : decode cX5_decades 80 = .ok (.if_icmp .eq 12, 3) := by decide +kernel
theorem dX5_decades_83 : decode cX5_decades 83 = .ok (.aload_n 0, 1) := by decide +kernel
theorem dX5_decades_84 : decode cX5_decades 84 = .ok (.getfield 37, 3) := by decide +kernel
theorem dX5_decades_87 : decode cX5_decades 87 = .ok (.iload 7, 2) := by decide +kernel
theorem dX5_decades_89 : decode cX5_decades 89 = .ok (.invokevirtual 272, 3) := by decide +kernel
theorem dX5_decades_92 : decode cX5_decades 92 = .ok (.iload 4, 2) := by decide +kernel
theorem dX5_decades_94 : decode cX5_decades 94 = .ok (.invokestatic 332, 3) := by decide +kernel
theorem dX5_decades_97 : decode cX5_decades 97 = .ok (.istore 4, 2) := by decide +kernel
theorem dX5_decades_99 : decode cX5_decades 99 = .ok (.aload_n 0, 1) := by decide +kernel
theorem dX5_decades_100 : decode cX5_decades 100 = .ok (.getfield 37, 3) := by decide +kernel
theorem dX5_decades_103 : decode cX5_decades 103 = .ok (.iload 4, 2) := by decide +kernel
theorem dX5_decades_105 : decode cX5_decades 105 = .ok (.bipush 9, 2) := by decide +kernel
theorem dX5_decades_107 : decode cX5_decades 107 = .ok (.invokestatic 335, 3) := by decide +kernel
theorem dX5_decades_110 : decode cX5_decades 110 = .ok (.iconst 1, 1) := by decide +kernel
theorem dX5_decades_111 : decode cX5_decades 111 = .ok (.iadd, 1) := by decide +kernel
theorem dX5_decades_112 : decode cX5_decades 112 = .ok (.putfield 338, 3) := by decide +kernel
theorem dX5_decades_115 : decode cX5_decades 115 = .ok (.iload 5, 2) := by decide +kernel
theorem dX5_decades_117 : decode cX5_decades 117 = .ok (.aload_n 0, 1) := by decide +kernel
theorem dX5_decades_118 : decode cX5_decades 118 = .ok (.getfield 37, 3) := by decide +kernel
theorem dX5_decades_121 : decode cX5_decades 121 = .ok (.invokevirtual 207, 3) := by decide +kernel
theorem dX5_decades_124 : decode cX5_decades 124 = .ok (.iadd, 1) := by decide +kernel
theorem dX5_decades_125 : decode cX5_decades 125 = .ok (.istore 5, 2) := by decide +kernel
theorem dX5_decades_127 : decode cX5_decades 127 = .ok (.iinc 6 1, 3) := by decide +kernel
theorem dX5_decades_130 : decode cX5_decades 130 = .ok (.goto (-90), 3) := by decide +kernel
theorem dX5_decades_133 : decode cX5_decades 133 = .ok (.iload_n 3, 1) := by decide +kernel
theorem dX5_decades_134 : decode cX5_decades 134 = .ok (.ifCond .ne 6, 3) := by decide +kernel
theorem dX5_decades_137 : decode cX5_decades 137 = .ok (.iload 5, 2) := by decide +kernel
theorem dX5_decades_139 : decode cX5_decades 139 = .ok (.ireturn, 1) := by decide +kernel
theorem dX5_decades_140 : decode cX5_decades 140 = .ok (.iload_n 3, 1) := by decide +kernel
theorem dX5_decades_141 : decode cX5_decades 141 = .ok (.iconst 1, 1) := by decide +kernel
theorem dX5_decades_142 : decode cX5_decades 142 = .ok (.if_icmp .ne 16, 3) := by decide +kernel
theorem dX5_decades_145 : decode cX5_decades 145 = .ok (.aload_n 0, 1) := by decide +kernel
theorem dX5_decades_146 : decode cX5_decades 146 = .ok (.getfield 37, 3) := by decide +kernel
theorem dX5_decades_149 : decode cX5_decades 149 = .ok (.getfield 210, 3) := by decide +kernel
theorem dX5_decades_152 : decode cX5_decades 152 = .ok (.invokestatic 112, 3) := by decide +kernel
theorem dX5_decades_155 : decode cX5_decades 155 = .ok (.goto 10, 3) := by decide +kernel
theorem dX5_decades_158 : decode cX5_decades 158 = .ok (.aload_n 0, 1) := by decide +kernel
theorem dX5_decades_159 : decode cX5_decades 159 = .ok (.getfield 37, 3) := by decide +kernel
theorem dX5_decades_162 : decode cX5_decades 162 = .ok (.invokevirtual 327, 3) := by decide +kernel
theorem dX5_decades_165 : decode cX5_decades 165 = .ok (.ireturn, 1) := by decide +kernel
theorem dX5_nextSeed_0 : decode cX5_nextSeed 0 = .ok (.iload_n 0, 1) := by decide +kernel
theorem dX5_nextSeed_1 : decode cX5_nextSeed 1 = .ok (.ldc_w 341, 3) := by decide +kernel
theorem dX5_nextSeed_4 : decode cX5_nextSeed 4 = .ok (.imul, 1) := by decide +kernel
theorem dX5_nextSeed_5 : decode cX5_nextSeed 5 = .ok (.sipush 12345, 3) := by decide +kernel
theorem dX5_nextSeed_8 : decode cX5_nextSeed 8 = .ok (.iadd, 1) := by decide +kernel
theorem dX5_nextSeed_9 : decode cX5_nextSeed 9 = .ok (.ireturn, 1) := by decide +kernel
theorem dX5_draw_0 : decode cX5_draw 0 = .ok (.iload_n 1, 1) := by decide +kernel
theorem dX5_draw_1 : decode cX5_draw 1 = .ok (.ifCond .le 16, 3) := by decide +kernel
theorem dX5_draw_4 : decode cX5_draw 4 = .ok (.iload_n 0, 1) := by decide +kernel
theorem dX5_draw_5 : decode cX5_draw 5 = .ok (.bipush 16, 2) := by decide +kernel
theorem dX5_draw_7 : decode cX5_draw 7 = .ok (.iushr, 1) := by decide +kernel
theorem dX5_draw_8 : decode cX5_draw 8 = .ok (.sipush 32767, 3) := by decide +kernel
theorem dX5_draw_11 : decode cX5_draw 11 = .ok (.iand, 1) := by decide +kernel
theorem dX5_draw_12 : decode cX5_draw 12 = .ok (.iload_n 1, 1) := by decide +kernel
theorem dX5_draw_13 : decode cX5_draw 13 = .ok (.irem, 1) := by decide +kernel
theorem dX5_draw_14 : decode cX5_draw 14 = .ok (.goto 4, 3) := by decide +kernel
theorem dX5_draw_17 : decode cX5_draw 17 = .ok (.iconst 0, 1) := by decide +kernel
theorem dX5_draw_18 : decode cX5_draw 18 = .ok (.ireturn, 1) := by decide +kernel
theorem dX5_hollow_0 : decode cX5_hollow 0 = .ok (.iload_n 1, 1) := by decide +kernel
theorem dX5_hollow_1 : decode cX5_hollow 1 = .ok (.iconst 1, 1) := by decide +kernel
theorem dX5_hollow_2 : decode cX5_hollow 2 = .ok (.invokestatic 280, 3) := by decide +kernel
theorem dX5_hollow_5 : decode cX5_hollow 5 = .ok (.aload_n 0, 1) := by decide +kernel
theorem dX5_hollow_6 : decode cX5_hollow 6 = .ok (.invokevirtual 126, 3) := by decide +kernel
theorem dX5_hollow_9 : decode cX5_hollow 9 = .ok (.invokevirtual 252, 3) := by decide +kernel
theorem dX5_hollow_12 : decode cX5_hollow 12 = .ok (.lstore_n 2, 1) := by decide +kernel
theorem dX5_hollow_13 : decode cX5_hollow 13 = .ok (.iconst (-1), 1) := by decide +kernel
theorem dX5_hollow_14 : decode cX5_hollow 14 = .ok (.istore 4, 2) := by decide +kernel
theorem dX5_hollow_16 : decode cX5_hollow 16 = .ok (.iconst (-1), 1) := by decide +kernel
theorem dX5_hollow_17 : decode cX5_hollow 17 = .ok (.istore 5, 2) := by decide +kernel
theorem dX5_hollow_19 : decode cX5_hollow 19 = .ok (.iconst 0, 1) := by decide +kernel
theorem dX5_hollow_20 : decode cX5_hollow 20 = .ok (.istore 6, 2) := by decide +kernel
theorem dX5_hollow_22 : decode cX5_hollow 22 = .ok (.iload 6, 2) := by decide +kernel
theorem dX5_hollow_24 : decode cX5_hollow 24 = .ok (.aload_n 0, 1) := by decide +kernel
theorem dX5_hollow_25 : decode cX5_hollow 25 = .ok (.getfield 10, 3) := by decide +kernel
theorem dX5_hollow_28 : decode cX5_hollow 28 = .ok (.invokevirtual 323, 3) := by decide +kernel
theorem dX5_hollow_31 : decode cX5_hollow 31 = .ok (.if_icmp .ge 50, 3) := by decide +kernel
theorem dX5_hollow_34 : decode cX5_hollow 34 = .ok (.lload_n 2, 1) := by decide +kernel
theorem dX5_hollow_35 : decode cX5_hollow 35 = .ok (.iload 6, 2) := by decide +kernel
theorem dX5_hollow_37 : decode cX5_hollow 37 = .ok (.invokestatic 224, 3) := by decide +kernel
theorem dX5_hollow_40 : decode cX5_hollow 40 = .ok (.ifCond .eq 35, 3) := by decide +kernel
theorem dX5_hollow_43 : decode cX5_hollow 43 = .ok (.aload_n 0, 1) := by decide +kernel
theorem dX5_hollow_44 : decode cX5_hollow 44 = .ok (.getfield 37, 3) := by decide +kernel
theorem dX5_hollow_47 : decode cX5_hollow 47 = .ok (.iload 6, 2) := by decide +kernel
theorem dX5_hollow_49 : decode cX5_hollow 49 = .ok (.invokevirtual 342, 3) := by decide +kernel
theorem dX5_hollow_52 : decode cX5_hollow 52 = .ok (.istore 7, 2) := by decide +kernel
theorem dX5_hollow_54 : decode cX5_hollow 54 = .ok (.iload 4, 2) := by decide +kernel
theorem dX5_hollow_56 : decode cX5_hollow 56 = .ok (.iconst (-1), 1) := by decide +kernel
theorem dX5_hollow_57 : decode cX5_hollow 57 = .ok (.if_icmp .eq 10, 3) := by decide +kernel
theorem dX5_hollow_60 : decode cX5_hollow 60 = .ok (.iload 7, 2) := by decide +kernel
theorem dX5_hollow_62 : decode cX5_hollow 62 = .ok (.iload 5, 2) := by decide +kernel
theorem dX5_hollow_64 : decode cX5_hollow 64 = .ok (.if_icmp .ge 11, 3) := by decide +kernel
theorem dX5_hollow_67 : decode cX5_hollow 67 = .ok (.iload 6, 2) := by decide +kernel
theorem dX5_hollow_69 : decode cX5_hollow 69 = .ok (.istore 4, 2) := by decide +kernel
theorem dX5_hollow_71 : decode cX5_hollow 71 = .ok (.iload 7, 2) := by decide +kernel
theorem dX5_hollow_73 : decode cX5_hollow 73 = .ok (.istore 5, 2) := by decide +kernel
theorem dX5_hollow_75 : decode cX5_hollow 75 = .ok (.iinc 6 1, 3) := by decide +kernel
theorem dX5_hollow_78 : decode cX5_hollow 78 = .ok (.goto (-56), 3) := by decide +kernel
theorem dX5_hollow_81 : decode cX5_hollow 81 = .ok (.iload_n 1, 1) := by decide +kernel
theorem dX5_hollow_82 : decode cX5_hollow 82 = .ok (.ifCond .ne 8, 3) := by decide +kernel
theorem dX5_hollow_85 : decode cX5_hollow 85 = .ok (.iload 4, 2) := by decide +kernel
theorem dX5_hollow_87 : decode cX5_hollow 87 = .ok (.goto 5, 3) := by decide +kernel
theorem dX5_hollow_90 : decode cX5_hollow 90 = .ok (.iload 5, 2) := by decide +kernel
theorem dX5_hollow_92 : decode cX5_hollow 92 = .ok (.ireturn, 1) := by decide +kernel
theorem dX5_sale_0 : decode cX5_sale 0 = .ok (.aload_n 0, 1) := by decide +kernel
theorem dX5_sale_1 : decode cX5_sale 1 = .ok (.iload_n 1, 1) := by decide +kernel
theorem dX5_sale_2 : decode cX5_sale 2 = .ok (.invokevirtual 173, 3) := by decide +kernel
theorem dX5_sale_5 : decode cX5_sale 5 = .ok (.aload_n 0, 1) := by decide +kernel
theorem dX5_sale_6 : decode cX5_sale 6 = .ok (.invokevirtual 126, 3) := by decide +kernel
theorem dX5_sale_9 : decode cX5_sale 9 = .ok (.iload_n 1, 1) := by decide +kernel
theorem dX5_sale_10 : decode cX5_sale 10 = .ok (.invokevirtual 185, 3) := by decide +kernel
theorem dX5_sale_13 : decode cX5_sale 13 = .ok (.istore_n 2, 1) := by decide +kernel
theorem dX5_sale_14 : decode cX5_sale 14 = .ok (.aload_n 0, 1) := by decide +kernel
theorem dX5_sale_15 : decode cX5_sale 15 = .ok (.getfield 44, 3) := by decide +kernel
theorem dX5_sale_18 : decode cX5_sale 18 = .ok (.getfield 109, 3) := by decide +kernel
theorem dX5_sale_21 : decode cX5_sale 21 = .ok (.bipush 54, 2) := by decide +kernel
theorem dX5_sale_23 : decode cX5_sale 23 = .ok (.iload_n 1, 1) := by decide +kernel
theorem dX5_sale_24 : decode cX5_sale 24 = .ok (.iadd, 1) := by decide +kernel
theorem dX5_sale_25 : decode cX5_sale 25 = .ok (.iaload, 1) := by decide +kernel
theorem dX5_sale_26 : decode cX5_sale 26 = .ok (.istore_n 3, 1) := by decide +kernel
theorem dX5_sale_27 : decode cX5_sale 27 = .ok (.iconst (-1), 1) := by decide +kernel
theorem dX5_sale_28 : decode cX5_sale 28 = .ok (.istore 4, 2) := by decide +kernel
theorem dX5_sale_30 : decode cX5_sale 30 = .ok (.iconst 0, 1) := by decide +kernel
theorem dX5_sale_31 : decode cX5_sale 31 = .ok (.istore 5, 2) := by decide +kernel
theorem dX5_sale_33 : decode cX5_sale 33 = .ok (.iload 5, 2) := by decide +kernel
theorem dX5_sale_35 : decode cX5_sale 35 = .ok (.bipush 8, 2) := by decide +kernel
theorem dX5_sale_37 : decode cX5_sale 37 = .ok (.if_icmp .ge 60, 3) := by decide +kernel
theorem dX5_sale_40 : decode cX5_sale 40 = .ok (.iload_n 3, 1) := by decide +kernel
theorem dX5_sale_41 : decode cX5_sale 41 = .ok (.i2l, 1) := by decide +kernel
theorem dX5_sale_42 : decode cX5_sale 42 = .ok (.iload 5, 2) := by decide +kernel
theorem dX5_sale_44 : decode cX5_sale 44 = .ok (.invokestatic 224, 3) := by decide +kernel
theorem dX5_sale_47 : decode cX5_sale 47 = .ok (.ifCond .ne 44, 3) := by decide +kernel
theorem dX5_sale_50 : decode cX5_sale 50 = .ok (.aload_n 0, 1) := by decide +kernel
theorem dX5_sale_51 : decode cX5_sale 51 = .ok (.getfield 37, 3) := by decide +kernel
theorem dX5_sale_54 : decode cX5_sale 54 = .ok (.getfield 210, 3) := by decide +kernel
theorem dX5_sale_57 : decode cX5_sale 57 = .ok (.bipush 54, 2) := by decide +kernel
theorem dX5_sale_59 : decode cX5_sale 59 = .ok (.iload_n 1, 1) := by decide +kernel
theorem dX5_sale_60 : decode cX5_sale 60 = .ok (.iadd, 1) := by decide +kernel
theorem dX5_sale_61 : decode cX5_sale 61 = .ok (.iload_n 3, 1) := by decide +kernel
theorem dX5_sale_62 : decode cX5_sale 62 = .ok (.iconst 1, 1) := by decide +kernel
theorem dX5_sale_63 : decode cX5_sale 63 = .ok (.iload 5, 2) := by decide +kernel
theorem dX5_sale_65 : decode cX5_sale 65 = .ok (.ishl, 1) := by decide +kernel
theorem dX5_sale_66 : decode cX5_sale 66 = .ok (.ior, 1) := by decide +kernel
theorem dX5_sale_67 : decode cX5_sale 67 = .ok (.iastore, 1) := by decide +kernel
theorem dX5_sale_68 : decode cX5_sale 68 = .ok (.aload_n 0, 1) := by decide +kernel
theorem dX5_sale_69 : decode cX5_sale 69 = .ok (.getfield 37, 3) := by decide +kernel
theorem dX5_sale_72 : decode cX5_sale 72 = .ok (.iload_n 1, 1) := by decide +kernel
theorem dX5_sale_73 : decode cX5_sale 73 = .ok (.invokevirtual 185, 3) := by decide +kernel
theorem dX5_sale_76 : decode cX5_sale 76 = .ok (.istore 6, 2) := by decide +kernel
theorem dX5_sale_78 : decode cX5_sale 78 = .ok (.iload 6, 2) := by decide +kernel
theorem dX5_sale_80 : decode cX5_sale 80 = .ok (.iload_n 2, 1) := by decide +kernel
theorem dX5_sale_81 : decode cX5_sale 81 = .ok (.if_icmp .ge 10, 3) := by decide +kernel
theorem dX5_sale_84 : decode cX5_sale 84 = .ok (.iload 6, 2) := by decide +kernel
theorem dX5_sale_86 : decode cX5_sale 86 = .ok (.istore_n 2, 1) := by decide +kernel
theorem dX5_sale_87 : decode cX5_sale 87 = .ok (.iload 5, 2) := by decide +kernel
theorem dX5_sale_89 : decode cX5_sale 89 = .ok (.istore 4, 2) := by decide +kernel
theorem dX5_sale_91 : decode cX5_sale 91 = .ok (.iinc 5 1, 3) := by decide +kernel
theorem dX5_sale_94 : decode cX5_sale 94 = .ok (.goto (-61), 3) := by decide +kernel
theorem dX5_sale_97 : decode cX5_sale 97 = .ok (.iload 4, 2) := by decide +kernel
theorem dX5_sale_99 : decode cX5_sale 99 = .ok (.ireturn, 1) := by decide +kernel
theorem dX5_shade_0 : decode cX5_shade 0 = .ok (.aload_n 0, 1) := by decide +kernel
theorem dX5_shade_1 : decode cX5_shade 1 = .ok (.iload_n 1, 1) := by decide +kernel
theorem dX5_shade_2 : decode cX5_shade 2 = .ok (.invokevirtual 173, 3) := by decide +kernel
theorem dX5_shade_5 : decode cX5_shade 5 = .ok (.aload_n 0, 1) := by decide +kernel
theorem dX5_shade_6 : decode cX5_shade 6 = .ok (.iload_n 2, 1) := by decide +kernel
theorem dX5_shade_7 : decode cX5_shade 7 = .ok (.invokevirtual 173, 3) := by decide +kernel
theorem dX5_shade_10 : decode cX5_shade 10 = .ok (.iload_n 1, 1) := by decide +kernel
theorem dX5_shade_11 : decode cX5_shade 11 = .ok (.iload_n 2, 1) := by decide +kernel
theorem dX5_shade_12 : decode cX5_shade 12 = .ok (.if_icmp .ne 14, 3) := by decide +kernel
theorem dX5_shade_15 : decode cX5_shade 15 = .ok (.new 73, 3) := by decide +kernel
theorem dX5_shade_18 : decode cX5_shade 18 = .ok (.dup, 1) := by decide +kernel
theorem dX5_shade_19 : decode cX5_shade 19 = .ok (.ldc_w 345, 3) := by decide +kernel
theorem dX5_shade_22 : decode cX5_shade 22 = .ok (.invokespecial 77, 3) := by decide +kernel
theorem dX5_shade_25 : decode cX5_shade 25 = .ok (.athrow, 1) := by decide +kernel
theorem dX5_shade_26 : decode cX5_shade 26 = .ok (.aload_n 0, 1) := by decide +kernel
theorem dX5_shade_27 : decode cX5_shade 27 = .ok (.invokevirtual 126, 3) := by decide +kernel
theorem dX5_shade_30 : decode cX5_shade 30 = .ok (.pop, 1) := by decide +kernel
theorem dX5_shade_31 : decode cX5_shade 31 = .ok (.aload_n 0, 1) := by decide +kernel
theorem dX5_shade_32 : decode cX5_shade 32 = .ok (.getfield 10, 3) := by decide +kernel
theorem dX5_shade_35 : decode cX5_shade 35 = .ok (.getfield 176, 3) := by decide +kernel
theorem dX5_shade_38 : decode cX5_shade 38 = .ok (.iload_n 2, 1) := by decide +kernel
theorem dX5_shade_39 : decode cX5_shade 39 = .ok (.iaload, 1) := by decide +kernel
theorem dX5_shade_40 : decode cX5_shade 40 = .ok (.istore_n 3, 1) := by decide +kernel
theorem dX5_shade_41 : decode cX5_shade 41 = .ok (.aload_n 0, 1) := by decide +kernel
theorem dX5_shade_42 : decode cX5_shade 42 = .ok (.getfield 37, 3) := by decide +kernel
theorem dX5_shade_45 : decode cX5_shade 45 = .ok (.iload_n 3, 1) := by decide +kernel
theorem dX5_shade_46 : decode cX5_shade 46 = .ok (.aload_n 0, 1) := by decide +kernel
theorem dX5_shade_47 : decode cX5_shade 47 = .ok (.getfield 37, 3) := by decide +kernel
theorem dX5_shade_50 : decode cX5_shade 50 = .ok (.getfield 210, 3) := by decide +kernel
theorem dX5_shade_53 : decode cX5_shade 53 = .ok (.bipush 48, 2) := by decide +kernel
theorem dX5_shade_55 : decode cX5_shade 55 = .ok (.iload_n 2, 1) := by decide +kernel
theorem dX5_shade_56 : decode cX5_shade 56 = .ok (.iadd, 1) := by decide +kernel
theorem dX5_shade_57 : decode cX5_shade 57 = .ok (.iaload, 1) := by decide +kernel
theorem dX5_shade_58 : decode cX5_shade 58 = .ok (.ineg, 1) := by decide +kernel
theorem dX5_shade_59 : decode cX5_shade 59 = .ok (.invokevirtual 264, 3) := by decide +kernel
theorem dX5_shade_62 : decode cX5_shade 62 = .ok (.iconst 0, 1) := by decide +kernel
theorem dX5_shade_63 : decode cX5_shade 63 = .ok (.istore 4, 2) := by decide +kernel
theorem dX5_shade_65 : decode cX5_shade 65 = .ok (.aload_n 0, 1) := by decide +kernel
theorem dX5_shade_66 : decode cX5_shade 66 = .ok (.getfield 37, 3) := by decide +kernel
theorem dX5_shade_69 : decode cX5_shade 69 = .ok (.iload_n 1, 1) := by decide +kernel
theorem dX5_shade_70 : decode cX5_shade 70 = .ok (.invokevirtual 185, 3) := by decide +kernel
theorem dX5_shade_73 : decode cX5_shade 73 = .ok (.istore 5, 2) := by decide +kernel
theorem dX5_shade_75 : decode cX5_shade 75 = .ok (.iconst 1, 1) := by decide +kernel
theorem dX5_shade_76 : decode cX5_shade 76 = .ok (.istore 6, 2) := by decide +kernel
theorem dX5_shade_78 : decode cX5_shade 78 = .ok (.iload 6, 2) := by decide +kernel
theorem dX5_shade_80 : decode cX5_shade 80 = .ok (.iconst 5, 1) := by decide +kernel
theorem dX5_shade_81 : decode cX5_shade 81 = .ok (.if_icmp .gt 43, 3) := by decide +kernel
theorem dX5_shade_84 : decode cX5_shade 84 = .ok (.aload_n 0, 1) := by decide +kernel
theorem dX5_shade_85 : decode cX5_shade 85 = .ok (.getfield 37, 3) := by decide +kernel
theorem dX5_shade_88 : decode cX5_shade 88 = .ok (.iload_n 3, 1) := by decide +kernel
theorem dX5_shade_89 : decode cX5_shade 89 = .ok (.iconst 1, 1) := by decide +kernel
theorem dX5_shade_90 : decode cX5_shade 90 = .ok (.invokevirtual 264, 3) := by decide +kernel
theorem dX5_shade_93 : decode cX5_shade 93 = .ok (.aload_n 0, 1) := by decide +kernel
theorem dX5_shade_94 : decode cX5_shade 94 = .ok (.getfield 37, 3) := by decide +kernel
theorem dX5_shade_97 : decode cX5_shade 97 = .ok (.iload_n 1, 1) := by decide +kernel
theorem dX5_shade_98 : decode cX5_shade 98 = .ok (.invokevirtual 185, 3) := by decide +kernel
theorem dX5_shade_101 : decode cX5_shade 101 = .ok (.istore 7, 2) := by decide +kernel
theorem dX5_shade_103 : decode cX5_shade 103 = .ok (.iload 7, 2) := by decide +kernel
theorem dX5_shade_105 : decode cX5_shade 105 = .ok (.iload 5, 2) := by decide +kernel
theorem dX5_shade_107 : decode cX5_shade 107 = .ok (.if_icmp .ge 11, 3) := by decide +kernel
theorem dX5_shade_110 : decode cX5_shade 110 = .ok (.iload 6, 2) := by decide +kernel
theorem dX5_shade_112 : decode cX5_shade 112 = .ok (.istore 4, 2) := by decide +kernel
theorem dX5_shade_114 : decode cX5_shade 114 = .ok (.iload 7, 2) := by decide +kernel
theorem dX5_shade_116 : decode cX5_shade 116 = .ok (.istore 5, 2) := by decide +kernel
theorem dX5_shade_118 : decode cX5_shade 118 = .ok (.iinc 6 1, 3) := by decide +kernel
theorem dX5_shade_121 : decode cX5_shade 121 = .ok (.goto (-43), 3) := by decide +kernel
theorem dX5_shade_124 : decode cX5_shade 124 = .ok (.iload 4, 2) := by decide +kernel
theorem dX5_shade_126 : decode cX5_shade 126 = .ok (.ireturn, 1) := by decide +kernel
theorem dX5_dearest_0 : decode cX5_dearest 0 = .ok (.iload_n 1, 1) := by decide +kernel
theorem dX5_dearest_1 : decode cX5_dearest 1 = .ok (.iconst 1, 1) := by decide +kernel
theorem dX5_dearest_2 : decode cX5_dearest 2 = .ok (.if_icmp .lt 9, 3) := by decide +kernel
theorem dX5_dearest_5 : decode cX5_dearest 5 = .ok (.iload_n 1, 1) := by decide +kernel
theorem dX5_dearest_6 : decode cX5_dearest 6 = .ok (.bipush 20, 2) := by decide +kernel
theorem dX5_dearest_8 : decode cX5_dearest 8 = .ok (.if_icmp .le 14, 3) := by decide +kernel
theorem dX5_dearest_11 : decode cX5_dearest 11 = .ok (.new 73, 3) := by decide +kernel
theorem dX5_dearest_14 : decode cX5_dearest 14 = .ok (.dup, 1) := by decide +kernel
theorem dX5_dearest_15 : decode cX5_dearest 15 = .ok (.ldc_w 330, 3) := by decide +kernel
theorem dX5_dearest_18 : decode cX5_dearest 18 = .ok (.invokespecial 77, 3) := by decide +kernel
theorem dX5_dearest_21 : decode cX5_dearest 21 = .ok (.athrow, 1) := by decide +kernel
theorem dX5_dearest_22 : decode cX5_dearest 22 = .ok (.aload_n 0, 1) := by decide +kernel
theorem dX5_dearest_23 : decode cX5_dearest 23 = .ok (.invokevirtual 126, 3) := by decide +kernel
theorem dX5_dearest_26 : decode cX5_dearest 26 = .ok (.pop, 1) := by decide +kernel
theorem dX5_dearest_27 : decode cX5_dearest 27 = .ok (.aload_n 0, 1) := by decide +kernel
theorem dX5_dearest_28 : decode cX5_dearest 28 = .ok (.getfield 37, 3) := by decide +kernel
theorem dX5_dearest_31 : decode cX5_dearest 31 = .ok (.getfield 210, 3) := by decide +kernel
theorem dX5_dearest_34 : decode cX5_dearest 34 = .ok (.bipush 61, 2) := by decide +kernel
theorem dX5_dearest_36 : decode cX5_dearest 36 = .ok (.iaload, 1) := by decide +kernel
theorem dX5_dearest_37 : decode cX5_dearest 37 = .ok (.istore_n 2, 1) := by decide +kernel
theorem dX5_dearest_38 : decode cX5_dearest 38 = .ok (.iconst (-1), 1) := by decide +kernel
theorem dX5_dearest_39 : decode cX5_dearest 39 = .ok (.istore_n 3, 1) := by decide +kernel
theorem dX5_dearest_40 : decode cX5_dearest 40 = .ok (.iconst 0, 1) := by decide +kernel
theorem dX5_dearest_41 : decode cX5_dearest 41 = .ok (.istore 4, 2) := by decide +kernel
theorem dX5_dearest_43 : decode cX5_dearest 43 = .ok (.iload 4, 2) := by decide +kernel
theorem dX5_dearest_45 : decode cX5_dearest 45 = .ok (.iload_n 1, 1) := by decide +kernel
theorem dX5_dearest_46 : decode cX5_dearest 46 = .ok (.if_icmp .ge 42, 3) := by decide +kernel
theorem dX5_dearest_49 : decode cX5_dearest 49 = .ok (.aload_n 0, 1) := by decide +kernel
theorem dX5_dearest_50 : decode cX5_dearest 50 = .ok (.getfield 37, 3) := by decide +kernel
theorem dX5_dearest_53 : decode cX5_dearest 53 = .ok (.getfield 210, 3) := by decide +kernel
theorem dX5_dearest_56 : decode cX5_dearest 56 = .ok (.bipush 61, 2) := by decide +kernel
theorem dX5_dearest_58 : decode cX5_dearest 58 = .ok (.iaload, 1) := by decide +kernel
theorem dX5_dearest_59 : decode cX5_dearest 59 = .ok (.istore 5, 2) := by decide +kernel
theorem dX5_dearest_61 : decode cX5_dearest 61 = .ok (.aload_n 0, 1) := by decide +kernel
theorem dX5_dearest_62 : decode cX5_dearest 62 = .ok (.getfield 37, 3) := by decide +kernel
theorem dX5_dearest_65 : decode cX5_dearest 65 = .ok (.invokevirtual 207, 3) := by decide +kernel
theorem dX5_dearest_68 : decode cX5_dearest 68 = .ok (.istore 6, 2) := by decide +kernel
theorem dX5_dearest_70 : decode cX5_dearest 70 = .ok (.iload 6, 2) := by decide +kernel
theorem dX5_dearest_72 : decode cX5_dearest 72 = .ok (.iload_n 3, 1) := by decide +kernel
theorem dX5_dearest_73 : decode cX5_dearest 73 = .ok (.if_icmp .le 9, 3) := by decide +kernel
theorem dX5_dearest_76 : decode cX5_dearest 76 = .ok (.iload 6, 2) := by decide +kernel
theorem dX5_dearest_78 : decode cX5_dearest 78 = .ok (.istore_n 3, 1) := by decide +kernel
theorem dX5_dearest_79 : decode cX5_dearest 79 = .ok (.iload 5, 2) := by decide +kernel
theorem dX5_dearest_81 : decode cX5_dearest 81 = .ok (.istore_n 2, 1) := by decide +kernel
theorem dX5_dearest_82 : decode cX5_dearest 82 = .ok (.iinc 4 1, 3) := by decide +kernel
theorem dX5_dearest_85 : decode cX5_dearest 85 = .ok (.goto (-42), 3) := by decide +kernel
theorem dX5_dearest_88 : decode cX5_dearest 88 = .ok (.iload_n 2, 1) := by decide +kernel
theorem dX5_dearest_89 : decode cX5_dearest 89 = .ok (.ireturn, 1) := by decide +kernel
theorem dX5_image_0 : decode cX5_image 0 = .ok (.aload_n 0, 1) := by decide +kernel
theorem dX5_image_1 : decode cX5_image 1 = .ok (.getfield 347, 3) := by decide +kernel
theorem dX5_image_4 : decode cX5_image 4 = .ok (.ifnonnull 14, 3) := by decide +kernel
theorem dX5_image_7 : decode cX5_image 7 = .ok (.aload_n 0, 1) := by decide +kernel
theorem dX5_image_8 : decode cX5_image 8 = .ok (.new 41, 3) := by decide +kernel
theorem dX5_image_11 : decode cX5_image 11 = .ok (.dup, 1) := by decide +kernel
theorem dX5_image_12 : decode cX5_image 12 = .ok (.invokespecial 43, 3) := by decide +kernel
theorem dX5_image_15 : decode cX5_image 15 = .ok (.putfield 347, 3) := by decide +kernel
theorem dX5_image_18 : decode cX5_image 18 = .ok (.aload_n 0, 1) := by decide +kernel
theorem dX5_image_19 : decode cX5_image 19 = .ok (.getfield 347, 3) := by decide +kernel
theorem dX5_image_22 : decode cX5_image 22 = .ok (.aload_n 0, 1) := by decide +kernel
theorem dX5_image_23 : decode cX5_image 23 = .ok (.getfield 44, 3) := by decide +kernel
theorem dX5_image_26 : decode cX5_image 26 = .ok (.invokevirtual 350, 3) := by decide +kernel
theorem dX5_image_29 : decode cX5_image 29 = .ok (.aload_n 0, 1) := by decide +kernel
theorem dX5_image_30 : decode cX5_image 30 = .ok (.iconst 1, 1) := by decide +kernel
theorem dX5_image_31 : decode cX5_image 31 = .ok (.putfield 93, 3) := by decide +kernel
theorem dX5_image_34 : decode cX5_image 34 = .ok (.return_, 1) := by decide +kernel
theorem dX5_restore_0 : decode cX5_restore 0 = .ok (.aload_n 0, 1) := by decide +kernel
theorem dX5_restore_1 : decode cX5_restore 1 = .ok (.getfield 93, 3) := by decide +kernel
theorem dX5_restore_4 : decode cX5_restore 4 = .ok (.ifCond .eq 10, 3) := by decide +kernel
theorem dX5_restore_7 : decode cX5_restore 7 = .ok (.aload_n 0, 1) := by decide +kernel
theorem dX5_restore_8 : decode cX5_restore 8 = .ok (.getfield 347, 3) := by decide +kernel
theorem dX5_restore_11 : decode cX5_restore 11 = .ok (.ifnonnull 5, 3) := by decide +kernel
theorem dX5_restore_14 : decode cX5_restore 14 = .ok (.iconst 0, 1) := by decide +kernel
theorem dX5_restore_15 : decode cX5_restore 15 = .ok (.ireturn, 1) := by decide +kernel
theorem dX5_restore_16 : decode cX5_restore 16 = .ok (.aload_n 0, 1) := by decide +kernel
theorem dX5_restore_17 : decode cX5_restore 17 = .ok (.getfield 44, 3) := by decide +kernel
theorem dX5_restore_20 : decode cX5_restore 20 = .ok (.aload_n 0, 1) := by decide +kernel
theorem dX5_restore_21 : decode cX5_restore 21 = .ok (.getfield 347, 3) := by decide +kernel
theorem dX5_restore_24 : decode cX5_restore 24 = .ok (.invokevirtual 350, 3) := by decide +kernel
theorem dX5_restore_27 : decode cX5_restore 27 = .ok (.iconst 1, 1) := by decide +kernel
theorem dX5_restore_28 : decode cX5_restore 28 = .ok (.ireturn, 1) := by decide +kernel
theorem dX5_present_0 : decode cX5_present 0 = .ok (.aload_n 0, 1) := by decide +kernel
theorem dX5_present_1 : decode cX5_present 1 = .ok (.getfield 37, 3) := by decide +kernel
theorem dX5_present_4 : decode cX5_present 4 = .ok (.aload_n 0, 1) := by decide +kernel
theorem dX5_present_5 : decode cX5_present 5 = .ok (.getfield 10, 3) := by decide +kernel
theorem dX5_present_8 : decode cX5_present 8 = .ok (.aload_n 0, 1) := by decide +kernel
theorem dX5_present_9 : decode cX5_present 9 = .ok (.getfield 44, 3) := by decide +kernel
theorem dX5_present_12 : decode cX5_present 12 = .ok (.getfield 109, 3) := by decide +kernel
theorem dX5_present_15 : decode cX5_present 15 = .ok (.invokevirtual 354, 3) := by decide +kernel
theorem dX5_present_18 : decode cX5_present 18 = .ok (.aload_n 0, 1) := by decide +kernel
theorem dX5_present_19 : decode cX5_present 19 = .ok (.getfield 37, 3) := by decide +kernel
theorem dX5_present_22 : decode cX5_present 22 = .ok (.areturn, 1) := by decide +kernel
theorem dX5_needCell_0 : decode cX5_needCell 0 = .ok (.iload_n 1, 1) := by decide +kernel
theorem dX5_needCell_1 : decode cX5_needCell 1 = .ok (.ifCond .lt 14, 3) := by decide +kernel
theorem dX5_needCell_4 : decode cX5_needCell 4 = .ok (.iload_n 1, 1) := by decide +kernel
theorem dX5_needCell_5 : decode cX5_needCell 5 = .ok (.aload_n 0, 1) := by decide +kernel
theorem dX5_needCell_6 : decode cX5_needCell 6 = .ok (.getfield 10, 3) := by decide +kernel
theorem dX5_needCell_9 : decode cX5_needCell 9 = .ok (.invokevirtual 323, 3) := by decide +kernel
theorem dX5_needCell_12 : decode cX5_needCell 12 = .ok (.if_icmp .lt 14, 3) := by decide +kernel
theorem dX5_needCell_15 : decode cX5_needCell 15 = .ok (.new 146, 3) := by decide +kernel
theorem dX5_needCell_18 : decode cX5_needCell 18 = .ok (.dup, 1) := by decide +kernel
theorem dX5_needCell_19 : decode cX5_needCell 19 = .ok (.ldc_w 358, 3) := by decide +kernel
theorem dX5_needCell_22 : decode cX5_needCell 22 = .ok (.invokespecial 150, 3) := by decide +kernel
theorem dX5_needCell_25 : decode cX5_needCell 25 = .ok (.athrow, 1) := by decide +kernel
theorem dX5_needCell_26 : decode cX5_needCell 26 = .ok (.return_, 1) := by decide +kernel
theorem dX5_needHouse_0 : decode cX5_needHouse 0 = .ok (.iload_n 1, 1) := by decide +kernel
theorem dX5_needHouse_1 : decode cX5_needHouse 1 = .ok (.ifCond .lt 14, 3) := by decide +kernel
theorem dX5_needHouse_4 : decode cX5_needHouse 4 = .ok (.iload_n 1, 1) := by decide +kernel
theorem dX5_needHouse_5 : decode cX5_needHouse 5 = .ok (.aload_n 0, 1) := by decide +kernel
theorem dX5_needHouse_6 : decode cX5_needHouse 6 = .ok (.getfield 10, 3) := by decide +kernel
theorem dX5_needHouse_9 : decode cX5_needHouse 9 = .ok (.getfield 116, 3) := by decide +kernel
theorem dX5_needHouse_12 : decode cX5_needHouse 12 = .ok (.if_icmp .lt 14, 3) := by decide +kernel
theorem dX5_needHouse_15 : decode cX5_needHouse 15 = .ok (.new 146, 3) := by decide +kernel
theorem dX5_needHouse_18 : decode cX5_needHouse 18 = .ok (.dup, 1) := by decide +kernel
theorem dX5_needHouse_19 : decode cX5_needHouse 19 = .ok (.ldc_w 360, 3) := by decide +kernel
theorem dX5_needHouse_22 : decode cX5_needHouse 22 = .ok (.invokespecial 150, 3) := by decide +kernel
theorem dX5_needHouse_25 : decode cX5_needHouse 25 = .ok (.athrow, 1) := by decide +kernel
theorem dX5_needHouse_26 : decode cX5_needHouse 26 = .ok (.return_, 1) := by decide +kernel
theorem dX5_needTree_0 : decode cX5_needTree 0 = .ok (.iload_n 1, 1) := by decide +kernel
theorem dX5_needTree_1 : decode cX5_needTree 1 = .ok (.ifCond .lt 24, 3) := by decide +kernel
theorem dX5_needTree_4 : decode cX5_needTree 4 = .ok (.iload_n 1, 1) := by decide +kernel
theorem dX5_needTree_5 : decode cX5_needTree 5 = .ok (.bipush 12, 2) := by decide +kernel
theorem dX5_needTree_7 : decode cX5_needTree 7 = .ok (.if_icmp .ge 18, 3) := by decide +kernel
theorem dX5_needTree_10 : decode cX5_needTree 10 = .ok (.aload_n 0, 1) := by decide +kernel
theorem dX5_needTree_11 : decode cX5_needTree 11 = .ok (.getfield 44, 3) := by decide +kernel
theorem dX5_needTree_14 : decode cX5_needTree 14 = .ok (.getfield 109, 3) := by decide +kernel
theorem dX5_needTree_17 : decode cX5_needTree 17 = .ok (.iconst 0, 1) := by decide +kernel
theorem dX5_needTree_18 : decode cX5_needTree 18 = .ok (.iload_n 1, 1) := by decide +kernel
theorem dX5_needTree_19 : decode cX5_needTree 19 = .ok (.iadd, 1) := by decide +kernel
theorem dX5_needTree_20 : decode cX5_needTree 20 = .ok (.iaload, 1) := by decide +kernel
theorem dX5_needTree_21 : decode cX5_needTree 21 = .ok (.iconst (-1), 1) := by decide +kernel
theorem dX5_needTree_22 : decode cX5_needTree 22 = .ok (.if_icmp .ne 14, 3) := by decide +kernel
theorem dX5_needTree_25 : decode cX5_needTree 25 = .ok (.new 146, 3) := by decide +kernel
theorem dX5_needTree_28 : decode cX5_needTree 28 = .ok (.dup, 1) := by decide +kernel
theorem dX5_needTree_29 : decode cX5_needTree 29 = .ok (.ldc_w 362, 3) := by decide +kernel
theorem dX5_needTree_32 : decode cX5_needTree 32 = .ok (.invokespecial 150, 3) := by decide +kernel
theorem dX5_needTree_35 : decode cX5_needTree 35 = .ok (.athrow, 1) := by decide +kernel
theorem dX5_needTree_36 : decode cX5_needTree 36 = .ok (.return_, 1) := by decide +kernel
theorem dX5_needDirection_0 : decode cX5_needDirection 0 = .ok (.iload_n 0, 1) := by decide +kernel
theorem dX5_needDirection_1 : decode cX5_needDirection 1 = .ok (.ifCond .lt 9, 3) := by decide +kernel
theorem dX5_needDirection_4 : decode cX5_needDirection 4 = .ok (.iload_n 0, 1) := by decide +kernel
theorem dX5_needDirection_5 : decode cX5_needDirection 5 = .ok (.bipush 8, 2) := by decide +kernel
theorem dX5_needDirection_7 : decode cX5_needDirection 7 = .ok (.if_icmp .lt 14, 3) := by decide +kernel
theorem dX5_needDirection_10 : decode cX5_needDirection 10 = .ok (.new 146, 3) := by decide +kernel
theorem dX5_needDirection_13 : decode cX5_needDirection 13 = .ok (.dup, 1) := by decide +kernel
theorem dX5_needDirection_14 : decode cX5_needDirection 14 = .ok (.ldc_w 364, 3) := by decide +kernel
theorem dX5_needDirection_17 : decode cX5_needDirection 17 = .ok (.invokespecial 150, 3) := by decide +kernel
theorem dX5_needDirection_20 : decode cX5_needDirection 20 = .ok (.athrow, 1) := by decide +kernel
theorem dX5_needDirection_21 : decode cX5_needDirection 21 = .ok (.return_, 1) := by decide +kernel
theorem dX5_needWhat_0 : decode cX5_needWhat 0 = .ok (.iload_n 0, 1) := by decide +kernel
theorem dX5_needWhat_1 : decode cX5_needWhat 1 = .ok (.ifCond .lt 8, 3) := by decide +kernel
theorem dX5_needWhat_4 : decode cX5_needWhat 4 = .ok (.iload_n 0, 1) := by decide +kernel
theorem dX5_needWhat_5 : decode cX5_needWhat 5 = .ok (.iload_n 1, 1) := by decide +kernel
theorem dX5_needWhat_6 : decode cX5_needWhat 6 = .ok (.if_icmp .le 13, 3) := by decide +kernel
theorem dX5_needWhat_9 : decode cX5_needWhat 9 = .ok (.new 146, 3) := by decide +kernel
theorem dX5_needWhat_12 : decode cX5_needWhat 12 = .ok (.dup, 1) := by decide +kernel
theorem dX5_needWhat_13 : decode cX5_needWhat 13 = .ok (.ldc 148, 2) := by decide +kernel
theorem dX5_needWhat_15 : decode cX5_needWhat 15 = .ok (.invokespecial 150, 3) := by decide +kernel
theorem dX5_needWhat_18 : decode cX5_needWhat 18 = .ok (.athrow, 1) := by decide +kernel
theorem dX5_needWhat_19 : decode cX5_needWhat 19 = .ok (.return_, 1) := by decide +kernel
theorem dX5_isLawOrNone_0 : decode cX5_isLawOrNone 0 = .ok (.iload_n 1, 1) := by decide +kernel
theorem dX5_isLawOrNone_1 : decode cX5_isLawOrNone 1 = .ok (.iconst (-1), 1) := by decide +kernel
theorem dX5_isLawOrNone_2 : decode cX5_isLawOrNone 2 = .ok (.if_icmp .eq 18, 3) := by decide +kernel
theorem dX5_isLawOrNone_5 : decode cX5_isLawOrNone 5 = .ok (.iload_n 1, 1) := by decide +kernel
theorem dX5_isLawOrNone_6 : decode cX5_isLawOrNone 6 = .ok (.ifCond .lt 18, 3) := by decide +kernel
theorem dX5_isLawOrNone_9 : decode cX5_isLawOrNone 9 = .ok (.iload_n 1, 1) := by decide +kernel
theorem dX5_isLawOrNone_10 : decode cX5_isLawOrNone 10 = .ok (.aload_n 0, 1) := by decide +kernel
theorem dX5_isLawOrNone_11 : decode cX5_isLawOrNone 11 = .ok (.getfield 10, 3) := by decide +kernel
theorem dX5_isLawOrNone_14 : decode cX5_isLawOrNone 14 = .ok (.getfield 119, 3) := by decide +kernel
theorem dX5_isLawOrNone_17 : decode cX5_isLawOrNone 17 = .ok (.if_icmp .ge 7, 3) := by decide +kernel
theorem dX5_isLawOrNone_20 : decode cX5_isLawOrNone 20 = .ok (.iconst 1, 1) := by decide +kernel
theorem dX5_isLawOrNone_21 : decode cX5_isLawOrNone 21 = .ok (.goto 4, 3) := by decide +kernel
theorem dX5_isLawOrNone_24 : decode cX5_isLawOrNone 24 = .ok (.iconst 0, 1) := by decide +kernel
theorem dX5_isLawOrNone_25 : decode cX5_isLawOrNone 25 = .ok (.ireturn, 1) := by decide +kernel
theorem dX5_isTax_0 : decode cX5_isTax 0 = .ok (.iload_n 0, 1) := by decide +kernel
theorem dX5_isTax_1 : decode cX5_isTax 1 = .ok (.ifCond .lt 14, 3) := by decide +kernel
theorem dX5_isTax_4 : decode cX5_isTax 4 = .ok (.iload_n 0, 1) := by decide +kernel
theorem dX5_isTax_5 : decode cX5_isTax 5 = .ok (.sipush 999, 3) := by decide +kernel
theorem dX5_isTax_8 : decode cX5_isTax 8 = .ok (.if_icmp .gt 7, 3) := by decide +kernel
theorem dX5_isTax_11 : decode cX5_isTax 11 = .ok (.iconst 1, 1) := by decide +kernel
theorem dX5_isTax_12 : decode cX5_isTax 12 = .ok (.goto 4, 3) := by decide +kernel
theorem dX5_isTax_15 : decode cX5_isTax 15 = .ok (.iconst 0, 1) := by decide +kernel
theorem dX5_isTax_16 : decode cX5_isTax 16 = .ok (.ireturn, 1) := by decide +kernel
theorem dX5_houseBits_0 : decode cX5_houseBits 0 = .ok (.iconst 1, 1) := by decide +kernel
theorem dX5_houseBits_1 : decode cX5_houseBits 1 = .ok (.aload_n 0, 1) := by decide +kernel
theorem dX5_houseBits_2 : decode cX5_houseBits 2 = .ok (.getfield 10, 3) := by decide +kernel
theorem dX5_houseBits_5 : decode cX5_houseBits 5 = .ok (.getfield 116, 3) := by decide +kernel
theorem dX5_houseBits_8 : decode cX5_houseBits 8 = .ok (.ishl, 1) := by decide +kernel
theorem dX5_houseBits_9 : decode cX5_houseBits 9 = .ok (.iconst 1, 1) := by decide +kernel
theorem dX5_houseBits_10 : decode cX5_houseBits 10 = .ok (.isub, 1) := by decide +kernel
theorem dX5_houseBits_11 : decode cX5_houseBits 11 = .ok (.ireturn, 1) := by decide +kernel
theorem dX5_hasBit_0 : decode cX5_hasBit 0 = .ok (.lload_n 0, 1) := by decide +kernel
theorem dX5_hasBit_1 : decode cX5_hasBit 1 = .ok (.iload_n 2, 1) := by decide +kernel
theorem dX5_hasBit_2 : decode cX5_hasBit 2 = .ok (.lushr, 1) := by decide +kernel
theorem dX5_hasBit_3 : decode cX5_hasBit 3 = .ok (.lconst 1, 1) := by decide +kernel
theorem dX5_hasBit_4 : decode cX5_hasBit 4 = .ok (.land, 1) := by decide +kernel
theorem dX5_hasBit_5 : decode cX5_hasBit 5 = .ok (.lconst 0, 1) := by decide +kernel
theorem dX5_hasBit_6 : decode cX5_hasBit 6 = .ok (.lcmp, 1) := by decide +kernel
theorem dX5_hasBit_7 : decode cX5_hasBit 7 = .ok (.ifCond .eq 7, 3) := by decide +kernel
theorem dX5_hasBit_10 : decode cX5_hasBit 10 = .ok (.iconst 1, 1) := by decide +kernel
theorem dX5_hasBit_11 : decode cX5_hasBit 11 = .ok (.goto 4, 3) := by decide +kernel
theorem dX5_hasBit_14 : decode cX5_hasBit 14 = .ok (.iconst 0, 1) := by decide +kernel
theorem dX5_hasBit_15 : decode cX5_hasBit 15 = .ok (.ireturn, 1) := by decide +kernel
theorem dX5_treeIn_0 : decode cX5_treeIn 0 = .ok (.iconst 0, 1) := by decide +kernel
theorem dX5_treeIn_1 : decode cX5_treeIn 1 = .ok (.istore_n 2, 1) := by decide +kernel
theorem dX5_treeIn_2 : decode cX5_treeIn 2 = .ok (.iload_n 2, 1) := by decide +kernel
theorem dX5_treeIn_3 : decode cX5_treeIn 3 = .ok (.bipush 12, 2) := by decide +kernel
theorem dX5_treeIn_5 : decode cX5_treeIn 5 = .ok (.if_icmp .ge 20, 3) := by decide +kernel
theorem dX5_treeIn_8 : decode cX5_treeIn 8 = .ok (.aload_n 0, 1) := by decide +kernel
theorem dX5_treeIn_9 : decode cX5_treeIn 9 = .ok (.iconst 0, 1) := by decide +kernel
theorem dX5_treeIn_10 : decode cX5_treeIn 10 = .ok (.iload_n 2, 1) := by decide +kernel
theorem dX5_treeIn_11 : decode cX5_treeIn 11 = .ok (.iadd, 1) := by decide +kernel
theorem dX5_treeIn_12 : decode cX5_treeIn 12 = .ok (.iaload, 1) := by decide +kernel
theorem dX5_treeIn_13 : decode cX5_treeIn 13 = .ok (.iload_n 1, 1) := by decide +kernel
theorem dX5_treeIn_14 : decode cX5_treeIn 14 = .ok (.if_icmp .ne 5, 3) := by decide +kernel
theorem dX5_treeIn_17 : decode cX5_treeIn 17 = .ok (.iload_n 2, 1) := by decide +kernel
theorem dX5_treeIn_18 : decode cX5_treeIn 18 = .ok (.ireturn, 1) := by decide +kernel
theorem dX5_treeIn_19 : decode cX5_treeIn 19 = .ok (.iinc 2 1, 3) := by decide +kernel
theorem dX5_treeIn_22 : decode cX5_treeIn 22 = .ok (.goto (-20), 3) := by decide +kernel
theorem dX5_treeIn_25 : decode cX5_treeIn 25 = .ok (.iconst (-1), 1) := by decide +kernel
theorem dX5_treeIn_26 : decode cX5_treeIn 26 = .ok (.ireturn, 1) := by decide +kernel
theorem dX5_freeNumber_0 : decode cX5_freeNumber 0 = .ok (.aload_n 0, 1) := by decide +kernel
theorem dX5_freeNumber_1 : decode cX5_freeNumber 1 = .ok (.iconst (-1), 1) := by decide +kernel
theorem dX5_freeNumber_2 : decode cX5_freeNumber 2 = .ok (.invokestatic 160, 3) := by decide +kernel
theorem dX5_freeNumber_5 : decode cX5_freeNumber 5 = .ok (.ireturn, 1) := by decide +kernel
theorem dX5_treesStanding_0 : decode cX5_treesStanding 0 = .ok (.iconst 0, 1) := by decide +kernel
theorem dX5_treesStanding_1 : decode cX5_treesStanding 1 = .ok (.istore_n 1, 1) := by decide +kernel
theorem dX5_treesStanding_2 : decode cX5_treesStanding 2 = .ok (.iconst 0, 1) := by decide +kernel
theorem dX5_treesStanding_3 : decode cX5_treesStanding 3 = .ok (.istore_n 2, 1) := by decide +kernel
theorem dX5_treesStanding_4 : decode cX5_treesStanding 4 = .ok (.iload_n 2, 1) := by decide +kernel
