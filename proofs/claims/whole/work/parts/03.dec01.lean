theorem dX3_show_14 : decode cX3_show 14 = .ok (.invokestatic 31, 3) := by decide +kernel
theorem dX3_show_17 : decode cX3_show 17 = .ok (.aload_n 1, 1) := by decide +kernel
theorem dX3_show_18 : decode cX3_show 18 = .ok (.getfield 37, 3) := by decide +kernel
theorem dX3_show_21 : decode cX3_show 21 = .ok (.iconst 0, 1) := by decide +kernel
theorem dX3_show_22 : decode cX3_show 22 = .ok (.aload_n 0, 1) := by decide +kernel
theorem dX3_show_23 : decode cX3_show 23 = .ok (.getfield 15, 3) := by decide +kernel
theorem dX3_show_26 : decode cX3_show 26 = .ok (.iconst 0, 1) := by decide +kernel
theorem dX3_show_27 : decode cX3_show 27 = .ok (.bipush 64, 2) := by decide +kernel
theorem dX3_show_29 : decode cX3_show 29 = .ok (.invokestatic 31, 3) := by decide +kernel
theorem dX3_show_32 : decode cX3_show 32 = .ok (.aload_n 1, 1) := by decide +kernel
theorem dX3_show_33 : decode cX3_show 33 = .ok (.getfield 37, 3) := by decide +kernel
theorem dX3_show_36 : decode cX3_show 36 = .ok (.iconst 0, 1) := by decide +kernel
theorem dX3_show_37 : decode cX3_show 37 = .ok (.aload_n 0, 1) := by decide +kernel
theorem dX3_show_38 : decode cX3_show 38 = .ok (.getfield 18, 3) := by decide +kernel
theorem dX3_show_41 : decode cX3_show 41 = .ok (.iconst 0, 1) := by decide +kernel
theorem dX3_show_42 : decode cX3_show 42 = .ok (.bipush 64, 2) := by decide +kernel
theorem dX3_show_44 : decode cX3_show 44 = .ok (.invokestatic 31, 3) := by decide +kernel
theorem dX3_show_47 : decode cX3_show 47 = .ok (.iconst 0, 1) := by decide +kernel
theorem dX3_show_48 : decode cX3_show 48 = .ok (.istore_n 3, 1) := by decide +kernel
theorem dX3_show_49 : decode cX3_show 49 = .ok (.iload_n 3, 1) := by decide +kernel
theorem dX3_show_50 : decode cX3_show 50 = .ok (.bipush 12, 2) := by decide +kernel
theorem dX3_show_52 : decode cX3_show 52 = .ok (.if_icmp .ge 30, 3) := by decide +kernel
theorem dX3_show_55 : decode cX3_show 55 = .ok (.aload_n 0, 1) := by decide +kernel
theorem dX3_show_56 : decode cX3_show 56 = .ok (.aload_n 0, 1) := by decide +kernel
theorem dX3_show_57 : decode cX3_show 57 = .ok (.getfield 9, 3) := by decide +kernel
theorem dX3_show_60 : decode cX3_show 60 = .ok (.iconst 0, 1) := by decide +kernel
theorem dX3_show_61 : decode cX3_show 61 = .ok (.iload_n 3, 1) := by decide +kernel
theorem dX3_show_62 : decode cX3_show 62 = .ok (.iadd, 1) := by decide +kernel
theorem dX3_show_63 : decode cX3_show 63 = .ok (.iaload, 1) := by decide +kernel
theorem dX3_show_64 : decode cX3_show 64 = .ok (.aload_n 0, 1) := by decide +kernel
theorem dX3_show_65 : decode cX3_show 65 = .ok (.getfield 9, 3) := by decide +kernel
theorem dX3_show_68 : decode cX3_show 68 = .ok (.bipush 12, 2) := by decide +kernel
theorem dX3_show_70 : decode cX3_show 70 = .ok (.iload_n 3, 1) := by decide +kernel
theorem dX3_show_71 : decode cX3_show 71 = .ok (.iadd, 1) := by decide +kernel
theorem dX3_show_72 : decode cX3_show 72 = .ok (.iaload, 1) := by decide +kernel
theorem dX3_show_73 : decode cX3_show 73 = .ok (.invokevirtual 40, 3) := by decide +kernel
theorem dX3_show_76 : decode cX3_show 76 = .ok (.iinc 3 1, 3) := by decide +kernel
theorem dX3_show_79 : decode cX3_show 79 = .ok (.goto (-30), 3) := by decide +kernel
theorem dX3_show_82 : decode cX3_show 82 = .ok (.iconst 0, 1) := by decide +kernel
theorem dX3_show_83 : decode cX3_show 83 = .ok (.istore_n 3, 1) := by decide +kernel
theorem dX3_show_84 : decode cX3_show 84 = .ok (.iload_n 3, 1) := by decide +kernel
theorem dX3_show_85 : decode cX3_show 85 = .ok (.aload_n 0, 1) := by decide +kernel
theorem dX3_show_86 : decode cX3_show 86 = .ok (.getfield 27, 3) := by decide +kernel
theorem dX3_show_89 : decode cX3_show 89 = .ok (.getfield 44, 3) := by decide +kernel
theorem dX3_show_92 : decode cX3_show 92 = .ok (.if_icmp .ge 33, 3) := by decide +kernel
theorem dX3_show_95 : decode cX3_show 95 = .ok (.aload_n 0, 1) := by decide +kernel
theorem dX3_show_96 : decode cX3_show 96 = .ok (.aload_n 0, 1) := by decide +kernel
theorem dX3_show_97 : decode cX3_show 97 = .ok (.getfield 27, 3) := by decide +kernel
theorem dX3_show_100 : decode cX3_show 100 = .ok (.getfield 48, 3) := by decide +kernel
theorem dX3_show_103 : decode cX3_show 103 = .ok (.iload_n 3, 1) := by decide +kernel
theorem dX3_show_104 : decode cX3_show 104 = .ok (.iaload, 1) := by decide +kernel
theorem dX3_show_105 : decode cX3_show 105 = .ok (.iconst 2, 1) := by decide +kernel
theorem dX3_show_106 : decode cX3_show 106 = .ok (.aload_n 0, 1) := by decide +kernel
theorem dX3_show_107 : decode cX3_show 107 = .ok (.getfield 9, 3) := by decide +kernel
theorem dX3_show_110 : decode cX3_show 110 = .ok (.bipush 48, 2) := by decide +kernel
theorem dX3_show_112 : decode cX3_show 112 = .ok (.iload_n 3, 1) := by decide +kernel
theorem dX3_show_113 : decode cX3_show 113 = .ok (.iadd, 1) := by decide +kernel
theorem dX3_show_114 : decode cX3_show 114 = .ok (.iaload, 1) := by decide +kernel
theorem dX3_show_115 : decode cX3_show 115 = .ok (.iadd, 1) := by decide +kernel
theorem dX3_show_116 : decode cX3_show 116 = .ok (.invokevirtual 40, 3) := by decide +kernel
theorem dX3_show_119 : decode cX3_show 119 = .ok (.iinc 3 1, 3) := by decide +kernel
theorem dX3_show_122 : decode cX3_show 122 = .ok (.goto (-38), 3) := by decide +kernel
theorem dX3_show_125 : decode cX3_show 125 = .ok (.aload_n 0, 1) := by decide +kernel
theorem dX3_show_126 : decode cX3_show 126 = .ok (.aload_n 0, 1) := by decide +kernel
theorem dX3_show_127 : decode cX3_show 127 = .ok (.getfield 27, 3) := by decide +kernel
theorem dX3_show_130 : decode cX3_show 130 = .ok (.aload_n 0, 1) := by decide +kernel
theorem dX3_show_131 : decode cX3_show 131 = .ok (.getfield 9, 3) := by decide +kernel
theorem dX3_show_134 : decode cX3_show 134 = .ok (.bipush 61, 2) := by decide +kernel
theorem dX3_show_136 : decode cX3_show 136 = .ok (.iaload, 1) := by decide +kernel
theorem dX3_show_137 : decode cX3_show 137 = .ok (.invokevirtual 51, 3) := by decide +kernel
theorem dX3_show_140 : decode cX3_show 140 = .ok (.putfield 55, 3) := by decide +kernel
theorem dX3_show_143 : decode cX3_show 143 = .ok (.return_, 1) := by decide +kernel
theorem dX3_raise_0 : decode cX3_raise 0 = .ok (.iload_n 1, 1) := by decide +kernel
theorem dX3_raise_1 : decode cX3_raise 1 = .ok (.ifCond .lt 22, 3) := by decide +kernel
theorem dX3_raise_4 : decode cX3_raise 4 = .ok (.iload_n 1, 1) := by decide +kernel
theorem dX3_raise_5 : decode cX3_raise 5 = .ok (.aload_n 0, 1) := by decide +kernel
theorem dX3_raise_6 : decode cX3_raise 6 = .ok (.getfield 18, 3) := by decide +kernel
theorem dX3_raise_9 : decode cX3_raise 9 = .ok (.arraylength, 1) := by decide +kernel
theorem dX3_raise_10 : decode cX3_raise 10 = .ok (.if_icmp .ge 13, 3) := by decide +kernel
theorem dX3_raise_13 : decode cX3_raise 13 = .ok (.aload_n 0, 1) := by decide +kernel
theorem dX3_raise_14 : decode cX3_raise 14 = .ok (.getfield 18, 3) := by decide +kernel
theorem dX3_raise_17 : decode cX3_raise 17 = .ok (.iload_n 1, 1) := by decide +kernel
theorem dX3_raise_18 : decode cX3_raise 18 = .ok (.dup2, 1) := by decide +kernel
theorem dX3_raise_19 : decode cX3_raise 19 = .ok (.iaload, 1) := by decide +kernel
theorem dX3_raise_20 : decode cX3_raise 20 = .ok (.iload_n 2, 1) := by decide +kernel
theorem dX3_raise_21 : decode cX3_raise 21 = .ok (.iadd, 1) := by decide +kernel
theorem dX3_raise_22 : decode cX3_raise 22 = .ok (.iastore, 1) := by decide +kernel
theorem dX3_raise_23 : decode cX3_raise 23 = .ok (.return_, 1) := by decide +kernel
theorem dX3_reshape_0 : decode cX3_reshape 0 = .ok (.aload_n 0, 1) := by decide +kernel
theorem dX3_reshape_1 : decode cX3_reshape 1 = .ok (.iload_n 1, 1) := by decide +kernel
theorem dX3_reshape_2 : decode cX3_reshape 2 = .ok (.iload_n 2, 1) := by decide +kernel
theorem dX3_reshape_3 : decode cX3_reshape 3 = .ok (.aload_n 0, 1) := by decide +kernel
theorem dX3_reshape_4 : decode cX3_reshape 4 = .ok (.getfield 15, 3) := by decide +kernel
theorem dX3_reshape_7 : decode cX3_reshape 7 = .ok (.iload_n 1, 1) := by decide +kernel
theorem dX3_reshape_8 : decode cX3_reshape 8 = .ok (.iaload, 1) := by decide +kernel
theorem dX3_reshape_9 : decode cX3_reshape 9 = .ok (.isub, 1) := by decide +kernel
theorem dX3_reshape_10 : decode cX3_reshape 10 = .ok (.invokevirtual 40, 3) := by decide +kernel
theorem dX3_reshape_13 : decode cX3_reshape 13 = .ok (.aload_n 0, 1) := by decide +kernel
theorem dX3_reshape_14 : decode cX3_reshape 14 = .ok (.getfield 15, 3) := by decide +kernel
theorem dX3_reshape_17 : decode cX3_reshape 17 = .ok (.iload_n 1, 1) := by decide +kernel
theorem dX3_reshape_18 : decode cX3_reshape 18 = .ok (.iload_n 2, 1) := by decide +kernel
theorem dX3_reshape_19 : decode cX3_reshape 19 = .ok (.iastore, 1) := by decide +kernel
theorem dX3_reshape_20 : decode cX3_reshape 20 = .ok (.return_, 1) := by decide +kernel
theorem dX3_dropTree_0 : decode cX3_dropTree 0 = .ok (.aload_n 0, 1) := by decide +kernel
theorem dX3_dropTree_1 : decode cX3_dropTree 1 = .ok (.aload_n 0, 1) := by decide +kernel
theorem dX3_dropTree_2 : decode cX3_dropTree 2 = .ok (.getfield 9, 3) := by decide +kernel
theorem dX3_dropTree_5 : decode cX3_dropTree 5 = .ok (.iconst 0, 1) := by decide +kernel
theorem dX3_dropTree_6 : decode cX3_dropTree 6 = .ok (.iload_n 1, 1) := by decide +kernel
theorem dX3_dropTree_7 : decode cX3_dropTree 7 = .ok (.iadd, 1) := by decide +kernel
theorem dX3_dropTree_8 : decode cX3_dropTree 8 = .ok (.iaload, 1) := by decide +kernel
theorem dX3_dropTree_9 : decode cX3_dropTree 9 = .ok (.aload_n 0, 1) := by decide +kernel
theorem dX3_dropTree_10 : decode cX3_dropTree 10 = .ok (.getfield 9, 3) := by decide +kernel
theorem dX3_dropTree_13 : decode cX3_dropTree 13 = .ok (.bipush 12, 2) := by decide +kernel
theorem dX3_dropTree_15 : decode cX3_dropTree 15 = .ok (.iload_n 1, 1) := by decide +kernel
theorem dX3_dropTree_16 : decode cX3_dropTree 16 = .ok (.iadd, 1) := by decide +kernel
theorem dX3_dropTree_17 : decode cX3_dropTree 17 = .ok (.iaload, 1) := by decide +kernel
theorem dX3_dropTree_18 : decode cX3_dropTree 18 = .ok (.ineg, 1) := by decide +kernel
theorem dX3_dropTree_19 : decode cX3_dropTree 19 = .ok (.invokevirtual 40, 3) := by decide +kernel
theorem dX3_dropTree_22 : decode cX3_dropTree 22 = .ok (.aload_n 0, 1) := by decide +kernel
theorem dX3_dropTree_23 : decode cX3_dropTree 23 = .ok (.getfield 9, 3) := by decide +kernel
theorem dX3_dropTree_26 : decode cX3_dropTree 26 = .ok (.iconst 0, 1) := by decide +kernel
theorem dX3_dropTree_27 : decode cX3_dropTree 27 = .ok (.iload_n 1, 1) := by decide +kernel
theorem dX3_dropTree_28 : decode cX3_dropTree 28 = .ok (.iadd, 1) := by decide +kernel
theorem dX3_dropTree_29 : decode cX3_dropTree 29 = .ok (.iconst (-1), 1) := by decide +kernel
theorem dX3_dropTree_30 : decode cX3_dropTree 30 = .ok (.iastore, 1) := by decide +kernel
theorem dX3_dropTree_31 : decode cX3_dropTree 31 = .ok (.return_, 1) := by decide +kernel
theorem dX3_freeCells_0 : decode cX3_freeCells 0 = .ok (.lconst 0, 1) := by decide +kernel
theorem dX3_freeCells_1 : decode cX3_freeCells 1 = .ok (.lstore_n 1, 1) := by decide +kernel
theorem dX3_freeCells_2 : decode cX3_freeCells 2 = .ok (.iconst 0, 1) := by decide +kernel
theorem dX3_freeCells_3 : decode cX3_freeCells 3 = .ok (.istore_n 3, 1) := by decide +kernel
theorem dX3_freeCells_4 : decode cX3_freeCells 4 = .ok (.iload_n 3, 1) := by decide +kernel
theorem dX3_freeCells_5 : decode cX3_freeCells 5 = .ok (.aload_n 0, 1) := by decide +kernel
theorem dX3_freeCells_6 : decode cX3_freeCells 6 = .ok (.getfield 27, 3) := by decide +kernel
theorem dX3_freeCells_9 : decode cX3_freeCells 9 = .ok (.invokevirtual 58, 3) := by decide +kernel
theorem dX3_freeCells_12 : decode cX3_freeCells 12 = .ok (.if_icmp .ge 39, 3) := by decide +kernel
theorem dX3_freeCells_15 : decode cX3_freeCells 15 = .ok (.aload_n 0, 1) := by decide +kernel
theorem dX3_freeCells_16 : decode cX3_freeCells 16 = .ok (.getfield 9, 3) := by decide +kernel
theorem dX3_freeCells_19 : decode cX3_freeCells 19 = .ok (.iload_n 3, 1) := by decide +kernel
theorem dX3_freeCells_20 : decode cX3_freeCells 20 = .ok (.invokestatic 62, 3) := by decide +kernel
theorem dX3_freeCells_23 : decode cX3_freeCells 23 = .ok (.iconst (-1), 1) := by decide +kernel
theorem dX3_freeCells_24 : decode cX3_freeCells 24 = .ok (.if_icmp .ne 21, 3) := by decide +kernel
theorem dX3_freeCells_27 : decode cX3_freeCells 27 = .ok (.aload_n 0, 1) := by decide +kernel
theorem dX3_freeCells_28 : decode cX3_freeCells 28 = .ok (.getfield 27, 3) := by decide +kernel
theorem dX3_freeCells_31 : decode cX3_freeCells 31 = .ok (.iload_n 3, 1) := by decide +kernel
theorem dX3_freeCells_32 : decode cX3_freeCells 32 = .ok (.invokevirtual 66, 3) := by decide +kernel
theorem dX3_freeCells_35 : decode cX3_freeCells 35 = .ok (.iconst (-1), 1) := by decide +kernel
theorem dX3_freeCells_36 : decode cX3_freeCells 36 = .ok (.if_icmp .ne 9, 3) := by decide +kernel
theorem dX3_freeCells_39 : decode cX3_freeCells 39 = .ok (.lload_n 1, 1) := by decide +kernel
theorem dX3_freeCells_40 : decode cX3_freeCells 40 = .ok (.lconst 1, 1) := by decide +kernel
theorem dX3_freeCells_41 : decode cX3_freeCells 41 = .ok (.iload_n 3, 1) := by decide +kernel
theorem dX3_freeCells_42 : decode cX3_freeCells 42 = .ok (.lshl, 1) := by decide +kernel
theorem dX3_freeCells_43 : decode cX3_freeCells 43 = .ok (.lor, 1) := by decide +kernel
theorem dX3_freeCells_44 : decode cX3_freeCells 44 = .ok (.lstore_n 1, 1) := by decide +kernel
theorem dX3_freeCells_45 : decode cX3_freeCells 45 = .ok (.iinc 3 1, 3) := by decide +kernel
theorem dX3_freeCells_48 : decode cX3_freeCells 48 = .ok (.goto (-44), 3) := by decide +kernel
theorem dX3_freeCells_51 : decode cX3_freeCells 51 = .ok (.lload_n 1, 1) := by decide +kernel
theorem dX3_freeCells_52 : decode cX3_freeCells 52 = .ok (.lreturn, 1) := by decide +kernel
theorem dX3_lookFrom_0 : decode cX3_lookFrom 0 = .ok (.aload_n 0, 1) := by decide +kernel
theorem dX3_lookFrom_1 : decode cX3_lookFrom 1 = .ok (.aload_n 0, 1) := by decide +kernel
theorem dX3_lookFrom_2 : decode cX3_lookFrom 2 = .ok (.getfield 27, 3) := by decide +kernel
theorem dX3_lookFrom_5 : decode cX3_lookFrom 5 = .ok (.getfield 48, 3) := by decide +kernel
theorem dX3_lookFrom_8 : decode cX3_lookFrom 8 = .ok (.iload_n 1, 1) := by decide +kernel
theorem dX3_lookFrom_9 : decode cX3_lookFrom 9 = .ok (.iaload, 1) := by decide +kernel
theorem dX3_lookFrom_10 : decode cX3_lookFrom 10 = .ok (.aload_n 0, 1) := by decide +kernel
theorem dX3_lookFrom_11 : decode cX3_lookFrom 11 = .ok (.getfield 27, 3) := by decide +kernel
theorem dX3_lookFrom_14 : decode cX3_lookFrom 14 = .ok (.getfield 69, 3) := by decide +kernel
theorem dX3_lookFrom_17 : decode cX3_lookFrom 17 = .ok (.iload_n 1, 1) := by decide +kernel
theorem dX3_lookFrom_18 : decode cX3_lookFrom 18 = .ok (.iaload, 1) := by decide +kernel
theorem dX3_lookFrom_19 : decode cX3_lookFrom 19 = .ok (.aload_n 0, 1) := by decide +kernel
theorem dX3_lookFrom_20 : decode cX3_lookFrom 20 = .ok (.getfield 9, 3) := by decide +kernel
theorem dX3_lookFrom_23 : decode cX3_lookFrom 23 = .ok (.bipush 42, 2) := by decide +kernel
theorem dX3_lookFrom_25 : decode cX3_lookFrom 25 = .ok (.iload_n 1, 1) := by decide +kernel
theorem dX3_lookFrom_26 : decode cX3_lookFrom 26 = .ok (.iadd, 1) := by decide +kernel
theorem dX3_lookFrom_27 : decode cX3_lookFrom 27 = .ok (.iaload, 1) := by decide +kernel
theorem dX3_lookFrom_28 : decode cX3_lookFrom 28 = .ok (.aload_n 0, 1) := by decide +kernel
theorem dX3_lookFrom_29 : decode cX3_lookFrom 29 = .ok (.getfield 9, 3) := by decide +kernel
theorem dX3_lookFrom_32 : decode cX3_lookFrom 32 = .ok (.bipush 54, 2) := by decide +kernel
theorem dX3_lookFrom_34 : decode cX3_lookFrom 34 = .ok (.iload_n 1, 1) := by decide +kernel
theorem dX3_lookFrom_35 : decode cX3_lookFrom 35 = .ok (.iadd, 1) := by decide +kernel
theorem dX3_lookFrom_36 : decode cX3_lookFrom 36 = .ok (.iaload, 1) := by decide +kernel
theorem dX3_lookFrom_37 : decode cX3_lookFrom 37 = .ok (.invokevirtual 72, 3) := by decide +kernel
theorem dX3_lookFrom_40 : decode cX3_lookFrom 40 = .ok (.return_, 1) := by decide +kernel
theorem dX3_look_0 : decode cX3_look 0 = .ok (.aload_n 0, 1) := by decide +kernel
theorem dX3_look_1 : decode cX3_look 1 = .ok (.iload_n 1, 1) := by decide +kernel
theorem dX3_look_2 : decode cX3_look 2 = .ok (.putfield 76, 3) := by decide +kernel
theorem dX3_look_5 : decode cX3_look 5 = .ok (.aload_n 0, 1) := by decide +kernel
theorem dX3_look_6 : decode cX3_look 6 = .ok (.iload_n 2, 1) := by decide +kernel
theorem dX3_look_7 : decode cX3_look 7 = .ok (.putfield 79, 3) := by decide +kernel
theorem dX3_look_10 : decode cX3_look 10 = .ok (.aload_n 0, 1) := by decide +kernel
theorem dX3_look_11 : decode cX3_look 11 = .ok (.iload_n 3, 1) := by decide +kernel
theorem dX3_look_12 : decode cX3_look 12 = .ok (.putfield 82, 3) := by decide +kernel
theorem dX3_look_15 : decode cX3_look 15 = .ok (.aload_n 0, 1) := by decide +kernel
theorem dX3_look_16 : decode cX3_look 16 = .ok (.iconst 0, 1) := by decide +kernel
theorem dX3_look_17 : decode cX3_look 17 = .ok (.putfield 85, 3) := by decide +kernel
theorem dX3_look_20 : decode cX3_look 20 = .ok (.aload_n 0, 1) := by decide +kernel
theorem dX3_look_21 : decode cX3_look 21 = .ok (.iconst 0, 1) := by decide +kernel
theorem dX3_look_22 : decode cX3_look 22 = .ok (.putfield 88, 3) := by decide +kernel
theorem dX3_look_25 : decode cX3_look 25 = .ok (.aload_n 0, 1) := by decide +kernel
theorem dX3_look_26 : decode cX3_look 26 = .ok (.lconst 0, 1) := by decide +kernel
theorem dX3_look_27 : decode cX3_look 27 = .ok (.putfield 91, 3) := by decide +kernel
theorem dX3_look_30 : decode cX3_look 30 = .ok (.aload_n 0, 1) := by decide +kernel
theorem dX3_look_31 : decode cX3_look 31 = .ok (.lconst 0, 1) := by decide +kernel
theorem dX3_look_32 : decode cX3_look 32 = .ok (.putfield 95, 3) := by decide +kernel
theorem dX3_look_35 : decode cX3_look 35 = .ok (.iconst 0, 1) := by decide +kernel
theorem dX3_look_36 : decode cX3_look 36 = .ok (.istore 5, 2) := by decide +kernel
theorem dX3_look_38 : decode cX3_look 38 = .ok (.iload 5, 2) := by decide +kernel
theorem dX3_look_40 : decode cX3_look 40 = .ok (.bipush 8, 2) := by decide +kernel
theorem dX3_look_42 : decode cX3_look 42 = .ok (.if_icmp .ge 82, 3) := by decide +kernel
theorem dX3_look_45 : decode cX3_look 45 = .ok (.iload_n 2, 1) := by decide +kernel
theorem dX3_look_46 : decode cX3_look 46 = .ok (.iconst 2, 1) := by decide +kernel
theorem dX3_look_47 : decode cX3_look 47 = .ok (.if_icmp .eq 14, 3) := by decide +kernel
theorem dX3_look_50 : decode cX3_look 50 = .ok (.iload 4, 2) := by decide +kernel
theorem dX3_look_52 : decode cX3_look 52 = .ok (.i2l, 1) := by decide +kernel
theorem dX3_look_53 : decode cX3_look 53 = .ok (.iload 5, 2) := by decide +kernel
theorem dX3_look_55 : decode cX3_look 55 = .ok (.invokestatic 98, 3) := by decide +kernel
theorem dX3_look_58 : decode cX3_look 58 = .ok (.ifCond .eq 7, 3) := by decide +kernel
theorem dX3_look_61 : decode cX3_look 61 = .ok (.iconst 1, 1) := by decide +kernel
theorem dX3_look_62 : decode cX3_look 62 = .ok (.goto 4, 3) := by decide +kernel
theorem dX3_look_65 : decode cX3_look 65 = .ok (.iconst 0, 1) := by decide +kernel
theorem dX3_look_66 : decode cX3_look 66 = .ok (.istore 6, 2) := by decide +kernel
theorem dX3_look_68 : decode cX3_look 68 = .ok (.iload 6, 2) := by decide +kernel
theorem dX3_look_70 : decode cX3_look 70 = .ok (.ifCond .eq 7, 3) := by decide +kernel
theorem dX3_look_73 : decode cX3_look 73 = .ok (.iconst 0, 1) := by decide +kernel
theorem dX3_look_74 : decode cX3_look 74 = .ok (.goto 9, 3) := by decide +kernel
theorem dX3_look_77 : decode cX3_look 77 = .ok (.aload_n 0, 1) := by decide +kernel
theorem dX3_look_78 : decode cX3_look 78 = .ok (.iload 5, 2) := by decide +kernel
theorem dX3_look_80 : decode cX3_look 80 = .ok (.invokevirtual 102, 3) := by decide +kernel
theorem dX3_look_83 : decode cX3_look 83 = .ok (.istore 7, 2) := by decide +kernel
theorem dX3_look_85 : decode cX3_look 85 = .ok (.aload_n 0, 1) := by decide +kernel
theorem dX3_look_86 : decode cX3_look 86 = .ok (.getfield 21, 3) := by decide +kernel
theorem dX3_look_89 : decode cX3_look 89 = .ok (.iload 5, 2) := by decide +kernel
theorem dX3_look_91 : decode cX3_look 91 = .ok (.iload 7, 2) := by decide +kernel
theorem dX3_look_93 : decode cX3_look 93 = .ok (.iastore, 1) := by decide +kernel
theorem dX3_look_94 : decode cX3_look 94 = .ok (.aload_n 0, 1) := by decide +kernel
theorem dX3_look_95 : decode cX3_look 95 = .ok (.dup, 1) := by decide +kernel
theorem dX3_look_96 : decode cX3_look 96 = .ok (.getfield 85, 3) := by decide +kernel
theorem dX3_look_99 : decode cX3_look 99 = .ok (.iload 7, 2) := by decide +kernel
theorem dX3_look_101 : decode cX3_look 101 = .ok (.iadd, 1) := by decide +kernel
theorem dX3_look_102 : decode cX3_look 102 = .ok (.putfield 85, 3) := by decide +kernel
theorem dX3_look_105 : decode cX3_look 105 = .ok (.aload_n 0, 1) := by decide +kernel
theorem dX3_look_106 : decode cX3_look 106 = .ok (.aload_n 0, 1) := by decide +kernel
theorem dX3_look_107 : decode cX3_look 107 = .ok (.getfield 88, 3) := by decide +kernel
theorem dX3_look_110 : decode cX3_look 110 = .ok (.iload 7, 2) := by decide +kernel
theorem dX3_look_112 : decode cX3_look 112 = .ok (.invokestatic 105, 3) := by decide +kernel
theorem dX3_look_115 : decode cX3_look 115 = .ok (.putfield 88, 3) := by decide +kernel
theorem dX3_look_118 : decode cX3_look 118 = .ok (.iinc 5 1, 3) := by decide +kernel
theorem dX3_look_121 : decode cX3_look 121 = .ok (.goto (-83), 3) := by decide +kernel
theorem dX3_look_124 : decode cX3_look 124 = .ok (.return_, 1) := by decide +kernel
theorem dX3_lookAlong_0 : decode cX3_lookAlong 0 = .ok (.aload_n 0, 1) := by decide +kernel
theorem dX3_lookAlong_1 : decode cX3_lookAlong 1 = .ok (.getfield 27, 3) := by decide +kernel
theorem dX3_lookAlong_4 : decode cX3_lookAlong 4 = .ok (.getfield 111, 3) := by decide +kernel
theorem dX3_lookAlong_7 : decode cX3_lookAlong 7 = .ok (.istore_n 2, 1) := by decide +kernel
theorem dX3_lookAlong_8 : decode cX3_lookAlong 8 = .ok (.iload_n 2, 1) := by decide +kernel
theorem dX3_lookAlong_9 : decode cX3_lookAlong 9 = .ok (.ifCond .le 12, 3) := by decide +kernel
theorem dX3_lookAlong_12 : decode cX3_lookAlong 12 = .ok (.aload_n 0, 1) := by decide +kernel
theorem dX3_lookAlong_13 : decode cX3_lookAlong 13 = .ok (.getfield 76, 3) := by decide +kernel
theorem dX3_lookAlong_16 : decode cX3_lookAlong 16 = .ok (.iload_n 2, 1) := by decide +kernel
theorem dX3_lookAlong_17 : decode cX3_lookAlong 17 = .ok (.irem, 1) := by decide +kernel
theorem dX3_lookAlong_18 : decode cX3_lookAlong 18 = .ok (.goto 4, 3) := by decide +kernel
theorem dX3_lookAlong_21 : decode cX3_lookAlong 21 = .ok (.iconst 0, 1) := by decide +kernel
theorem dX3_lookAlong_22 : decode cX3_lookAlong 22 = .ok (.istore_n 3, 1) := by decide +kernel
theorem dX3_lookAlong_23 : decode cX3_lookAlong 23 = .ok (.iload_n 2, 1) := by decide +kernel
theorem dX3_lookAlong_24 : decode cX3_lookAlong 24 = .ok (.ifCond .le 12, 3) := by decide +kernel
theorem dX3_lookAlong_27 : decode cX3_lookAlong 27 = .ok (.aload_n 0, 1) := by decide +kernel
theorem dX3_lookAlong_28 : decode cX3_lookAlong 28 = .ok (.getfield 76, 3) := by decide +kernel
theorem dX3_lookAlong_31 : decode cX3_lookAlong 31 = .ok (.iload_n 2, 1) := by decide +kernel
theorem dX3_lookAlong_32 : decode cX3_lookAlong 32 = .ok (.idiv, 1) := by decide +kernel
theorem dX3_lookAlong_33 : decode cX3_lookAlong 33 = .ok (.goto 4, 3) := by decide +kernel
theorem dX3_lookAlong_36 : decode cX3_lookAlong 36 = .ok (.iconst 0, 1) := by decide +kernel
theorem dX3_lookAlong_37 : decode cX3_lookAlong 37 = .ok (.istore 4, 2) := by decide +kernel
theorem dX3_lookAlong_39 : decode cX3_lookAlong 39 = .ok (.aload_n 0, 1) := by decide +kernel
theorem dX3_lookAlong_40 : decode cX3_lookAlong 40 = .ok (.getfield 15, 3) := by decide +kernel
theorem dX3_lookAlong_43 : decode cX3_lookAlong 43 = .ok (.aload_n 0, 1) := by decide +kernel
theorem dX3_lookAlong_44 : decode cX3_lookAlong 44 = .ok (.getfield 76, 3) := by decide +kernel
theorem dX3_lookAlong_47 : decode cX3_lookAlong 47 = .ok (.iaload, 1) := by decide +kernel
theorem dX3_lookAlong_48 : decode cX3_lookAlong 48 = .ok (.iconst 2, 1) := by decide +kernel
theorem dX3_lookAlong_49 : decode cX3_lookAlong 49 = .ok (.iadd, 1) := by decide +kernel
theorem dX3_lookAlong_50 : decode cX3_lookAlong 50 = .ok (.aload_n 0, 1) := by decide +kernel
theorem dX3_lookAlong_51 : decode cX3_lookAlong 51 = .ok (.getfield 82, 3) := by decide +kernel
theorem dX3_lookAlong_54 : decode cX3_lookAlong 54 = .ok (.iadd, 1) := by decide +kernel
theorem dX3_lookAlong_55 : decode cX3_lookAlong 55 = .ok (.istore 5, 2) := by decide +kernel
theorem dX3_lookAlong_57 : decode cX3_lookAlong 57 = .ok (.iconst 0, 1) := by decide +kernel
theorem dX3_lookAlong_58 : decode cX3_lookAlong 58 = .ok (.istore 6, 2) := by decide +kernel
theorem dX3_lookAlong_60 : decode cX3_lookAlong 60 = .ok (.iconst 0, 1) := by decide +kernel
theorem dX3_lookAlong_61 : decode cX3_lookAlong 61 = .ok (.istore 7, 2) := by decide +kernel
theorem dX3_lookAlong_63 : decode cX3_lookAlong 63 = .ok (.iconst 1, 1) := by decide +kernel
theorem dX3_lookAlong_64 : decode cX3_lookAlong 64 = .ok (.istore 8, 2) := by decide +kernel
theorem dX3_lookAlong_66 : decode cX3_lookAlong 66 = .ok (.iload 8, 2) := by decide +kernel
theorem dX3_lookAlong_68 : decode cX3_lookAlong 68 = .ok (.aload_n 0, 1) := by decide +kernel
theorem dX3_lookAlong_69 : decode cX3_lookAlong 69 = .ok (.getfield 55, 3) := by decide +kernel
theorem dX3_lookAlong_72 : decode cX3_lookAlong 72 = .ok (.if_icmp .gt 128, 3) := by decide +kernel
theorem dX3_lookAlong_75 : decode cX3_lookAlong 75 = .ok (.iload_n 3, 1) := by decide +kernel
theorem dX3_lookAlong_76 : decode cX3_lookAlong 76 = .ok (.getstatic 114, 3) := by decide +kernel
theorem dX3_lookAlong_79 : decode cX3_lookAlong 79 = .ok (.iload_n 1, 1) := by decide +kernel
theorem dX3_lookAlong_80 : decode cX3_lookAlong 80 = .ok (.iaload, 1) := by decide +kernel
theorem dX3_lookAlong_81 : decode cX3_lookAlong 81 = .ok (.iadd, 1) := by decide +kernel
theorem dX3_lookAlong_82 : decode cX3_lookAlong 82 = .ok (.istore_n 3, 1) := by decide +kernel
theorem dX3_lookAlong_83 : decode cX3_lookAlong 83 = .ok (.iload 4, 2) := by decide +kernel
theorem dX3_lookAlong_85 : decode cX3_lookAlong 85 = .ok (.getstatic 117, 3) := by decide +kernel
theorem dX3_lookAlong_88 : decode cX3_lookAlong 88 = .ok (.iload_n 1, 1) := by decide +kernel
theorem dX3_lookAlong_89 : decode cX3_lookAlong 89 = .ok (.iaload, 1) := by decide +kernel
theorem dX3_lookAlong_90 : decode cX3_lookAlong 90 = .ok (.iadd, 1) := by decide +kernel
theorem dX3_lookAlong_91 : decode cX3_lookAlong 91 = .ok (.istore 4, 2) := by decide +kernel
theorem dX3_lookAlong_93 : decode cX3_lookAlong 93 = .ok (.iload_n 3, 1) := by decide +kernel
theorem dX3_lookAlong_94 : decode cX3_lookAlong 94 = .ok (.ifCond .lt 25, 3) := by decide +kernel
theorem dX3_lookAlong_97 : decode cX3_lookAlong 97 = .ok (.iload 4, 2) := by decide +kernel
theorem dX3_lookAlong_99 : decode cX3_lookAlong 99 = .ok (.ifCond .lt 20, 3) := by decide +kernel
theorem dX3_lookAlong_102 : decode cX3_lookAlong 102 = .ok (.iload_n 3, 1) := by decide +kernel
theorem dX3_lookAlong_103 : decode cX3_lookAlong 103 = .ok (.iload_n 2, 1) := by decide +kernel
theorem dX3_lookAlong_104 : decode cX3_lookAlong 104 = .ok (.if_icmp .ge 15, 3) := by decide +kernel
theorem dX3_lookAlong_107 : decode cX3_lookAlong 107 = .ok (.iload 4, 2) := by decide +kernel
theorem dX3_lookAlong_109 : decode cX3_lookAlong 109 = .ok (.aload_n 0, 1) := by decide +kernel
theorem dX3_lookAlong_110 : decode cX3_lookAlong 110 = .ok (.getfield 27, 3) := by decide +kernel
theorem dX3_lookAlong_113 : decode cX3_lookAlong 113 = .ok (.getfield 120, 3) := by decide +kernel
theorem dX3_lookAlong_116 : decode cX3_lookAlong 116 = .ok (.if_icmp .lt 6, 3) := by decide +kernel
theorem dX3_lookAlong_119 : decode cX3_lookAlong 119 = .ok (.iload 6, 2) := by decide +kernel
theorem dX3_lookAlong_121 : decode cX3_lookAlong 121 = .ok (.ireturn, 1) := by decide +kernel
theorem dX3_lookAlong_122 : decode cX3_lookAlong 122 = .ok (.iload_n 2, 1) := by decide +kernel
theorem dX3_lookAlong_123 : decode cX3_lookAlong 123 = .ok (.iload 4, 2) := by decide +kernel
theorem dX3_lookAlong_125 : decode cX3_lookAlong 125 = .ok (.imul, 1) := by decide +kernel
theorem dX3_lookAlong_126 : decode cX3_lookAlong 126 = .ok (.iload_n 3, 1) := by decide +kernel
theorem dX3_lookAlong_127 : decode cX3_lookAlong 127 = .ok (.iadd, 1) := by decide +kernel
theorem dX3_lookAlong_128 : decode cX3_lookAlong 128 = .ok (.istore 9, 2) := by decide +kernel
theorem dX3_lookAlong_130 : decode cX3_lookAlong 130 = .ok (.aload_n 0, 1) := by decide +kernel
theorem dX3_lookAlong_131 : decode cX3_lookAlong 131 = .ok (.getfield 18, 3) := by decide +kernel
theorem dX3_lookAlong_134 : decode cX3_lookAlong 134 = .ok (.iload 9, 2) := by decide +kernel
theorem dX3_lookAlong_136 : decode cX3_lookAlong 136 = .ok (.iaload, 1) := by decide +kernel
theorem dX3_lookAlong_137 : decode cX3_lookAlong 137 = .ok (.iload 5, 2) := by decide +kernel
theorem dX3_lookAlong_139 : decode cX3_lookAlong 139 = .ok (.isub, 1) := by decide +kernel
theorem dX3_lookAlong_140 : decode cX3_lookAlong 140 = .ok (.istore 10, 2) := by decide +kernel
theorem dX3_lookAlong_142 : decode cX3_lookAlong 142 = .ok (.aload_n 0, 1) := by decide +kernel
theorem dX3_lookAlong_143 : decode cX3_lookAlong 143 = .ok (.dup, 1) := by decide +kernel
theorem dX3_lookAlong_144 : decode cX3_lookAlong 144 = .ok (.getfield 95, 3) := by decide +kernel
theorem dX3_lookAlong_147 : decode cX3_lookAlong 147 = .ok (.lconst 1, 1) := by decide +kernel
theorem dX3_lookAlong_148 : decode cX3_lookAlong 148 = .ok (.iload 9, 2) := by decide +kernel
theorem dX3_lookAlong_150 : decode cX3_lookAlong 150 = .ok (.lshl, 1) := by decide +kernel
theorem dX3_lookAlong_151 : decode cX3_lookAlong 151 = .ok (.lor, 1) := by decide +kernel
theorem dX3_lookAlong_152 : decode cX3_lookAlong 152 = .ok (.putfield 95, 3) := by decide +kernel
theorem dX3_lookAlong_155 : decode cX3_lookAlong 155 = .ok (.iload 6, 2) := by decide +kernel
theorem dX3_lookAlong_157 : decode cX3_lookAlong 157 = .ok (.ifCond .eq 16, 3) := by decide +kernel
theorem dX3_lookAlong_160 : decode cX3_lookAlong 160 = .ok (.iload 10, 2) := by decide +kernel
theorem dX3_lookAlong_162 : decode cX3_lookAlong 162 = .ok (.iload 6, 2) := by decide +kernel
theorem dX3_lookAlong_164 : decode cX3_lookAlong 164 = .ok (.imul, 1) := by decide +kernel
theorem dX3_lookAlong_165 : decode cX3_lookAlong 165 = .ok (.iload 7, 2) := by decide +kernel
theorem dX3_lookAlong_167 : decode cX3_lookAlong 167 = .ok (.iload 8, 2) := by decide +kernel
theorem dX3_lookAlong_169 : decode cX3_lookAlong 169 = .ok (.imul, 1) := by decide +kernel
theorem dX3_lookAlong_170 : decode cX3_lookAlong 170 = .ok (.if_icmp .le 24, 3) := by decide +kernel
theorem dX3_lookAlong_173 : decode cX3_lookAlong 173 = .ok (.iload 8, 2) := by decide +kernel
theorem dX3_lookAlong_175 : decode cX3_lookAlong 175 = .ok (.istore 6, 2) := by decide +kernel
theorem dX3_lookAlong_177 : decode cX3_lookAlong 177 = .ok (.iload 10, 2) := by decide +kernel
theorem dX3_lookAlong_179 : decode cX3_lookAlong 179 = .ok (.istore 7, 2) := by decide +kernel
theorem dX3_lookAlong_181 : decode cX3_lookAlong 181 = .ok (.aload_n 0, 1) := by decide +kernel
theorem dX3_lookAlong_182 : decode cX3_lookAlong 182 = .ok (.dup, 1) := by decide +kernel
theorem dX3_lookAlong_183 : decode cX3_lookAlong 183 = .ok (.getfield 91, 3) := by decide +kernel
theorem dX3_lookAlong_186 : decode cX3_lookAlong 186 = .ok (.lconst 1, 1) := by decide +kernel
theorem dX3_lookAlong_187 : decode cX3_lookAlong 187 = .ok (.iload 9, 2) := by decide +kernel
theorem dX3_lookAlong_189 : decode cX3_lookAlong 189 = .ok (.lshl, 1) := by decide +kernel
theorem dX3_lookAlong_190 : decode cX3_lookAlong 190 = .ok (.lor, 1) := by decide +kernel
theorem dX3_lookAlong_191 : decode cX3_lookAlong 191 = .ok (.putfield 91, 3) := by decide +kernel
theorem dX3_lookAlong_194 : decode cX3_lookAlong 194 = .ok (.iinc 8 1, 3) := by decide +kernel
theorem dX3_lookAlong_197 : decode cX3_lookAlong 197 = .ok (.goto (-131), 3) := by decide +kernel
theorem dX3_lookAlong_200 : decode cX3_lookAlong 200 = .ok (.iload 6, 2) := by decide +kernel
theorem dX3_lookAlong_202 : decode cX3_lookAlong 202 = .ok (.ireturn, 1) := by decide +kernel
theorem dX3_looksOver_0 : decode cX3_looksOver 0 = .ok (.lconst 0, 1) := by decide +kernel
theorem dX3_looksOver_1 : decode cX3_looksOver 1 = .ok (.lstore_n 2, 1) := by decide +kernel
theorem dX3_looksOver_2 : decode cX3_looksOver 2 = .ok (.iconst 0, 1) := by decide +kernel
theorem dX3_looksOver_3 : decode cX3_looksOver 3 = .ok (.istore 4, 2) := by decide +kernel
theorem dX3_looksOver_5 : decode cX3_looksOver 5 = .ok (.iload 4, 2) := by decide +kernel
theorem dX3_looksOver_7 : decode cX3_looksOver 7 = .ok (.aload_n 0, 1) := by decide +kernel
theorem dX3_looksOver_8 : decode cX3_looksOver 8 = .ok (.getfield 27, 3) := by decide +kernel
theorem dX3_looksOver_11 : decode cX3_looksOver 11 = .ok (.getfield 44, 3) := by decide +kernel
theorem dX3_looksOver_14 : decode cX3_looksOver 14 = .ok (.if_icmp .ge 32, 3) := by decide +kernel
theorem dX3_looksOver_17 : decode cX3_looksOver 17 = .ok (.iload_n 1, 1) := by decide +kernel
theorem dX3_looksOver_18 : decode cX3_looksOver 18 = .ok (.i2l, 1) := by decide +kernel
theorem dX3_looksOver_19 : decode cX3_looksOver 19 = .ok (.iload 4, 2) := by decide +kernel
theorem dX3_looksOver_21 : decode cX3_looksOver 21 = .ok (.invokestatic 98, 3) := by decide +kernel
theorem dX3_looksOver_24 : decode cX3_looksOver 24 = .ok (.ifCond .eq 16, 3) := by decide +kernel
theorem dX3_looksOver_27 : decode cX3_looksOver 27 = .ok (.aload_n 0, 1) := by decide +kernel
theorem dX3_looksOver_28 : decode cX3_looksOver 28 = .ok (.iload 4, 2) := by decide +kernel
theorem dX3_looksOver_30 : decode cX3_looksOver 30 = .ok (.invokevirtual 123, 3) := by decide +kernel
theorem dX3_looksOver_33 : decode cX3_looksOver 33 = .ok (.lload_n 2, 1) := by decide +kernel
theorem dX3_looksOver_34 : decode cX3_looksOver 34 = .ok (.aload_n 0, 1) := by decide +kernel
theorem dX3_looksOver_35 : decode cX3_looksOver 35 = .ok (.getfield 95, 3) := by decide +kernel
theorem dX3_looksOver_38 : decode cX3_looksOver 38 = .ok (.lor, 1) := by decide +kernel
theorem dX3_looksOver_39 : decode cX3_looksOver 39 = .ok (.lstore_n 2, 1) := by decide +kernel
theorem dX3_looksOver_40 : decode cX3_looksOver 40 = .ok (.iinc 4 1, 3) := by decide +kernel
theorem dX3_looksOver_43 : decode cX3_looksOver 43 = .ok (.goto (-38), 3) := by decide +kernel
theorem dX3_looksOver_46 : decode cX3_looksOver 46 = .ok (.lload_n 2, 1) := by decide +kernel
theorem dX3_looksOver_47 : decode cX3_looksOver 47 = .ok (.lreturn, 1) := by decide +kernel
theorem dX3_milesOf_0 : decode cX3_milesOf 0 = .ok (.aload_n 0, 1) := by decide +kernel
theorem dX3_milesOf_1 : decode cX3_milesOf 1 = .ok (.iload_n 1, 1) := by decide +kernel
theorem dX3_milesOf_2 : decode cX3_milesOf 2 = .ok (.invokevirtual 123, 3) := by decide +kernel
theorem dX3_milesOf_5 : decode cX3_milesOf 5 = .ok (.aload_n 0, 1) := by decide +kernel
theorem dX3_milesOf_6 : decode cX3_milesOf 6 = .ok (.getfield 85, 3) := by decide +kernel
theorem dX3_milesOf_9 : decode cX3_milesOf 9 = .ok (.ireturn, 1) := by decide +kernel
theorem dX3_housesSeenFrom_0 : decode cX3_housesSeenFrom 0 = .ok (.aload_n 0, 1) := by decide +kernel
theorem dX3_housesSeenFrom_1 : decode cX3_housesSeenFrom 1 = .ok (.iload_n 1, 1) := by decide +kernel
theorem dX3_housesSeenFrom_2 : decode cX3_housesSeenFrom 2 = .ok (.invokevirtual 123, 3) := by decide +kernel
theorem dX3_housesSeenFrom_5 : decode cX3_housesSeenFrom 5 = .ok (.aload_n 0, 1) := by decide +kernel
theorem dX3_housesSeenFrom_6 : decode cX3_housesSeenFrom 6 = .ok (.invokevirtual 127, 3) := by decide +kernel
theorem dX3_housesSeenFrom_9 : decode cX3_housesSeenFrom 9 = .ok (.ireturn, 1) := by decide +kernel
theorem dX3_housesInView_0 : decode cX3_housesInView 0 = .ok (.iconst 0, 1) := by decide +kernel
theorem dX3_housesInView_1 : decode cX3_housesInView 1 = .ok (.istore_n 1, 1) := by decide +kernel
theorem dX3_housesInView_2 : decode cX3_housesInView 2 = .ok (.iconst 0, 1) := by decide +kernel
theorem dX3_housesInView_3 : decode cX3_housesInView 3 = .ok (.istore_n 2, 1) := by decide +kernel
theorem dX3_housesInView_4 : decode cX3_housesInView 4 = .ok (.iload_n 2, 1) := by decide +kernel
theorem dX3_housesInView_5 : decode cX3_housesInView 5 = .ok (.aload_n 0, 1) := by decide +kernel
theorem dX3_housesInView_6 : decode cX3_housesInView 6 = .ok (.getfield 27, 3) := by decide +kernel
theorem dX3_housesInView_9 : decode cX3_housesInView 9 = .ok (.getfield 44, 3) := by decide +kernel
theorem dX3_housesInView_12 : decode cX3_housesInView 12 = .ok (.if_icmp .ge 31, 3) := by decide +kernel
theorem dX3_housesInView_15 : decode cX3_housesInView 15 = .ok (.iload_n 1, 1) := by decide +kernel
theorem dX3_housesInView_16 : decode cX3_housesInView 16 = .ok (.aload_n 0, 1) := by decide +kernel
theorem dX3_housesInView_17 : decode cX3_housesInView 17 = .ok (.getfield 91, 3) := by decide +kernel
theorem dX3_housesInView_20 : decode cX3_housesInView 20 = .ok (.aload_n 0, 1) := by decide +kernel
theorem dX3_housesInView_21 : decode cX3_housesInView 21 = .ok (.getfield 27, 3) := by decide +kernel
theorem dX3_housesInView_24 : decode cX3_housesInView 24 = .ok (.getfield 48, 3) := by decide +kernel
theorem dX3_housesInView_27 : decode cX3_housesInView 27 = .ok (.iload_n 2, 1) := by decide +kernel
theorem dX3_housesInView_28 : decode cX3_housesInView 28 = .ok (.iaload, 1) := by decide +kernel
theorem dX3_housesInView_29 : decode cX3_housesInView 29 = .ok (.lushr, 1) := by decide +kernel
theorem dX3_housesInView_30 : decode cX3_housesInView 30 = .ok (.lconst 1, 1) := by decide +kernel
theorem dX3_housesInView_31 : decode cX3_housesInView 31 = .ok (.land, 1) := by decide +kernel
theorem dX3_housesInView_32 : decode cX3_housesInView 32 = .ok (.l2i, 1) := by decide +kernel
theorem dX3_housesInView_33 : decode cX3_housesInView 33 = .ok (.iload_n 2, 1) := by decide +kernel
theorem dX3_housesInView_34 : decode cX3_housesInView 34 = .ok (.ishl, 1) := by decide +kernel
theorem dX3_housesInView_35 : decode cX3_housesInView 35 = .ok (.ior, 1) := by decide +kernel
theorem dX3_housesInView_36 : decode cX3_housesInView 36 = .ok (.istore_n 1, 1) := by decide +kernel
theorem dX3_housesInView_37 : decode cX3_housesInView 37 = .ok (.iinc 2 1, 3) := by decide +kernel
theorem dX3_housesInView_40 : decode cX3_housesInView 40 = .ok (.goto (-36), 3) := by decide +kernel
theorem dX3_housesInView_43 : decode cX3_housesInView 43 = .ok (.iload_n 1, 1) := by decide +kernel
theorem dX3_housesInView_44 : decode cX3_housesInView 44 = .ok (.ireturn, 1) := by decide +kernel
theorem dX3_housesThatSee_0 : decode cX3_housesThatSee 0 = .ok (.iconst 0, 1) := by decide +kernel
theorem dX3_housesThatSee_1 : decode cX3_housesThatSee 1 = .ok (.istore_n 2, 1) := by decide +kernel
theorem dX3_housesThatSee_2 : decode cX3_housesThatSee 2 = .ok (.iconst 0, 1) := by decide +kernel
theorem dX3_housesThatSee_3 : decode cX3_housesThatSee 3 = .ok (.istore_n 3, 1) := by decide +kernel
theorem dX3_housesThatSee_4 : decode cX3_housesThatSee 4 = .ok (.iload_n 3, 1) := by decide +kernel
theorem dX3_housesThatSee_5 : decode cX3_housesThatSee 5 = .ok (.aload_n 0, 1) := by decide +kernel
theorem dX3_housesThatSee_6 : decode cX3_housesThatSee 6 = .ok (.getfield 27, 3) := by decide +kernel
theorem dX3_housesThatSee_9 : decode cX3_housesThatSee 9 = .ok (.getfield 44, 3) := by decide +kernel
theorem dX3_housesThatSee_12 : decode cX3_housesThatSee 12 = .ok (.if_icmp .ge 31, 3) := by decide +kernel
theorem dX3_housesThatSee_15 : decode cX3_housesThatSee 15 = .ok (.aload_n 0, 1) := by decide +kernel
theorem dX3_housesThatSee_16 : decode cX3_housesThatSee 16 = .ok (.iload_n 3, 1) := by decide +kernel
theorem dX3_housesThatSee_17 : decode cX3_housesThatSee 17 = .ok (.invokevirtual 123, 3) := by decide +kernel
theorem dX3_housesThatSee_20 : decode cX3_housesThatSee 20 = .ok (.aload_n 0, 1) := by decide +kernel
theorem dX3_housesThatSee_21 : decode cX3_housesThatSee 21 = .ok (.getfield 91, 3) := by decide +kernel
theorem dX3_housesThatSee_24 : decode cX3_housesThatSee 24 = .ok (.iload_n 1, 1) := by decide +kernel
theorem dX3_housesThatSee_25 : decode cX3_housesThatSee 25 = .ok (.invokestatic 98, 3) := by decide +kernel
theorem dX3_housesThatSee_28 : decode cX3_housesThatSee 28 = .ok (.ifCond .eq 9, 3) := by decide +kernel
theorem dX3_housesThatSee_31 : decode cX3_housesThatSee 31 = .ok (.iload_n 2, 1) := by decide +kernel
theorem dX3_housesThatSee_32 : decode cX3_housesThatSee 32 = .ok (.iconst 1, 1) := by decide +kernel
theorem dX3_housesThatSee_33 : decode cX3_housesThatSee 33 = .ok (.iload_n 3, 1) := by decide +kernel
theorem dX3_housesThatSee_34 : decode cX3_housesThatSee 34 = .ok (.ishl, 1) := by decide +kernel
theorem dX3_housesThatSee_35 : decode cX3_housesThatSee 35 = .ok (.ior, 1) := by decide +kernel
theorem dX3_housesThatSee_36 : decode cX3_housesThatSee 36 = .ok (.istore_n 2, 1) := by decide +kernel
theorem dX3_housesThatSee_37 : decode cX3_housesThatSee 37 = .ok (.iinc 3 1, 3) := by decide +kernel
theorem dX3_housesThatSee_40 : decode cX3_housesThatSee 40 = .ok (.goto (-36), 3) := by decide +kernel
theorem dX3_housesThatSee_43 : decode cX3_housesThatSee 43 = .ok (.iload_n 2, 1) := by decide +kernel
theorem dX3_housesThatSee_44 : decode cX3_housesThatSee 44 = .ok (.ireturn, 1) := by decide +kernel
theorem dX3_housesThatLie_0 : decode cX3_housesThatLie 0 = .ok (.iconst 0, 1) := by decide +kernel
theorem dX3_housesThatLie_1 : decode cX3_housesThatLie 1 = .ok (.istore_n 2, 1) := by decide +kernel
theorem dX3_housesThatLie_2 : decode cX3_housesThatLie 2 = .ok (.iconst 0, 1) := by decide +kernel
theorem dX3_housesThatLie_3 : decode cX3_housesThatLie 3 = .ok (.istore_n 3, 1) := by decide +kernel
theorem dX3_housesThatLie_4 : decode cX3_housesThatLie 4 = .ok (.iload_n 3, 1) := by decide +kernel
theorem dX3_housesThatLie_5 : decode cX3_housesThatLie 5 = .ok (.aload_n 1, 1) := by decide +kernel
theorem dX3_housesThatLie_6 : decode cX3_housesThatLie 6 = .ok (.getfield 130, 3) := by decide +kernel
theorem dX3_housesThatLie_9 : decode cX3_housesThatLie 9 = .ok (.if_icmp .ge 49, 3) := by decide +kernel
theorem dX3_housesThatLie_12 : decode cX3_housesThatLie 12 = .ok (.aload_n 1, 1) := by decide +kernel
theorem dX3_housesThatLie_13 : decode cX3_housesThatLie 13 = .ok (.getfield 135, 3) := by decide +kernel
theorem dX3_housesThatLie_16 : decode cX3_housesThatLie 16 = .ok (.iload_n 3, 1) := by decide +kernel
theorem dX3_housesThatLie_17 : decode cX3_housesThatLie 17 = .ok (.iaload, 1) := by decide +kernel
theorem dX3_housesThatLie_18 : decode cX3_housesThatLie 18 = .ok (.istore 4, 2) := by decide +kernel
theorem dX3_housesThatLie_20 : decode cX3_housesThatLie 20 = .ok (.iload_n 2, 1) := by decide +kernel
theorem dX3_housesThatLie_21 : decode cX3_housesThatLie 21 = .ok (.i2l, 1) := by decide +kernel
theorem dX3_housesThatLie_22 : decode cX3_housesThatLie 22 = .ok (.iload 4, 2) := by decide +kernel
theorem dX3_housesThatLie_24 : decode cX3_housesThatLie 24 = .ok (.invokestatic 98, 3) := by decide +kernel
theorem dX3_housesThatLie_27 : decode cX3_housesThatLie 27 = .ok (.ifCond .ne 25, 3) := by decide +kernel
theorem dX3_housesThatLie_30 : decode cX3_housesThatLie 30 = .ok (.aload_n 0, 1) := by decide +kernel
theorem dX3_housesThatLie_31 : decode cX3_housesThatLie 31 = .ok (.iload 4, 2) := by decide +kernel
theorem dX3_housesThatLie_33 : decode cX3_housesThatLie 33 = .ok (.invokevirtual 138, 3) := by decide +kernel
theorem dX3_housesThatLie_36 : decode cX3_housesThatLie 36 = .ok (.aload_n 1, 1) := by decide +kernel
theorem dX3_housesThatLie_37 : decode cX3_housesThatLie 37 = .ok (.getfield 141, 3) := by decide +kernel
theorem dX3_housesThatLie_40 : decode cX3_housesThatLie 40 = .ok (.iload_n 3, 1) := by decide +kernel
theorem dX3_housesThatLie_41 : decode cX3_housesThatLie 41 = .ok (.iaload, 1) := by decide +kernel
theorem dX3_housesThatLie_42 : decode cX3_housesThatLie 42 = .ok (.if_icmp .eq 10, 3) := by decide +kernel
theorem dX3_housesThatLie_45 : decode cX3_housesThatLie 45 = .ok (.iload_n 2, 1) := by decide +kernel
theorem dX3_housesThatLie_46 : decode cX3_housesThatLie 46 = .ok (.iconst 1, 1) := by decide +kernel
theorem dX3_housesThatLie_47 : decode cX3_housesThatLie 47 = .ok (.iload 4, 2) := by decide +kernel
theorem dX3_housesThatLie_49 : decode cX3_housesThatLie 49 = .ok (.ishl, 1) := by decide +kernel
theorem dX3_housesThatLie_50 : decode cX3_housesThatLie 50 = .ok (.ior, 1) := by decide +kernel
theorem dX3_housesThatLie_51 : decode cX3_housesThatLie 51 = .ok (.istore_n 2, 1) := by decide +kernel
theorem dX3_housesThatLie_52 : decode cX3_housesThatLie 52 = .ok (.iinc 3 1, 3) := by decide +kernel
theorem dX3_housesThatLie_55 : decode cX3_housesThatLie 55 = .ok (.goto (-51), 3) := by decide +kernel
theorem dX3_housesThatLie_58 : decode cX3_housesThatLie 58 = .ok (.iload_n 2, 1) := by decide +kernel
theorem dX3_housesThatLie_59 : decode cX3_housesThatLie 59 = .ok (.ireturn, 1) := by decide +kernel
theorem dX3_taxOf_0 : decode cX3_taxOf 0 = .ok (.aload_n 0, 1) := by decide +kernel
theorem dX3_taxOf_1 : decode cX3_taxOf 1 = .ok (.iload_n 1, 1) := by decide +kernel
theorem dX3_taxOf_2 : decode cX3_taxOf 2 = .ok (.invokevirtual 123, 3) := by decide +kernel
theorem dX3_taxOf_5 : decode cX3_taxOf 5 = .ok (.aload_n 0, 1) := by decide +kernel
theorem dX3_taxOf_6 : decode cX3_taxOf 6 = .ok (.aload_n 0, 1) := by decide +kernel
theorem dX3_taxOf_7 : decode cX3_taxOf 7 = .ok (.getfield 9, 3) := by decide +kernel
theorem dX3_taxOf_10 : decode cX3_taxOf 10 = .ok (.bipush 60, 2) := by decide +kernel
theorem dX3_taxOf_12 : decode cX3_taxOf 12 = .ok (.iaload, 1) := by decide +kernel
theorem dX3_taxOf_13 : decode cX3_taxOf 13 = .ok (.invokevirtual 144, 3) := by decide +kernel
theorem dX3_taxOf_16 : decode cX3_taxOf 16 = .ok (.ireturn, 1) := by decide +kernel
theorem dX3_taxOfVilla_0 : decode cX3_taxOfVilla 0 = .ok (.aload_n 0, 1) := by decide +kernel
theorem dX3_taxOfVilla_1 : decode cX3_taxOfVilla 1 = .ok (.iload_n 1, 1) := by decide +kernel
theorem dX3_taxOfVilla_2 : decode cX3_taxOfVilla 2 = .ok (.iconst 0, 1) := by decide +kernel
theorem dX3_taxOfVilla_3 : decode cX3_taxOfVilla 3 = .ok (.iconst 0, 1) := by decide +kernel
theorem dX3_taxOfVilla_4 : decode cX3_taxOfVilla 4 = .ok (.iconst 0, 1) := by decide +kernel
theorem dX3_taxOfVilla_5 : decode cX3_taxOfVilla 5 = .ok (.invokevirtual 72, 3) := by decide +kernel
theorem dX3_taxOfVilla_8 : decode cX3_taxOfVilla 8 = .ok (.aload_n 0, 1) := by decide +kernel
theorem dX3_taxOfVilla_9 : decode cX3_taxOfVilla 9 = .ok (.aload_n 0, 1) := by decide +kernel
theorem dX3_taxOfVilla_10 : decode cX3_taxOfVilla 10 = .ok (.getfield 9, 3) := by decide +kernel
theorem dX3_taxOfVilla_13 : decode cX3_taxOfVilla 13 = .ok (.bipush 60, 2) := by decide +kernel
theorem dX3_taxOfVilla_15 : decode cX3_taxOfVilla 15 = .ok (.iaload, 1) := by decide +kernel
theorem dX3_taxOfVilla_16 : decode cX3_taxOfVilla 16 = .ok (.invokevirtual 144, 3) := by decide +kernel
theorem dX3_taxOfVilla_19 : decode cX3_taxOfVilla 19 = .ok (.ireturn, 1) := by decide +kernel
theorem dX3_taxOfAll_0 : decode cX3_taxOfAll 0 = .ok (.aload_n 0, 1) := by decide +kernel
theorem dX3_taxOfAll_1 : decode cX3_taxOfAll 1 = .ok (.aload_n 0, 1) := by decide +kernel
theorem dX3_taxOfAll_2 : decode cX3_taxOfAll 2 = .ok (.getfield 9, 3) := by decide +kernel
theorem dX3_taxOfAll_5 : decode cX3_taxOfAll 5 = .ok (.bipush 60, 2) := by decide +kernel
theorem dX3_taxOfAll_7 : decode cX3_taxOfAll 7 = .ok (.iaload, 1) := by decide +kernel
theorem dX3_taxOfAll_8 : decode cX3_taxOfAll 8 = .ok (.invokevirtual 147, 3) := by decide +kernel
theorem dX3_taxOfAll_11 : decode cX3_taxOfAll 11 = .ok (.ireturn, 1) := by decide +kernel
theorem dX3_sumBy_0 : decode cX3_sumBy 0 = .ok (.iconst 0, 1) := by decide +kernel
theorem dX3_sumBy_1 : decode cX3_sumBy 1 = .ok (.istore_n 2, 1) := by decide +kernel
theorem dX3_sumBy_2 : decode cX3_sumBy 2 = .ok (.iconst 0, 1) := by decide +kernel
theorem dX3_sumBy_3 : decode cX3_sumBy 3 = .ok (.istore_n 3, 1) := by decide +kernel
theorem dX3_sumBy_4 : decode cX3_sumBy 4 = .ok (.iload_n 3, 1) := by decide +kernel
theorem dX3_sumBy_5 : decode cX3_sumBy 5 = .ok (.aload_n 0, 1) := by decide +kernel
theorem dX3_sumBy_6 : decode cX3_sumBy 6 = .ok (.getfield 27, 3) := by decide +kernel
theorem dX3_sumBy_9 : decode cX3_sumBy 9 = .ok (.getfield 44, 3) := by decide +kernel
theorem dX3_sumBy_12 : decode cX3_sumBy 12 = .ok (.if_icmp .ge 22, 3) := by decide +kernel
theorem dX3_sumBy_15 : decode cX3_sumBy 15 = .ok (.aload_n 0, 1) := by decide +kernel
theorem dX3_sumBy_16 : decode cX3_sumBy 16 = .ok (.iload_n 3, 1) := by decide +kernel
theorem dX3_sumBy_17 : decode cX3_sumBy 17 = .ok (.invokevirtual 123, 3) := by decide +kernel
theorem dX3_sumBy_20 : decode cX3_sumBy 20 = .ok (.iload_n 2, 1) := by decide +kernel
theorem dX3_sumBy_21 : decode cX3_sumBy 21 = .ok (.aload_n 0, 1) := by decide +kernel
theorem dX3_sumBy_22 : decode cX3_sumBy 22 = .ok (.iload_n 1, 1) := by decide +kernel
theorem dX3_sumBy_23 : decode cX3_sumBy 23 = .ok (.invokevirtual 144, 3) := by decide +kernel
theorem dX3_sumBy_26 : decode cX3_sumBy 26 = .ok (.iadd, 1) := by decide +kernel
theorem dX3_sumBy_27 : decode cX3_sumBy 27 = .ok (.istore_n 2, 1) := by decide +kernel
theorem dX3_sumBy_28 : decode cX3_sumBy 28 = .ok (.iinc 3 1, 3) := by decide +kernel
theorem dX3_sumBy_31 : decode cX3_sumBy 31 = .ok (.goto (-27), 3) := by decide +kernel
theorem dX3_sumBy_34 : decode cX3_sumBy 34 = .ok (.iload_n 2, 1) := by decide +kernel
theorem dX3_sumBy_35 : decode cX3_sumBy 35 = .ok (.ireturn, 1) := by decide +kernel
theorem dX3_mostBy_0 : decode cX3_mostBy 0 = .ok (.iconst 0, 1) := by decide +kernel
theorem dX3_mostBy_1 : decode cX3_mostBy 1 = .ok (.istore_n 2, 1) := by decide +kernel
theorem dX3_mostBy_2 : decode cX3_mostBy 2 = .ok (.iconst 0, 1) := by decide +kernel
theorem dX3_mostBy_3 : decode cX3_mostBy 3 = .ok (.istore_n 3, 1) := by decide +kernel
theorem dX3_mostBy_4 : decode cX3_mostBy 4 = .ok (.iload_n 3, 1) := by decide +kernel
theorem dX3_mostBy_5 : decode cX3_mostBy 5 = .ok (.aload_n 0, 1) := by decide +kernel
theorem dX3_mostBy_6 : decode cX3_mostBy 6 = .ok (.getfield 27, 3) := by decide +kernel
theorem dX3_mostBy_9 : decode cX3_mostBy 9 = .ok (.getfield 44, 3) := by decide +kernel
theorem dX3_mostBy_12 : decode cX3_mostBy 12 = .ok (.if_icmp .ge 24, 3) := by decide +kernel
theorem dX3_mostBy_15 : decode cX3_mostBy 15 = .ok (.aload_n 0, 1) := by decide +kernel
theorem dX3_mostBy_16 : decode cX3_mostBy 16 = .ok (.iload_n 3, 1) := by decide +kernel
theorem dX3_mostBy_17 : decode cX3_mostBy 17 = .ok (.invokevirtual 123, 3) := by decide +kernel
theorem dX3_mostBy_20 : decode cX3_mostBy 20 = .ok (.iload_n 2, 1) := by decide +kernel
theorem dX3_mostBy_21 : decode cX3_mostBy 21 = .ok (.aload_n 0, 1) := by decide +kernel
theorem dX3_mostBy_22 : decode cX3_mostBy 22 = .ok (.iload_n 1, 1) := by decide +kernel
theorem dX3_mostBy_23 : decode cX3_mostBy 23 = .ok (.invokevirtual 144, 3) := by decide +kernel
theorem dX3_mostBy_26 : decode cX3_mostBy 26 = .ok (.invokestatic 105, 3) := by decide +kernel
theorem dX3_mostBy_29 : decode cX3_mostBy 29 = .ok (.istore_n 2, 1) := by decide +kernel
theorem dX3_mostBy_30 : decode cX3_mostBy 30 = .ok (.iinc 3 1, 3) := by decide +kernel
theorem dX3_mostBy_33 : decode cX3_mostBy 33 = .ok (.goto (-29), 3) := by decide +kernel
theorem dX3_mostBy_36 : decode cX3_mostBy 36 = .ok (.iload_n 2, 1) := by decide +kernel
theorem dX3_mostBy_37 : decode cX3_mostBy 37 = .ok (.ireturn, 1) := by decide +kernel
theorem dX3_allWithin_0 : decode cX3_allWithin 0 = .ok (.iconst 0, 1) := by decide +kernel
theorem dX3_allWithin_1 : decode cX3_allWithin 1 = .ok (.istore_n 3, 1) := by decide +kernel
theorem dX3_allWithin_2 : decode cX3_allWithin 2 = .ok (.iload_n 3, 1) := by decide +kernel
theorem dX3_allWithin_3 : decode cX3_allWithin 3 = .ok (.aload_n 0, 1) := by decide +kernel
theorem dX3_allWithin_4 : decode cX3_allWithin 4 = .ok (.getfield 27, 3) := by decide +kernel
theorem dX3_allWithin_7 : decode cX3_allWithin 7 = .ok (.getfield 44, 3) := by decide +kernel
theorem dX3_allWithin_10 : decode cX3_allWithin 10 = .ok (.if_icmp .ge 29, 3) := by decide +kernel
theorem dX3_allWithin_13 : decode cX3_allWithin 13 = .ok (.iload_n 1, 1) := by decide +kernel
theorem dX3_allWithin_14 : decode cX3_allWithin 14 = .ok (.i2l, 1) := by decide +kernel
theorem dX3_allWithin_15 : decode cX3_allWithin 15 = .ok (.iload_n 3, 1) := by decide +kernel
theorem dX3_allWithin_16 : decode cX3_allWithin 16 = .ok (.invokestatic 98, 3) := by decide +kernel
theorem dX3_allWithin_19 : decode cX3_allWithin 19 = .ok (.ifCond .eq 14, 3) := by decide +kernel
theorem dX3_allWithin_22 : decode cX3_allWithin 22 = .ok (.aload_n 0, 1) := by decide +kernel
theorem dX3_allWithin_23 : decode cX3_allWithin 23 = .ok (.iload_n 3, 1) := by decide +kernel
theorem dX3_allWithin_24 : decode cX3_allWithin 24 = .ok (.invokevirtual 150, 3) := by decide +kernel
theorem dX3_allWithin_27 : decode cX3_allWithin 27 = .ok (.iload_n 2, 1) := by decide +kernel
theorem dX3_allWithin_28 : decode cX3_allWithin 28 = .ok (.if_icmp .le 5, 3) := by decide +kernel
theorem dX3_allWithin_31 : decode cX3_allWithin 31 = .ok (.iconst 0, 1) := by decide +kernel
theorem dX3_allWithin_32 : decode cX3_allWithin 32 = .ok (.ireturn, 1) := by decide +kernel
theorem dX3_allWithin_33 : decode cX3_allWithin 33 = .ok (.iinc 3 1, 3) := by decide +kernel
theorem dX3_allWithin_36 : decode cX3_allWithin 36 = .ok (.goto (-34), 3) := by decide +kernel
theorem dX3_allWithin_39 : decode cX3_allWithin 39 = .ok (.iconst 1, 1) := by decide +kernel
theorem dX3_allWithin_40 : decode cX3_allWithin 40 = .ok (.ireturn, 1) := by decide +kernel
theorem dX3_housesThatCanPay_0 : decode cX3_housesThatCanPay 0 = .ok (.iconst 0, 1) := by decide +kernel
theorem dX3_housesThatCanPay_1 : decode cX3_housesThatCanPay 1 = .ok (.istore_n 1, 1) := by decide +kernel
theorem dX3_housesThatCanPay_2 : decode cX3_housesThatCanPay 2 = .ok (.iconst 0, 1) := by decide +kernel
theorem dX3_housesThatCanPay_3 : decode cX3_housesThatCanPay 3 = .ok (.istore_n 2, 1) := by decide +kernel
theorem dX3_housesThatCanPay_4 : decode cX3_housesThatCanPay 4 = .ok (.iload_n 2, 1) := by decide +kernel
theorem dX3_housesThatCanPay_5 : decode cX3_housesThatCanPay 5 = .ok (.aload_n 0, 1) := by decide +kernel
theorem dX3_housesThatCanPay_6 : decode cX3_housesThatCanPay 6 = .ok (.getfield 27, 3) := by decide +kernel
theorem dX3_housesThatCanPay_9 : decode cX3_housesThatCanPay 9 = .ok (.getfield 44, 3) := by decide +kernel
theorem dX3_housesThatCanPay_12 : decode cX3_housesThatCanPay 12 = .ok (.if_icmp .ge 32, 3) := by decide +kernel
theorem dX3_housesThatCanPay_15 : decode cX3_housesThatCanPay 15 = .ok (.aload_n 0, 1) := by decide +kernel
theorem dX3_housesThatCanPay_16 : decode cX3_housesThatCanPay 16 = .ok (.iload_n 2, 1) := by decide +kernel
theorem dX3_housesThatCanPay_17 : decode cX3_housesThatCanPay 17 = .ok (.invokevirtual 150, 3) := by decide +kernel
theorem dX3_housesThatCanPay_20 : decode cX3_housesThatCanPay 20 = .ok (.aload_n 0, 1) := by decide +kernel
theorem dX3_housesThatCanPay_21 : decode cX3_housesThatCanPay 21 = .ok (.getfield 9, 3) := by decide +kernel
theorem dX3_housesThatCanPay_24 : decode cX3_housesThatCanPay 24 = .ok (.bipush 36, 2) := by decide +kernel
theorem dX3_housesThatCanPay_26 : decode cX3_housesThatCanPay 26 = .ok (.iload_n 2, 1) := by decide +kernel
theorem dX3_housesThatCanPay_27 : decode cX3_housesThatCanPay 27 = .ok (.iadd, 1) := by decide +kernel
theorem dX3_housesThatCanPay_28 : decode cX3_housesThatCanPay 28 = .ok (.iaload, 1) := by decide +kernel
theorem dX3_housesThatCanPay_29 : decode cX3_housesThatCanPay 29 = .ok (.if_icmp .gt 9, 3) := by decide +kernel
theorem dX3_housesThatCanPay_32 : decode cX3_housesThatCanPay 32 = .ok (.iload_n 1, 1) := by decide +kernel
theorem dX3_housesThatCanPay_33 : decode cX3_housesThatCanPay 33 = .ok (.iconst 1, 1) := by decide +kernel
theorem dX3_housesThatCanPay_34 : decode cX3_housesThatCanPay 34 = .ok (.iload_n 2, 1) := by decide +kernel
theorem dX3_housesThatCanPay_35 : decode cX3_housesThatCanPay 35 = .ok (.ishl, 1) := by decide +kernel
theorem dX3_housesThatCanPay_36 : decode cX3_housesThatCanPay 36 = .ok (.ior, 1) := by decide +kernel
theorem dX3_housesThatCanPay_37 : decode cX3_housesThatCanPay 37 = .ok (.istore_n 1, 1) := by decide +kernel
theorem dX3_housesThatCanPay_38 : decode cX3_housesThatCanPay 38 = .ok (.iinc 2 1, 3) := by decide +kernel
theorem dX3_housesThatCanPay_41 : decode cX3_housesThatCanPay 41 = .ok (.goto (-37), 3) := by decide +kernel
theorem dX3_housesThatCanPay_44 : decode cX3_housesThatCanPay 44 = .ok (.iload_n 1, 1) := by decide +kernel
theorem dX3_housesThatCanPay_45 : decode cX3_housesThatCanPay 45 = .ok (.ireturn, 1) := by decide +kernel
theorem dX3_leastPurse_0 : decode cX3_leastPurse 0 = .ok (.aload_n 0, 1) := by decide +kernel
theorem dX3_leastPurse_1 : decode cX3_leastPurse 1 = .ok (.getfield 27, 3) := by decide +kernel
theorem dX3_leastPurse_4 : decode cX3_leastPurse 4 = .ok (.getfield 44, 3) := by decide +kernel
theorem dX3_leastPurse_7 : decode cX3_leastPurse 7 = .ok (.ifCond .le 13, 3) := by decide +kernel
theorem dX3_leastPurse_10 : decode cX3_leastPurse 10 = .ok (.aload_n 0, 1) := by decide +kernel
theorem dX3_leastPurse_11 : decode cX3_leastPurse 11 = .ok (.getfield 9, 3) := by decide +kernel
theorem dX3_leastPurse_14 : decode cX3_leastPurse 14 = .ok (.bipush 36, 2) := by decide +kernel
theorem dX3_leastPurse_16 : decode cX3_leastPurse 16 = .ok (.iaload, 1) := by decide +kernel
theorem dX3_leastPurse_17 : decode cX3_leastPurse 17 = .ok (.goto 4, 3) := by decide +kernel
theorem dX3_leastPurse_20 : decode cX3_leastPurse 20 = .ok (.iconst 0, 1) := by decide +kernel
theorem dX3_leastPurse_21 : decode cX3_leastPurse 21 = .ok (.istore_n 1, 1) := by decide +kernel
theorem dX3_leastPurse_22 : decode cX3_leastPurse 22 = .ok (.iconst 1, 1) := by decide +kernel
theorem dX3_leastPurse_23 : decode cX3_leastPurse 23 = .ok (.istore_n 2, 1) := by decide +kernel
theorem dX3_leastPurse_24 : decode cX3_leastPurse 24 = .ok (.iload_n 2, 1) := by decide +kernel
theorem dX3_leastPurse_25 : decode cX3_leastPurse 25 = .ok (.aload_n 0, 1) := by decide +kernel
theorem dX3_leastPurse_26 : decode cX3_leastPurse 26 = .ok (.getfield 27, 3) := by decide +kernel
theorem dX3_leastPurse_29 : decode cX3_leastPurse 29 = .ok (.getfield 44, 3) := by decide +kernel
theorem dX3_leastPurse_32 : decode cX3_leastPurse 32 = .ok (.if_icmp .ge 23, 3) := by decide +kernel
theorem dX3_leastPurse_35 : decode cX3_leastPurse 35 = .ok (.iload_n 1, 1) := by decide +kernel
theorem dX3_leastPurse_36 : decode cX3_leastPurse 36 = .ok (.aload_n 0, 1) := by decide +kernel
theorem dX3_leastPurse_37 : decode cX3_leastPurse 37 = .ok (.getfield 9, 3) := by decide +kernel
theorem dX3_leastPurse_40 : decode cX3_leastPurse 40 = .ok (.bipush 36, 2) := by decide +kernel
theorem dX3_leastPurse_42 : decode cX3_leastPurse 42 = .ok (.iload_n 2, 1) := by decide +kernel
theorem dX3_leastPurse_43 : decode cX3_leastPurse 43 = .ok (.iadd, 1) := by decide +kernel
theorem dX3_leastPurse_44 : decode cX3_leastPurse 44 = .ok (.iaload, 1) := by decide +kernel
theorem dX3_leastPurse_45 : decode cX3_leastPurse 45 = .ok (.invokestatic 153, 3) := by decide +kernel
theorem dX3_leastPurse_48 : decode cX3_leastPurse 48 = .ok (.istore_n 1, 1) := by decide +kernel
theorem dX3_leastPurse_49 : decode cX3_leastPurse 49 = .ok (.iinc 2 1, 3) := by decide +kernel
theorem dX3_leastPurse_52 : decode cX3_leastPurse 52 = .ok (.goto (-28), 3) := by decide +kernel
theorem dX3_leastPurse_55 : decode cX3_leastPurse 55 = .ok (.iload_n 1, 1) := by decide +kernel
theorem dX3_leastPurse_56 : decode cX3_leastPurse 56 = .ok (.ireturn, 1) := by decide +kernel
theorem dX3_passYear_0 : decode cX3_passYear 0 = .ok (.iconst 0, 1) := by decide +kernel
theorem dX3_passYear_1 : decode cX3_passYear 1 = .ok (.istore_n 1, 1) := by decide +kernel
theorem dX3_passYear_2 : decode cX3_passYear 2 = .ok (.iconst 0, 1) := by decide +kernel
theorem dX3_passYear_3 : decode cX3_passYear 3 = .ok (.istore_n 2, 1) := by decide +kernel
theorem dX3_passYear_4 : decode cX3_passYear 4 = .ok (.iload_n 2, 1) := by decide +kernel
theorem dX3_passYear_5 : decode cX3_passYear 5 = .ok (.aload_n 0, 1) := by decide +kernel
theorem dX3_passYear_6 : decode cX3_passYear 6 = .ok (.getfield 27, 3) := by decide +kernel
theorem dX3_passYear_9 : decode cX3_passYear 9 = .ok (.getfield 44, 3) := by decide +kernel
theorem dX3_passYear_12 : decode cX3_passYear 12 = .ok (.if_icmp .ge 32, 3) := by decide +kernel
theorem dX3_passYear_15 : decode cX3_passYear 15 = .ok (.aload_n 0, 1) := by decide +kernel
theorem dX3_passYear_16 : decode cX3_passYear 16 = .ok (.iload_n 2, 1) := by decide +kernel
theorem dX3_passYear_17 : decode cX3_passYear 17 = .ok (.invokevirtual 150, 3) := by decide +kernel
theorem dX3_passYear_20 : decode cX3_passYear 20 = .ok (.istore_n 3, 1) := by decide +kernel
theorem dX3_passYear_21 : decode cX3_passYear 21 = .ok (.aload_n 0, 1) := by decide +kernel
theorem dX3_passYear_22 : decode cX3_passYear 22 = .ok (.getfield 9, 3) := by decide +kernel
theorem dX3_passYear_25 : decode cX3_passYear 25 = .ok (.bipush 36, 2) := by decide +kernel
theorem dX3_passYear_27 : decode cX3_passYear 27 = .ok (.iload_n 2, 1) := by decide +kernel
theorem dX3_passYear_28 : decode cX3_passYear 28 = .ok (.iadd, 1) := by decide +kernel
theorem dX3_passYear_29 : decode cX3_passYear 29 = .ok (.dup2, 1) := by decide +kernel
theorem dX3_passYear_30 : decode cX3_passYear 30 = .ok (.iaload, 1) := by decide +kernel
theorem dX3_passYear_31 : decode cX3_passYear 31 = .ok (.iload_n 3, 1) := by decide +kernel
theorem dX3_passYear_32 : decode cX3_passYear 32 = .ok (.isub, 1) := by decide +kernel
theorem dX3_passYear_33 : decode cX3_passYear 33 = .ok (.iastore, 1) := by decide +kernel
theorem dX3_passYear_34 : decode cX3_passYear 34 = .ok (.iload_n 1, 1) := by decide +kernel
theorem dX3_passYear_35 : decode cX3_passYear 35 = .ok (.iload_n 3, 1) := by decide +kernel
theorem dX3_passYear_36 : decode cX3_passYear 36 = .ok (.iadd, 1) := by decide +kernel
theorem dX3_passYear_37 : decode cX3_passYear 37 = .ok (.istore_n 1, 1) := by decide +kernel
theorem dX3_passYear_38 : decode cX3_passYear 38 = .ok (.iinc 2 1, 3) := by decide +kernel
theorem dX3_passYear_41 : decode cX3_passYear 41 = .ok (.goto (-37), 3) := by decide +kernel
theorem dX3_passYear_44 : decode cX3_passYear 44 = .ok (.iconst 0, 1) := by decide +kernel
theorem dX3_passYear_45 : decode cX3_passYear 45 = .ok (.istore_n 2, 1) := by decide +kernel
theorem dX3_passYear_46 : decode cX3_passYear 46 = .ok (.iload_n 2, 1) := by decide +kernel
theorem dX3_passYear_47 : decode cX3_passYear 47 = .ok (.bipush 12, 2) := by decide +kernel
theorem dX3_passYear_49 : decode cX3_passYear 49 = .ok (.if_icmp .ge 68, 3) := by decide +kernel
theorem dX3_passYear_52 : decode cX3_passYear 52 = .ok (.aload_n 0, 1) := by decide +kernel
theorem dX3_passYear_53 : decode cX3_passYear 53 = .ok (.getfield 9, 3) := by decide +kernel
theorem dX3_passYear_56 : decode cX3_passYear 56 = .ok (.iconst 0, 1) := by decide +kernel
theorem dX3_passYear_57 : decode cX3_passYear 57 = .ok (.iload_n 2, 1) := by decide +kernel
theorem dX3_passYear_58 : decode cX3_passYear 58 = .ok (.iadd, 1) := by decide +kernel
theorem dX3_passYear_59 : decode cX3_passYear 59 = .ok (.iaload, 1) := by decide +kernel
theorem dX3_passYear_60 : decode cX3_passYear 60 = .ok (.iconst (-1), 1) := by decide +kernel
theorem dX3_passYear_61 : decode cX3_passYear 61 = .ok (.if_icmp .eq 50, 3) := by decide +kernel
theorem dX3_passYear_64 : decode cX3_passYear 64 = .ok (.aload_n 0, 1) := by decide +kernel
theorem dX3_passYear_65 : decode cX3_passYear 65 = .ok (.getfield 9, 3) := by decide +kernel
theorem dX3_passYear_68 : decode cX3_passYear 68 = .ok (.bipush 12, 2) := by decide +kernel
theorem dX3_passYear_70 : decode cX3_passYear 70 = .ok (.iload_n 2, 1) := by decide +kernel
theorem dX3_passYear_71 : decode cX3_passYear 71 = .ok (.iadd, 1) := by decide +kernel
theorem dX3_passYear_72 : decode cX3_passYear 72 = .ok (.iaload, 1) := by decide +kernel
theorem dX3_passYear_73 : decode cX3_passYear 73 = .ok (.aload_n 0, 1) := by decide +kernel
theorem dX3_passYear_74 : decode cX3_passYear 74 = .ok (.getfield 9, 3) := by decide +kernel
theorem dX3_passYear_77 : decode cX3_passYear 77 = .ok (.bipush 24, 2) := by decide +kernel
theorem dX3_passYear_79 : decode cX3_passYear 79 = .ok (.iload_n 2, 1) := by decide +kernel
theorem dX3_passYear_80 : decode cX3_passYear 80 = .ok (.iadd, 1) := by decide +kernel
theorem dX3_passYear_81 : decode cX3_passYear 81 = .ok (.iaload, 1) := by decide +kernel
theorem dX3_passYear_82 : decode cX3_passYear 82 = .ok (.if_icmp .ge 29, 3) := by decide +kernel
theorem dX3_passYear_85 : decode cX3_passYear 85 = .ok (.aload_n 0, 1) := by decide +kernel
theorem dX3_passYear_86 : decode cX3_passYear 86 = .ok (.getfield 9, 3) := by decide +kernel
theorem dX3_passYear_89 : decode cX3_passYear 89 = .ok (.bipush 12, 2) := by decide +kernel
theorem dX3_passYear_91 : decode cX3_passYear 91 = .ok (.iload_n 2, 1) := by decide +kernel
theorem dX3_passYear_92 : decode cX3_passYear 92 = .ok (.iadd, 1) := by decide +kernel
theorem dX3_passYear_93 : decode cX3_passYear 93 = .ok (.dup2, 1) := by decide +kernel
theorem dX3_passYear_94 : decode cX3_passYear 94 = .ok (.iaload, 1) := by decide +kernel
theorem dX3_passYear_95 : decode cX3_passYear 95 = .ok (.iconst 1, 1) := by decide +kernel
theorem dX3_passYear_96 : decode cX3_passYear 96 = .ok (.iadd, 1) := by decide +kernel
theorem dX3_passYear_97 : decode cX3_passYear 97 = .ok (.iastore, 1) := by decide +kernel
theorem dX3_passYear_98 : decode cX3_passYear 98 = .ok (.aload_n 0, 1) := by decide +kernel
theorem dX3_passYear_99 : decode cX3_passYear 99 = .ok (.aload_n 0, 1) := by decide +kernel
theorem dX3_passYear_100 : decode cX3_passYear 100 = .ok (.getfield 9, 3) := by decide +kernel
theorem dX3_passYear_103 : decode cX3_passYear 103 = .ok (.iconst 0, 1) := by decide +kernel
theorem dX3_passYear_104 : decode cX3_passYear 104 = .ok (.iload_n 2, 1) := by decide +kernel
theorem dX3_passYear_105 : decode cX3_passYear 105 = .ok (.iadd, 1) := by decide +kernel
theorem dX3_passYear_106 : decode cX3_passYear 106 = .ok (.iaload, 1) := by decide +kernel
theorem dX3_passYear_107 : decode cX3_passYear 107 = .ok (.iconst 1, 1) := by decide +kernel
theorem dX3_passYear_108 : decode cX3_passYear 108 = .ok (.invokevirtual 40, 3) := by decide +kernel
theorem dX3_passYear_111 : decode cX3_passYear 111 = .ok (.iinc 2 1, 3) := by decide +kernel
theorem dX3_passYear_114 : decode cX3_passYear 114 = .ok (.goto (-68), 3) := by decide +kernel
theorem dX3_passYear_117 : decode cX3_passYear 117 = .ok (.aload_n 0, 1) := by decide +kernel
theorem dX3_passYear_118 : decode cX3_passYear 118 = .ok (.getfield 9, 3) := by decide +kernel
theorem dX3_passYear_121 : decode cX3_passYear 121 = .ok (.bipush 61, 2) := by decide +kernel
theorem dX3_passYear_123 : decode cX3_passYear 123 = .ok (.dup2, 1) := by decide +kernel
theorem dX3_passYear_124 : decode cX3_passYear 124 = .ok (.iaload, 1) := by decide +kernel
theorem dX3_passYear_125 : decode cX3_passYear 125 = .ok (.iconst 1, 1) := by decide +kernel
theorem dX3_passYear_126 : decode cX3_passYear 126 = .ok (.iadd, 1) := by decide +kernel
theorem dX3_passYear_127 : decode cX3_passYear 127 = .ok (.iastore, 1) := by decide +kernel
theorem dX3_passYear_128 : decode cX3_passYear 128 = .ok (.aload_n 0, 1) := by decide +kernel
theorem dX3_passYear_129 : decode cX3_passYear 129 = .ok (.aload_n 0, 1) := by decide +kernel
theorem dX3_passYear_130 : decode cX3_passYear 130 = .ok (.getfield 27, 3) := by decide +kernel
theorem dX3_passYear_133 : decode cX3_passYear 133 = .ok (.aload_n 0, 1) := by decide +kernel
theorem dX3_passYear_134 : decode cX3_passYear 134 = .ok (.getfield 9, 3) := by decide +kernel
theorem dX3_passYear_137 : decode cX3_passYear 137 = .ok (.bipush 61, 2) := by decide +kernel
theorem dX3_passYear_139 : decode cX3_passYear 139 = .ok (.iaload, 1) := by decide +kernel
theorem dX3_passYear_140 : decode cX3_passYear 140 = .ok (.invokevirtual 51, 3) := by decide +kernel
theorem dX3_passYear_143 : decode cX3_passYear 143 = .ok (.putfield 55, 3) := by decide +kernel
theorem dX3_passYear_146 : decode cX3_passYear 146 = .ok (.iload_n 1, 1) := by decide +kernel
theorem dX3_passYear_147 : decode cX3_passYear 147 = .ok (.ireturn, 1) := by decide +kernel
theorem dX3_taxBy_0 : decode cX3_taxBy 0 = .ok (.iload_n 1, 1) := by decide +kernel
theorem dX3_taxBy_1 : decode cX3_taxBy 1 = .ok (.ifCond .lt 14, 3) := by decide +kernel
theorem dX3_taxBy_4 : decode cX3_taxBy 4 = .ok (.iload_n 1, 1) := by decide +kernel
theorem dX3_taxBy_5 : decode cX3_taxBy 5 = .ok (.aload_n 0, 1) := by decide +kernel
theorem dX3_taxBy_6 : decode cX3_taxBy 6 = .ok (.getfield 27, 3) := by decide +kernel
theorem dX3_taxBy_9 : decode cX3_taxBy 9 = .ok (.getfield 156, 3) := by decide +kernel
theorem dX3_taxBy_12 : decode cX3_taxBy 12 = .ok (.if_icmp .lt 8, 3) := by decide +kernel
theorem dX3_taxBy_15 : decode cX3_taxBy 15 = .ok (.aload_n 0, 1) := by decide +kernel
theorem dX3_taxBy_16 : decode cX3_taxBy 16 = .ok (.getfield 85, 3) := by decide +kernel
theorem dX3_taxBy_19 : decode cX3_taxBy 19 = .ok (.ireturn, 1) := by decide +kernel
theorem dX3_taxBy_20 : decode cX3_taxBy 20 = .ok (.iconst 0, 1) := by decide +kernel
theorem dX3_taxBy_21 : decode cX3_taxBy 21 = .ok (.istore_n 2, 1) := by decide +kernel
theorem dX3_taxBy_22 : decode cX3_taxBy 22 = .ok (.aload_n 0, 1) := by decide +kernel
theorem dX3_taxBy_23 : decode cX3_taxBy 23 = .ok (.getfield 27, 3) := by decide +kernel
theorem dX3_taxBy_26 : decode cX3_taxBy 26 = .ok (.getfield 159, 3) := by decide +kernel
theorem dX3_taxBy_29 : decode cX3_taxBy 29 = .ok (.iload_n 1, 1) := by decide +kernel
theorem dX3_taxBy_30 : decode cX3_taxBy 30 = .ok (.iaload, 1) := by decide +kernel
theorem dX3_taxBy_31 : decode cX3_taxBy 31 = .ok (.aload_n 0, 1) := by decide +kernel
theorem dX3_taxBy_32 : decode cX3_taxBy 32 = .ok (.getfield 27, 3) := by decide +kernel
theorem dX3_taxBy_35 : decode cX3_taxBy 35 = .ok (.getfield 162, 3) := by decide +kernel
theorem dX3_taxBy_38 : decode cX3_taxBy 38 = .ok (.arraylength, 1) := by decide +kernel
theorem dX3_taxBy_39 : decode cX3_taxBy 39 = .ok (.invokestatic 153, 3) := by decide +kernel
theorem dX3_taxBy_42 : decode cX3_taxBy 42 = .ok (.istore_n 3, 1) := by decide +kernel
theorem dX3_taxBy_43 : decode cX3_taxBy 43 = .ok (.iload_n 1, 1) := by decide +kernel
theorem dX3_taxBy_44 : decode cX3_taxBy 44 = .ok (.ifCond .ne 7, 3) := by decide +kernel
theorem dX3_taxBy_47 : decode cX3_taxBy 47 = .ok (.iconst 0, 1) := by decide +kernel
theorem dX3_taxBy_48 : decode cX3_taxBy 48 = .ok (.goto 14, 3) := by decide +kernel
theorem dX3_taxBy_51 : decode cX3_taxBy 51 = .ok (.aload_n 0, 1) := by decide +kernel
theorem dX3_taxBy_52 : decode cX3_taxBy 52 = .ok (.getfield 27, 3) := by decide +kernel
theorem dX3_taxBy_55 : decode cX3_taxBy 55 = .ok (.getfield 159, 3) := by decide +kernel
theorem dX3_taxBy_58 : decode cX3_taxBy 58 = .ok (.iload_n 1, 1) := by decide +kernel
theorem dX3_taxBy_59 : decode cX3_taxBy 59 = .ok (.iconst 1, 1) := by decide +kernel
theorem dX3_taxBy_60 : decode cX3_taxBy 60 = .ok (.isub, 1) := by decide +kernel
theorem dX3_taxBy_61 : decode cX3_taxBy 61 = .ok (.iaload, 1) := by decide +kernel
theorem dX3_taxBy_62 : decode cX3_taxBy 62 = .ok (.istore 4, 2) := by decide +kernel
theorem dX3_taxBy_64 : decode cX3_taxBy 64 = .ok (.iload 4, 2) := by decide +kernel
theorem dX3_taxBy_66 : decode cX3_taxBy 66 = .ok (.iload_n 3, 1) := by decide +kernel
theorem dX3_taxBy_67 : decode cX3_taxBy 67 = .ok (.if_icmp .ge 150, 3) := by decide +kernel
theorem dX3_taxBy_70 : decode cX3_taxBy 70 = .ok (.aload_n 0, 1) := by decide +kernel
theorem dX3_taxBy_71 : decode cX3_taxBy 71 = .ok (.getfield 27, 3) := by decide +kernel
theorem dX3_taxBy_74 : decode cX3_taxBy 74 = .ok (.getfield 162, 3) := by decide +kernel
theorem dX3_taxBy_77 : decode cX3_taxBy 77 = .ok (.iload 4, 2) := by decide +kernel
theorem dX3_taxBy_79 : decode cX3_taxBy 79 = .ok (.iaload, 1) := by decide +kernel
theorem dX3_taxBy_80 : decode cX3_taxBy 80 = .ok (.istore 5, 2) := by decide +kernel
theorem dX3_taxBy_82 : decode cX3_taxBy 82 = .ok (.iload 5, 2) := by decide +kernel
theorem dX3_taxBy_84 : decode cX3_taxBy 84 = .ok (.bipush 20, 2) := by decide +kernel
theorem dX3_taxBy_86 : decode cX3_taxBy 86 = .ok (.if_icmp .lt 45, 3) := by decide +kernel
theorem dX3_taxBy_89 : decode cX3_taxBy 89 = .ok (.iload_n 2, 1) := by decide +kernel
theorem dX3_taxBy_90 : decode cX3_taxBy 90 = .ok (.aload_n 0, 1) := by decide +kernel
theorem dX3_taxBy_91 : decode cX3_taxBy 91 = .ok (.getfield 24, 3) := by decide +kernel
theorem dX3_taxBy_94 : decode cX3_taxBy 94 = .ok (.arraylength, 1) := by decide +kernel
theorem dX3_taxBy_95 : decode cX3_taxBy 95 = .ok (.if_icmp .ge 36, 3) := by decide +kernel
theorem dX3_taxBy_98 : decode cX3_taxBy 98 = .ok (.aload_n 0, 1) := by decide +kernel
theorem dX3_taxBy_99 : decode cX3_taxBy 99 = .ok (.getfield 24, 3) := by decide +kernel
theorem dX3_taxBy_102 : decode cX3_taxBy 102 = .ok (.iload_n 2, 1) := by decide +kernel
theorem dX3_taxBy_103 : decode cX3_taxBy 103 = .ok (.iload 5, 2) := by decide +kernel
theorem dX3_taxBy_105 : decode cX3_taxBy 105 = .ok (.bipush 100, 2) := by decide +kernel
theorem dX3_taxBy_107 : decode cX3_taxBy 107 = .ok (.if_icmp .lt 11, 3) := by decide +kernel
theorem dX3_taxBy_110 : decode cX3_taxBy 110 = .ok (.iload 5, 2) := by decide +kernel
theorem dX3_taxBy_112 : decode cX3_taxBy 112 = .ok (.bipush 100, 2) := by decide +kernel
theorem dX3_taxBy_114 : decode cX3_taxBy 114 = .ok (.isub, 1) := by decide +kernel
theorem dX3_taxBy_115 : decode cX3_taxBy 115 = .ok (.goto 9, 3) := by decide +kernel
theorem dX3_taxBy_118 : decode cX3_taxBy 118 = .ok (.aload_n 0, 1) := by decide +kernel
theorem dX3_taxBy_119 : decode cX3_taxBy 119 = .ok (.iload 5, 2) := by decide +kernel
theorem dX3_taxBy_121 : decode cX3_taxBy 121 = .ok (.invokevirtual 165, 3) := by decide +kernel
theorem dX3_taxBy_124 : decode cX3_taxBy 124 = .ok (.iastore, 1) := by decide +kernel
theorem dX3_taxBy_125 : decode cX3_taxBy 125 = .ok (.iinc 2 1, 3) := by decide +kernel
theorem dX3_taxBy_128 : decode cX3_taxBy 128 = .ok (.goto 83, 3) := by decide +kernel
theorem dX3_taxBy_131 : decode cX3_taxBy 131 = .ok (.iload 5, 2) := by decide +kernel
theorem dX3_taxBy_133 : decode cX3_taxBy 133 = .ok (.iconst 3, 1) := by decide +kernel
theorem dX3_taxBy_134 : decode cX3_taxBy 134 = .ok (.if_icmp .ne 35, 3) := by decide +kernel
theorem dX3_taxBy_137 : decode cX3_taxBy 137 = .ok (.iload_n 2, 1) := by decide +kernel
theorem dX3_taxBy_138 : decode cX3_taxBy 138 = .ok (.iconst 1, 1) := by decide +kernel
theorem dX3_taxBy_139 : decode cX3_taxBy 139 = .ok (.if_icmp .lt 30, 3) := by decide +kernel
theorem dX3_taxBy_142 : decode cX3_taxBy 142 = .ok (.aload_n 0, 1) := by decide +kernel
theorem dX3_taxBy_143 : decode cX3_taxBy 143 = .ok (.getfield 24, 3) := by decide +kernel
theorem dX3_taxBy_146 : decode cX3_taxBy 146 = .ok (.iload_n 2, 1) := by decide +kernel
theorem dX3_taxBy_147 : decode cX3_taxBy 147 = .ok (.iconst 1, 1) := by decide +kernel
theorem dX3_taxBy_148 : decode cX3_taxBy 148 = .ok (.isub, 1) := by decide +kernel
theorem dX3_taxBy_149 : decode cX3_taxBy 149 = .ok (.aload_n 0, 1) := by decide +kernel
theorem dX3_taxBy_150 : decode cX3_taxBy 150 = .ok (.getfield 24, 3) := by decide +kernel
theorem dX3_taxBy_153 : decode cX3_taxBy 153 = .ok (.iload_n 2, 1) := by decide +kernel
theorem dX3_taxBy_154 : decode cX3_taxBy 154 = .ok (.iconst 1, 1) := by decide +kernel
theorem dX3_taxBy_155 : decode cX3_taxBy 155 = .ok (.isub, 1) := by decide +kernel
theorem dX3_taxBy_156 : decode cX3_taxBy 156 = .ok (.iaload, 1) := by decide +kernel
theorem dX3_taxBy_157 : decode cX3_taxBy 157 = .ok (.ifCond .ne 7, 3) := by decide +kernel
theorem dX3_taxBy_160 : decode cX3_taxBy 160 = .ok (.iconst 1, 1) := by decide +kernel
theorem dX3_taxBy_161 : decode cX3_taxBy 161 = .ok (.goto 4, 3) := by decide +kernel
theorem dX3_taxBy_164 : decode cX3_taxBy 164 = .ok (.iconst 0, 1) := by decide +kernel
theorem dX3_taxBy_165 : decode cX3_taxBy 165 = .ok (.iastore, 1) := by decide +kernel
theorem dX3_taxBy_166 : decode cX3_taxBy 166 = .ok (.goto 45, 3) := by decide +kernel
theorem dX3_taxBy_169 : decode cX3_taxBy 169 = .ok (.iload 5, 2) := by decide +kernel
theorem dX3_taxBy_171 : decode cX3_taxBy 171 = .ok (.bipush 20, 2) := by decide +kernel
theorem dX3_taxBy_173 : decode cX3_taxBy 173 = .ok (.if_icmp .ge 38, 3) := by decide +kernel
theorem dX3_taxBy_176 : decode cX3_taxBy 176 = .ok (.iload_n 2, 1) := by decide +kernel
theorem dX3_taxBy_177 : decode cX3_taxBy 177 = .ok (.iconst 2, 1) := by decide +kernel
theorem dX3_taxBy_178 : decode cX3_taxBy 178 = .ok (.if_icmp .lt 33, 3) := by decide +kernel
theorem dX3_taxBy_181 : decode cX3_taxBy 181 = .ok (.iinc 2 (-1), 3) := by decide +kernel
theorem dX3_taxBy_184 : decode cX3_taxBy 184 = .ok (.aload_n 0, 1) := by decide +kernel
theorem dX3_taxBy_185 : decode cX3_taxBy 185 = .ok (.getfield 24, 3) := by decide +kernel
theorem dX3_taxBy_188 : decode cX3_taxBy 188 = .ok (.iload_n 2, 1) := by decide +kernel
theorem dX3_taxBy_189 : decode cX3_taxBy 189 = .ok (.iconst 1, 1) := by decide +kernel
theorem dX3_taxBy_190 : decode cX3_taxBy 190 = .ok (.isub, 1) := by decide +kernel
theorem dX3_taxBy_191 : decode cX3_taxBy 191 = .ok (.iload 5, 2) := by decide +kernel
theorem dX3_taxBy_193 : decode cX3_taxBy 193 = .ok (.aload_n 0, 1) := by decide +kernel
theorem dX3_taxBy_194 : decode cX3_taxBy 194 = .ok (.getfield 24, 3) := by decide +kernel
theorem dX3_taxBy_197 : decode cX3_taxBy 197 = .ok (.iload_n 2, 1) := by decide +kernel
theorem dX3_taxBy_198 : decode cX3_taxBy 198 = .ok (.iconst 1, 1) := by decide +kernel
theorem dX3_taxBy_199 : decode cX3_taxBy 199 = .ok (.isub, 1) := by decide +kernel
theorem dX3_taxBy_200 : decode cX3_taxBy 200 = .ok (.iaload, 1) := by decide +kernel
theorem dX3_taxBy_201 : decode cX3_taxBy 201 = .ok (.aload_n 0, 1) := by decide +kernel
theorem dX3_taxBy_202 : decode cX3_taxBy 202 = .ok (.getfield 24, 3) := by decide +kernel
theorem dX3_taxBy_205 : decode cX3_taxBy 205 = .ok (.iload_n 2, 1) := by decide +kernel
theorem dX3_taxBy_206 : decode cX3_taxBy 206 = .ok (.iaload, 1) := by decide +kernel
theorem dX3_taxBy_207 : decode cX3_taxBy 207 = .ok (.invokestatic 168, 3) := by decide +kernel
theorem dX3_taxBy_210 : decode cX3_taxBy 210 = .ok (.iastore, 1) := by decide +kernel
theorem dX3_taxBy_211 : decode cX3_taxBy 211 = .ok (.iinc 4 1, 3) := by decide +kernel
theorem dX3_taxBy_214 : decode cX3_taxBy 214 = .ok (.goto (-150), 3) := by decide +kernel
theorem dX3_taxBy_217 : decode cX3_taxBy 217 = .ok (.iload_n 2, 1) := by decide +kernel
theorem dX3_taxBy_218 : decode cX3_taxBy 218 = .ok (.ifCond .le 22, 3) := by decide +kernel
theorem dX3_taxBy_221 : decode cX3_taxBy 221 = .ok (.iconst 0, 1) := by decide +kernel
theorem dX3_taxBy_222 : decode cX3_taxBy 222 = .ok (.sipush 999, 3) := by decide +kernel
theorem dX3_taxBy_225 : decode cX3_taxBy 225 = .ok (.aload_n 0, 1) := by decide +kernel
theorem dX3_taxBy_226 : decode cX3_taxBy 226 = .ok (.getfield 24, 3) := by decide +kernel
theorem dX3_taxBy_229 : decode cX3_taxBy 229 = .ok (.iconst 0, 1) := by decide +kernel
theorem dX3_taxBy_230 : decode cX3_taxBy 230 = .ok (.iaload, 1) := by decide +kernel
theorem dX3_taxBy_231 : decode cX3_taxBy 231 = .ok (.invokestatic 153, 3) := by decide +kernel
theorem dX3_taxBy_234 : decode cX3_taxBy 234 = .ok (.invokestatic 105, 3) := by decide +kernel
theorem dX3_taxBy_237 : decode cX3_taxBy 237 = .ok (.goto 4, 3) := by decide +kernel
theorem dX3_taxBy_240 : decode cX3_taxBy 240 = .ok (.iconst 0, 1) := by decide +kernel
theorem dX3_taxBy_241 : decode cX3_taxBy 241 = .ok (.ireturn, 1) := by decide +kernel
theorem dX3_valueOf_0 : decode cX3_valueOf 0 = .ok (.iload_n 1, 1) := by decide +kernel
theorem dX3_valueOf_1 : decode cX3_valueOf 1 = .ok (.tableswitch 80 20 25 #[39, 44, 49, 59, 64, 72], 39) := by decide +kernel
theorem dX3_valueOf_40 : decode cX3_valueOf 40 = .ok (.aload_n 0, 1) := by decide +kernel
theorem dX3_valueOf_41 : decode cX3_valueOf 41 = .ok (.getfield 85, 3) := by decide +kernel
theorem dX3_valueOf_44 : decode cX3_valueOf 44 = .ok (.ireturn, 1) := by decide +kernel
theorem dX3_valueOf_45 : decode cX3_valueOf 45 = .ok (.aload_n 0, 1) := by decide +kernel
theorem dX3_valueOf_46 : decode cX3_valueOf 46 = .ok (.getfield 88, 3) := by decide +kernel
theorem dX3_valueOf_49 : decode cX3_valueOf 49 = .ok (.ireturn, 1) := by decide +kernel
theorem dX3_valueOf_50 : decode cX3_valueOf 50 = .ok (.aload_n 0, 1) := by decide +kernel
theorem dX3_valueOf_51 : decode cX3_valueOf 51 = .ok (.getfield 15, 3) := by decide +kernel
theorem dX3_valueOf_54 : decode cX3_valueOf 54 = .ok (.aload_n 0, 1) := by decide +kernel
theorem dX3_valueOf_55 : decode cX3_valueOf 55 = .ok (.getfield 76, 3) := by decide +kernel
theorem dX3_valueOf_58 : decode cX3_valueOf 58 = .ok (.iaload, 1) := by decide +kernel
theorem dX3_valueOf_59 : decode cX3_valueOf 59 = .ok (.ireturn, 1) := by decide +kernel
theorem dX3_valueOf_60 : decode cX3_valueOf 60 = .ok (.aload_n 0, 1) := by decide +kernel
theorem dX3_valueOf_61 : decode cX3_valueOf 61 = .ok (.getfield 79, 3) := by decide +kernel
theorem dX3_valueOf_64 : decode cX3_valueOf 64 = .ok (.ireturn, 1) := by decide +kernel
theorem dX3_valueOf_65 : decode cX3_valueOf 65 = .ok (.aload_n 0, 1) := by decide +kernel
theorem dX3_valueOf_66 : decode cX3_valueOf 66 = .ok (.getfield 9, 3) := by decide +kernel
theorem dX3_valueOf_69 : decode cX3_valueOf 69 = .ok (.bipush 61, 2) := by decide +kernel
theorem dX3_valueOf_71 : decode cX3_valueOf 71 = .ok (.iaload, 1) := by decide +kernel
theorem dX3_valueOf_72 : decode cX3_valueOf 72 = .ok (.ireturn, 1) := by decide +kernel
theorem dX3_valueOf_73 : decode cX3_valueOf 73 = .ok (.aload_n 0, 1) := by decide +kernel
theorem dX3_valueOf_74 : decode cX3_valueOf 74 = .ok (.invokevirtual 127, 3) := by decide +kernel
theorem dX3_valueOf_77 : decode cX3_valueOf 77 = .ok (.invokestatic 172, 3) := by decide +kernel
theorem dX3_valueOf_80 : decode cX3_valueOf 80 = .ok (.ireturn, 1) := by decide +kernel
theorem dX3_valueOf_81 : decode cX3_valueOf 81 = .ok (.aload_n 0, 1) := by decide +kernel
theorem dX3_valueOf_82 : decode cX3_valueOf 82 = .ok (.getfield 82, 3) := by decide +kernel
theorem dX3_valueOf_85 : decode cX3_valueOf 85 = .ok (.ireturn, 1) := by decide +kernel
theorem dX3_together_0 : decode cX3_together 0 = .ok (.iload_n 0, 1) := by decide +kernel
theorem dX3_together_1 : decode cX3_together 1 = .ok (.tableswitch 109 1 8 #[47, 61, 109, 75, 86, 97, 101, 105], 47) := by decide +kernel
theorem dX3_together_48 : decode cX3_together 48 = .ok (.iload_n 1, 1) := by decide +kernel
theorem dX3_together_49 : decode cX3_together 49 = .ok (.ifCond .ne 7, 3) := by decide +kernel
theorem dX3_together_52 : decode cX3_together 52 = .ok (.iload_n 2, 1) := by decide +kernel
theorem dX3_together_53 : decode cX3_together 53 = .ok (.ifCond .eq 7, 3) := by decide +kernel
theorem dX3_together_56 : decode cX3_together 56 = .ok (.iconst 1, 1) := by decide +kernel
theorem dX3_together_57 : decode cX3_together 57 = .ok (.goto 4, 3) := by decide +kernel
theorem dX3_together_60 : decode cX3_together 60 = .ok (.iconst 0, 1) := by decide +kernel
theorem dX3_together_61 : decode cX3_together 61 = .ok (.ireturn, 1) := by decide +kernel
theorem dX3_together_62 : decode cX3_together 62 = .ok (.iload_n 1, 1) := by decide +kernel
theorem dX3_together_63 : decode cX3_together 63 = .ok (.ifCond .eq 11, 3) := by decide +kernel
theorem dX3_together_66 : decode cX3_together 66 = .ok (.iload_n 2, 1) := by decide +kernel
theorem dX3_together_67 : decode cX3_together 67 = .ok (.ifCond .eq 7, 3) := by decide +kernel
theorem dX3_together_70 : decode cX3_together 70 = .ok (.iconst 1, 1) := by decide +kernel
theorem dX3_together_71 : decode cX3_together 71 = .ok (.goto 4, 3) := by decide +kernel
theorem dX3_together_74 : decode cX3_together 74 = .ok (.iconst 0, 1) := by decide +kernel
theorem dX3_together_75 : decode cX3_together 75 = .ok (.ireturn, 1) := by decide +kernel
theorem dX3_together_76 : decode cX3_together 76 = .ok (.iload_n 1, 1) := by decide +kernel
theorem dX3_together_77 : decode cX3_together 77 = .ok (.iload_n 2, 1) := by decide +kernel
theorem dX3_together_78 : decode cX3_together 78 = .ok (.if_icmp .ge 7, 3) := by decide +kernel
theorem dX3_together_81 : decode cX3_together 81 = .ok (.iconst 1, 1) := by decide +kernel
theorem dX3_together_82 : decode cX3_together 82 = .ok (.goto 4, 3) := by decide +kernel
theorem dX3_together_85 : decode cX3_together 85 = .ok (.iconst 0, 1) := by decide +kernel
theorem dX3_together_86 : decode cX3_together 86 = .ok (.ireturn, 1) := by decide +kernel
theorem dX3_together_87 : decode cX3_together 87 = .ok (.iload_n 1, 1) := by decide +kernel
theorem dX3_together_88 : decode cX3_together 88 = .ok (.iload_n 2, 1) := by decide +kernel
theorem dX3_together_89 : decode cX3_together 89 = .ok (.if_icmp .ne 7, 3) := by decide +kernel
theorem dX3_together_92 : decode cX3_together 92 = .ok (.iconst 1, 1) := by decide +kernel
theorem dX3_together_93 : decode cX3_together 93 = .ok (.goto 4, 3) := by decide +kernel
theorem dX3_together_96 : decode cX3_together 96 = .ok (.iconst 0, 1) := by decide +kernel
theorem dX3_together_97 : decode cX3_together 97 = .ok (.ireturn, 1) := by decide +kernel
theorem dX3_together_98 : decode cX3_together 98 = .ok (.iload_n 1, 1) := by decide +kernel
theorem dX3_together_99 : decode cX3_together 99 = .ok (.iload_n 2, 1) := by decide +kernel
theorem dX3_together_100 : decode cX3_together 100 = .ok (.iadd, 1) := by decide +kernel
theorem dX3_together_101 : decode cX3_together 101 = .ok (.ireturn, 1) := by decide +kernel
theorem dX3_together_102 : decode cX3_together 102 = .ok (.iload_n 1, 1) := by decide +kernel
theorem dX3_together_103 : decode cX3_together 103 = .ok (.iload_n 2, 1) := by decide +kernel
theorem dX3_together_104 : decode cX3_together 104 = .ok (.isub, 1) := by decide +kernel
theorem dX3_together_105 : decode cX3_together 105 = .ok (.ireturn, 1) := by decide +kernel
theorem dX3_together_106 : decode cX3_together 106 = .ok (.iload_n 1, 1) := by decide +kernel
theorem dX3_together_107 : decode cX3_together 107 = .ok (.iload_n 2, 1) := by decide +kernel
theorem dX3_together_108 : decode cX3_together 108 = .ok (.imul, 1) := by decide +kernel
theorem dX3_together_109 : decode cX3_together 109 = .ok (.ireturn, 1) := by decide +kernel
theorem dX3_together_110 : decode cX3_together 110 = .ok (.iload_n 2, 1) := by decide +kernel
theorem dX3_together_111 : decode cX3_together 111 = .ok (.ifCond .ne 7, 3) := by decide +kernel
theorem dX3_together_114 : decode cX3_together 114 = .ok (.iconst 0, 1) := by decide +kernel
theorem dX3_together_115 : decode cX3_together 115 = .ok (.goto 6, 3) := by decide +kernel
theorem dX3_together_118 : decode cX3_together 118 = .ok (.iload_n 1, 1) := by decide +kernel
theorem dX3_together_119 : decode cX3_together 119 = .ok (.iload_n 2, 1) := by decide +kernel
theorem dX3_together_120 : decode cX3_together 120 = .ok (.idiv, 1) := by decide +kernel
theorem dX3_together_121 : decode cX3_together 121 = .ok (.ireturn, 1) := by decide +kernel
theorem dX4_init_0 : decode cX4_init 0 = .ok (.aload_n 0, 1) := by decide +kernel
theorem dX4_init_1 : decode cX4_init 1 = .ok (.invokespecial 3, 3) := by decide +kernel
theorem dX4_init_4 : decode cX4_init 4 = .ok (.aload_n 0, 1) := by decide +kernel
theorem dX4_init_5 : decode cX4_init 5 = .ok (.bipush 6, 2) := by decide +kernel
theorem dX4_init_7 : decode cX4_init 7 = .ok (.newarray .int, 2) := by decide +kernel
theorem dX4_init_9 : decode cX4_init 9 = .ok (.putfield 9, 3) := by decide +kernel
theorem dX4_init_12 : decode cX4_init 12 = .ok (.aload_n 0, 1) := by decide +kernel
theorem dX4_init_13 : decode cX4_init 13 = .ok (.bipush 6, 2) := by decide +kernel
theorem dX4_init_15 : decode cX4_init 15 = .ok (.newarray .int, 2) := by decide +kernel
theorem dX4_init_17 : decode cX4_init 17 = .ok (.putfield 15, 3) := by decide +kernel
theorem dX4_init_20 : decode cX4_init 20 = .ok (.aload_n 0, 1) := by decide +kernel
theorem dX4_init_21 : decode cX4_init 21 = .ok (.aload_n 1, 1) := by decide +kernel
theorem dX4_init_22 : decode cX4_init 22 = .ok (.putfield 18, 3) := by decide +kernel
theorem dX4_init_25 : decode cX4_init 25 = .ok (.return_, 1) := by decide +kernel
theorem dX4_find_0 : decode cX4_find 0 = .ok (.aload_n 0, 1) := by decide +kernel
theorem dX4_find_1 : decode cX4_find 1 = .ok (.aload_n 1, 1) := by decide +kernel
theorem dX4_find_2 : decode cX4_find 2 = .ok (.putfield 18, 3) := by decide +kernel
theorem dX4_find_5 : decode cX4_find 5 = .ok (.aload_n 0, 1) := by decide +kernel
theorem dX4_find_6 : decode cX4_find 6 = .ok (.sipush 1000, 3) := by decide +kernel
theorem dX4_find_9 : decode cX4_find 9 = .ok (.putfield 22, 3) := by decide +kernel
theorem dX4_find_12 : decode cX4_find 12 = .ok (.aload_n 0, 1) := by decide +kernel
theorem dX4_find_13 : decode cX4_find 13 = .ok (.aload_n 1, 1) := by decide +kernel
theorem dX4_find_14 : decode cX4_find 14 = .ok (.getfield 26, 3) := by decide +kernel
theorem dX4_find_17 : decode cX4_find 17 = .ok (.putfield 31, 3) := by decide +kernel
theorem dX4_find_20 : decode cX4_find 20 = .ok (.aload_n 0, 1) := by decide +kernel
theorem dX4_find_21 : decode cX4_find 21 = .ok (.iload_n 2, 1) := by decide +kernel
theorem dX4_find_22 : decode cX4_find 22 = .ok (.iconst 0, 1) := by decide +kernel
theorem dX4_find_23 : decode cX4_find 23 = .ok (.iconst 0, 1) := by decide +kernel
theorem dX4_find_24 : decode cX4_find 24 = .ok (.iconst 0, 1) := by decide +kernel
theorem dX4_find_25 : decode cX4_find 25 = .ok (.invokevirtual 34, 3) := by decide +kernel
theorem dX4_find_28 : decode cX4_find 28 = .ok (.aload_n 0, 1) := by decide +kernel
theorem dX4_find_29 : decode cX4_find 29 = .ok (.getfield 22, 3) := by decide +kernel
theorem dX4_find_32 : decode cX4_find 32 = .ok (.ireturn, 1) := by decide +kernel
theorem dX4_goOn_0 : decode cX4_goOn 0 = .ok (.iload_n 2, 1) := by decide +kernel
theorem dX4_goOn_1 : decode cX4_goOn 1 = .ok (.aload_n 0, 1) := by decide +kernel
theorem dX4_goOn_2 : decode cX4_goOn 2 = .ok (.getfield 22, 3) := by decide +kernel
theorem dX4_goOn_5 : decode cX4_goOn 5 = .ok (.if_icmp .ge 10, 3) := by decide +kernel
theorem dX4_goOn_8 : decode cX4_goOn 8 = .ok (.iload 4, 2) := by decide +kernel
theorem dX4_goOn_10 : decode cX4_goOn 10 = .ok (.bipush 6, 2) := by decide +kernel
theorem dX4_goOn_12 : decode cX4_goOn 12 = .ok (.if_icmp .le 4, 3) := by decide +kernel
theorem dX4_goOn_15 : decode cX4_goOn 15 = .ok (.return_, 1) := by decide +kernel
theorem dX4_goOn_16 : decode cX4_goOn 16 = .ok (.iload 4, 2) := by decide +kernel
theorem dX4_goOn_18 : decode cX4_goOn 18 = .ok (.aload_n 0, 1) := by decide +kernel
theorem dX4_goOn_19 : decode cX4_goOn 19 = .ok (.getfield 18, 3) := by decide +kernel
theorem dX4_goOn_22 : decode cX4_goOn 22 = .ok (.getfield 26, 3) := by decide +kernel
theorem dX4_goOn_25 : decode cX4_goOn 25 = .ok (.if_icmp .ne 24, 3) := by decide +kernel
theorem dX4_goOn_28 : decode cX4_goOn 28 = .ok (.aload_n 0, 1) := by decide +kernel
theorem dX4_goOn_29 : decode cX4_goOn 29 = .ok (.iload_n 2, 1) := by decide +kernel
theorem dX4_goOn_30 : decode cX4_goOn 30 = .ok (.putfield 22, 3) := by decide +kernel
theorem dX4_goOn_33 : decode cX4_goOn 33 = .ok (.aload_n 0, 1) := by decide +kernel
theorem dX4_goOn_34 : decode cX4_goOn 34 = .ok (.getfield 15, 3) := by decide +kernel
theorem dX4_goOn_37 : decode cX4_goOn 37 = .ok (.iconst 0, 1) := by decide +kernel
theorem dX4_goOn_38 : decode cX4_goOn 38 = .ok (.aload_n 0, 1) := by decide +kernel
theorem dX4_goOn_39 : decode cX4_goOn 39 = .ok (.getfield 9, 3) := by decide +kernel
theorem dX4_goOn_42 : decode cX4_goOn 42 = .ok (.iconst 0, 1) := by decide +kernel
theorem dX4_goOn_43 : decode cX4_goOn 43 = .ok (.bipush 6, 2) := by decide +kernel
theorem dX4_goOn_45 : decode cX4_goOn 45 = .ok (.invokestatic 38, 3) := by decide +kernel
theorem dX4_goOn_48 : decode cX4_goOn 48 = .ok (.return_, 1) := by decide +kernel
theorem dX4_goOn_49 : decode cX4_goOn 49 = .ok (.iconst 0, 1) := by decide +kernel
theorem dX4_goOn_50 : decode cX4_goOn 50 = .ok (.istore 5, 2) := by decide +kernel
theorem dX4_goOn_52 : decode cX4_goOn 52 = .ok (.iload 5, 2) := by decide +kernel
theorem dX4_goOn_54 : decode cX4_goOn 54 = .ok (.aload_n 0, 1) := by decide +kernel
theorem dX4_goOn_55 : decode cX4_goOn 55 = .ok (.getfield 18, 3) := by decide +kernel
theorem dX4_goOn_58 : decode cX4_goOn 58 = .ok (.getfield 26, 3) := by decide +kernel
theorem dX4_goOn_61 : decode cX4_goOn 61 = .ok (.if_icmp .ge 65, 3) := by decide +kernel
theorem dX4_goOn_64 : decode cX4_goOn 64 = .ok (.iload_n 3, 1) := by decide +kernel
theorem dX4_goOn_65 : decode cX4_goOn 65 = .ok (.i2l, 1) := by decide +kernel
theorem dX4_goOn_66 : decode cX4_goOn 66 = .ok (.iload 5, 2) := by decide +kernel
theorem dX4_goOn_68 : decode cX4_goOn 68 = .ok (.invokestatic 44, 3) := by decide +kernel
theorem dX4_goOn_71 : decode cX4_goOn 71 = .ok (.ifCond .ne 49, 3) := by decide +kernel
theorem dX4_goOn_74 : decode cX4_goOn 74 = .ok (.aload_n 0, 1) := by decide +kernel
theorem dX4_goOn_75 : decode cX4_goOn 75 = .ok (.getfield 18, 3) := by decide +kernel
theorem dX4_goOn_78 : decode cX4_goOn 78 = .ok (.getfield 48, 3) := by decide +kernel
theorem dX4_goOn_81 : decode cX4_goOn 81 = .ok (.iload 5, 2) := by decide +kernel
theorem dX4_goOn_83 : decode cX4_goOn 83 = .ok (.iaload, 1) := by decide +kernel
theorem dX4_goOn_84 : decode cX4_goOn 84 = .ok (.istore 6, 2) := by decide +kernel
theorem dX4_goOn_86 : decode cX4_goOn 86 = .ok (.aload_n 0, 1) := by decide +kernel
theorem dX4_goOn_87 : decode cX4_goOn 87 = .ok (.getfield 15, 3) := by decide +kernel
theorem dX4_goOn_90 : decode cX4_goOn 90 = .ok (.iload 4, 2) := by decide +kernel
theorem dX4_goOn_92 : decode cX4_goOn 92 = .ok (.iload 5, 2) := by decide +kernel
theorem dX4_goOn_94 : decode cX4_goOn 94 = .ok (.iastore, 1) := by decide +kernel
theorem dX4_goOn_95 : decode cX4_goOn 95 = .ok (.aload_n 0, 1) := by decide +kernel
theorem dX4_goOn_96 : decode cX4_goOn 96 = .ok (.iload 6, 2) := by decide +kernel
theorem dX4_goOn_98 : decode cX4_goOn 98 = .ok (.iload_n 2, 1) := by decide +kernel
theorem dX4_goOn_99 : decode cX4_goOn 99 = .ok (.aload_n 0, 1) := by decide +kernel
theorem dX4_goOn_100 : decode cX4_goOn 100 = .ok (.iload_n 1, 1) := by decide +kernel
theorem dX4_goOn_101 : decode cX4_goOn 101 = .ok (.iload 6, 2) := by decide +kernel
theorem dX4_goOn_103 : decode cX4_goOn 103 = .ok (.invokevirtual 51, 3) := by decide +kernel
theorem dX4_goOn_106 : decode cX4_goOn 106 = .ok (.iadd, 1) := by decide +kernel
theorem dX4_goOn_107 : decode cX4_goOn 107 = .ok (.iload_n 3, 1) := by decide +kernel
theorem dX4_goOn_108 : decode cX4_goOn 108 = .ok (.iconst 1, 1) := by decide +kernel
theorem dX4_goOn_109 : decode cX4_goOn 109 = .ok (.iload 5, 2) := by decide +kernel
theorem dX4_goOn_111 : decode cX4_goOn 111 = .ok (.ishl, 1) := by decide +kernel
theorem dX4_goOn_112 : decode cX4_goOn 112 = .ok (.ior, 1) := by decide +kernel
theorem dX4_goOn_113 : decode cX4_goOn 113 = .ok (.iload 4, 2) := by decide +kernel
theorem dX4_goOn_115 : decode cX4_goOn 115 = .ok (.iconst 1, 1) := by decide +kernel
theorem dX4_goOn_116 : decode cX4_goOn 116 = .ok (.iadd, 1) := by decide +kernel
theorem dX4_goOn_117 : decode cX4_goOn 117 = .ok (.invokevirtual 34, 3) := by decide +kernel
theorem dX4_goOn_120 : decode cX4_goOn 120 = .ok (.iinc 5 1, 3) := by decide +kernel
theorem dX4_goOn_123 : decode cX4_goOn 123 = .ok (.goto (-71), 3) := by decide +kernel
theorem dX4_goOn_126 : decode cX4_goOn 126 = .ok (.return_, 1) := by decide +kernel
theorem dX4_stepsBetween_0 : decode cX4_stepsBetween 0 = .ok (.aload_n 0, 1) := by decide +kernel
theorem dX4_stepsBetween_1 : decode cX4_stepsBetween 1 = .ok (.getfield 18, 3) := by decide +kernel
theorem dX4_stepsBetween_4 : decode cX4_stepsBetween 4 = .ok (.getfield 55, 3) := by decide +kernel
theorem dX4_stepsBetween_7 : decode cX4_stepsBetween 7 = .ok (.istore_n 3, 1) := by decide +kernel
theorem dX4_stepsBetween_8 : decode cX4_stepsBetween 8 = .ok (.iload_n 3, 1) := by decide +kernel
theorem dX4_stepsBetween_9 : decode cX4_stepsBetween 9 = .ok (.iconst 1, 1) := by decide +kernel
theorem dX4_stepsBetween_10 : decode cX4_stepsBetween 10 = .ok (.if_icmp .ge 5, 3) := by decide +kernel
theorem dX4_stepsBetween_13 : decode cX4_stepsBetween 13 = .ok (.iconst 0, 1) := by decide +kernel
theorem dX4_stepsBetween_14 : decode cX4_stepsBetween 14 = .ok (.ireturn, 1) := by decide +kernel
theorem dX4_stepsBetween_15 : decode cX4_stepsBetween 15 = .ok (.iload_n 1, 1) := by decide +kernel
theorem dX4_stepsBetween_16 : decode cX4_stepsBetween 16 = .ok (.iload_n 3, 1) := by decide +kernel
theorem dX4_stepsBetween_17 : decode cX4_stepsBetween 17 = .ok (.irem, 1) := by decide +kernel
theorem dX4_stepsBetween_18 : decode cX4_stepsBetween 18 = .ok (.iload_n 2, 1) := by decide +kernel
theorem dX4_stepsBetween_19 : decode cX4_stepsBetween 19 = .ok (.iload_n 3, 1) := by decide +kernel
theorem dX4_stepsBetween_20 : decode cX4_stepsBetween 20 = .ok (.irem, 1) := by decide +kernel
theorem dX4_stepsBetween_21 : decode cX4_stepsBetween 21 = .ok (.isub, 1) := by decide +kernel
theorem dX4_stepsBetween_22 : decode cX4_stepsBetween 22 = .ok (.invokestatic 58, 3) := by decide +kernel
theorem dX4_stepsBetween_25 : decode cX4_stepsBetween 25 = .ok (.iload_n 1, 1) := by decide +kernel
theorem dX4_stepsBetween_26 : decode cX4_stepsBetween 26 = .ok (.iload_n 3, 1) := by decide +kernel
theorem dX4_stepsBetween_27 : decode cX4_stepsBetween 27 = .ok (.idiv, 1) := by decide +kernel
theorem dX4_stepsBetween_28 : decode cX4_stepsBetween 28 = .ok (.iload_n 2, 1) := by decide +kernel
theorem dX4_stepsBetween_29 : decode cX4_stepsBetween 29 = .ok (.iload_n 3, 1) := by decide +kernel
theorem dX4_stepsBetween_30 : decode cX4_stepsBetween 30 = .ok (.idiv, 1) := by decide +kernel
theorem dX4_stepsBetween_31 : decode cX4_stepsBetween 31 = .ok (.isub, 1) := by decide +kernel
theorem dX4_stepsBetween_32 : decode cX4_stepsBetween 32 = .ok (.invokestatic 58, 3) := by decide +kernel
theorem dX4_stepsBetween_35 : decode cX4_stepsBetween 35 = .ok (.invokestatic 64, 3) := by decide +kernel
theorem dX4_stepsBetween_38 : decode cX4_stepsBetween 38 = .ok (.ireturn, 1) := by decide +kernel
theorem dX5_init_0 : decode cX5_init 0 = .ok (.aload_n 0, 1) := by decide +kernel
theorem dX5_init_1 : decode cX5_init 1 = .ok (.invokespecial 1, 3) := by decide +kernel
theorem dX5_init_4 : decode cX5_init 4 = .ok (.aload_n 0, 1) := by decide +kernel
theorem dX5_init_5 : decode cX5_init 5 = .ok (.new 7, 3) := by decide +kernel
theorem dX5_init_8 : decode cX5_init 8 = .ok (.dup, 1) := by decide +kernel
theorem dX5_init_9 : decode cX5_init 9 = .ok (.invokespecial 9, 3) := by decide +kernel
theorem dX5_init_12 : decode cX5_init 12 = .ok (.putfield 10, 3) := by decide +kernel
theorem dX5_init_15 : decode cX5_init 15 = .ok (.aload_n 0, 1) := by decide +kernel
theorem dX5_init_16 : decode cX5_init 16 = .ok (.new 7, 3) := by decide +kernel
theorem dX5_init_19 : decode cX5_init 19 = .ok (.dup, 1) := by decide +kernel
theorem dX5_init_20 : decode cX5_init 20 = .ok (.invokespecial 9, 3) := by decide +kernel
theorem dX5_init_23 : decode cX5_init 23 = .ok (.putfield 16, 3) := by decide +kernel
theorem dX5_init_26 : decode cX5_init 26 = .ok (.aload_n 0, 1) := by decide +kernel
theorem dX5_init_27 : decode cX5_init 27 = .ok (.sipush 700, 3) := by decide +kernel
theorem dX5_init_30 : decode cX5_init 30 = .ok (.newarray .byte, 2) := by decide +kernel
theorem dX5_init_32 : decode cX5_init 32 = .ok (.putfield 19, 3) := by decide +kernel
theorem dX5_init_35 : decode cX5_init 35 = .ok (.aload_n 0, 1) := by decide +kernel
theorem dX5_init_36 : decode cX5_init 36 = .ok (.new 23, 3) := by decide +kernel
theorem dX5_init_39 : decode cX5_init 39 = .ok (.dup, 1) := by decide +kernel
theorem dX5_init_40 : decode cX5_init 40 = .ok (.aload_n 0, 1) := by decide +kernel
theorem dX5_init_41 : decode cX5_init 41 = .ok (.getfield 19, 3) := by decide +kernel
theorem dX5_init_44 : decode cX5_init 44 = .ok (.aload_n 0, 1) := by decide +kernel
theorem dX5_init_45 : decode cX5_init 45 = .ok (.getfield 16, 3) := by decide +kernel
theorem dX5_init_48 : decode cX5_init 48 = .ok (.invokespecial 25, 3) := by decide +kernel
theorem dX5_init_51 : decode cX5_init 51 = .ok (.putfield 28, 3) := by decide +kernel
theorem dX5_init_54 : decode cX5_init 54 = .ok (.aload_n 0, 1) := by decide +kernel
theorem dX5_init_55 : decode cX5_init 55 = .ok (.new 32, 3) := by decide +kernel
theorem dX5_init_58 : decode cX5_init 58 = .ok (.dup, 1) := by decide +kernel
theorem dX5_init_59 : decode cX5_init 59 = .ok (.aload_n 0, 1) := by decide +kernel
theorem dX5_init_60 : decode cX5_init 60 = .ok (.getfield 10, 3) := by decide +kernel
theorem dX5_init_63 : decode cX5_init 63 = .ok (.invokespecial 34, 3) := by decide +kernel
theorem dX5_init_66 : decode cX5_init 66 = .ok (.putfield 37, 3) := by decide +kernel
theorem dX5_init_69 : decode cX5_init 69 = .ok (.aload_n 0, 1) := by decide +kernel
theorem dX5_init_70 : decode cX5_init 70 = .ok (.new 41, 3) := by decide +kernel
theorem dX5_init_73 : decode cX5_init 73 = .ok (.dup, 1) := by decide +kernel
theorem dX5_init_74 : decode cX5_init 74 = .ok (.invokespecial 43, 3) := by decide +kernel
theorem dX5_init_77 : decode cX5_init 77 = .ok (.putfield 44, 3) := by decide +kernel
theorem dX5_init_80 : decode cX5_init 80 = .ok (.aload_n 0, 1) := by decide +kernel
theorem dX5_init_81 : decode cX5_init 81 = .ok (.new 48, 3) := by decide +kernel
theorem dX5_init_84 : decode cX5_init 84 = .ok (.dup, 1) := by decide +kernel
theorem dX5_init_85 : decode cX5_init 85 = .ok (.aload_n 0, 1) := by decide +kernel
theorem dX5_init_86 : decode cX5_init 86 = .ok (.getfield 10, 3) := by decide +kernel
theorem dX5_init_89 : decode cX5_init 89 = .ok (.invokespecial 50, 3) := by decide +kernel
theorem dX5_init_92 : decode cX5_init 92 = .ok (.putfield 51, 3) := by decide +kernel
theorem dX5_init_95 : decode cX5_init 95 = .ok (.aload_n 0, 1) := by decide +kernel
theorem dX5_init_96 : decode cX5_init 96 = .ok (.iconst 2, 1) := by decide +kernel
theorem dX5_init_97 : decode cX5_init 97 = .ok (.newarray .int, 2) := by decide +kernel
theorem dX5_init_99 : decode cX5_init 99 = .ok (.putfield 55, 3) := by decide +kernel
theorem dX5_init_102 : decode cX5_init 102 = .ok (.aload_n 0, 1) := by decide +kernel
theorem dX5_init_103 : decode cX5_init 103 = .ok (.getfield 44, 3) := by decide +kernel
theorem dX5_init_106 : decode cX5_init 106 = .ok (.aload_n 0, 1) := by decide +kernel
theorem dX5_init_107 : decode cX5_init 107 = .ok (.getfield 10, 3) := by decide +kernel
theorem dX5_init_110 : decode cX5_init 110 = .ok (.invokevirtual 59, 3) := by decide +kernel
theorem dX5_init_113 : decode cX5_init 113 = .ok (.aload_n 0, 1) := by decide +kernel
theorem dX5_init_114 : decode cX5_init 114 = .ok (.iconst (-1), 1) := by decide +kernel
theorem dX5_init_115 : decode cX5_init 115 = .ok (.putfield 62, 3) := by decide +kernel
theorem dX5_init_118 : decode cX5_init 118 = .ok (.return_, 1) := by decide +kernel
theorem dX5_feed_0 : decode cX5_feed 0 = .ok (.aload_n 0, 1) := by decide +kernel
theorem dX5_feed_1 : decode cX5_feed 1 = .ok (.getfield 66, 3) := by decide +kernel
theorem dX5_feed_4 : decode cX5_feed 4 = .ok (.bipush 20, 2) := by decide +kernel
theorem dX5_feed_6 : decode cX5_feed 6 = .ok (.iadd, 1) := by decide +kernel
theorem dX5_feed_7 : decode cX5_feed 7 = .ok (.sipush 700, 3) := by decide +kernel
theorem dX5_feed_10 : decode cX5_feed 10 = .ok (.if_icmp .le 5, 3) := by decide +kernel
theorem dX5_feed_13 : decode cX5_feed 13 = .ok (.iconst (-1), 1) := by decide +kernel
theorem dX5_feed_14 : decode cX5_feed 14 = .ok (.ireturn, 1) := by decide +kernel
theorem dX5_feed_15 : decode cX5_feed 15 = .ok (.aload_n 0, 1) := by decide +kernel
theorem dX5_feed_16 : decode cX5_feed 16 = .ok (.iload_n 1, 1) := by decide +kernel
theorem dX5_feed_17 : decode cX5_feed 17 = .ok (.invokevirtual 69, 3) := by decide +kernel
theorem dX5_feed_20 : decode cX5_feed 20 = .ok (.aload_n 0, 1) := by decide +kernel
theorem dX5_feed_21 : decode cX5_feed 21 = .ok (.iload_n 2, 1) := by decide +kernel
theorem dX5_feed_22 : decode cX5_feed 22 = .ok (.invokevirtual 69, 3) := by decide +kernel
theorem dX5_feed_25 : decode cX5_feed 25 = .ok (.aload_n 0, 1) := by decide +kernel
theorem dX5_feed_26 : decode cX5_feed 26 = .ok (.iload_n 3, 1) := by decide +kernel
theorem dX5_feed_27 : decode cX5_feed 27 = .ok (.invokevirtual 69, 3) := by decide +kernel
theorem dX5_feed_30 : decode cX5_feed 30 = .ok (.aload_n 0, 1) := by decide +kernel
theorem dX5_feed_31 : decode cX5_feed 31 = .ok (.iload 4, 2) := by decide +kernel
theorem dX5_feed_33 : decode cX5_feed 33 = .ok (.invokevirtual 69, 3) := by decide +kernel
theorem dX5_feed_36 : decode cX5_feed 36 = .ok (.aload_n 0, 1) := by decide +kernel
theorem dX5_feed_37 : decode cX5_feed 37 = .ok (.iload 5, 2) := by decide +kernel
theorem dX5_feed_39 : decode cX5_feed 39 = .ok (.invokevirtual 69, 3) := by decide +kernel
theorem dX5_feed_42 : decode cX5_feed 42 = .ok (.aload_n 0, 1) := by decide +kernel
theorem dX5_feed_43 : decode cX5_feed 43 = .ok (.getfield 66, 3) := by decide +kernel
theorem dX5_feed_46 : decode cX5_feed 46 = .ok (.ireturn, 1) := by decide +kernel
theorem dX5_putBytes_0 : decode cX5_putBytes 0 = .ok (.bipush 24, 2) := by decide +kernel
theorem dX5_putBytes_2 : decode cX5_putBytes 2 = .ok (.istore_n 2, 1) := by decide +kernel
theorem dX5_putBytes_3 : decode cX5_putBytes 3 = .ok (.iload_n 2, 1) := by decide +kernel
theorem dX5_putBytes_4 : decode cX5_putBytes 4 = .ok (.ifCond .lt 44, 3) := by decide +kernel
theorem dX5_putBytes_7 : decode cX5_putBytes 7 = .ok (.aload_n 0, 1) := by decide +kernel
theorem dX5_putBytes_8 : decode cX5_putBytes 8 = .ok (.getfield 66, 3) := by decide +kernel
theorem dX5_putBytes_11 : decode cX5_putBytes 11 = .ok (.aload_n 0, 1) := by decide +kernel
theorem dX5_putBytes_12 : decode cX5_putBytes 12 = .ok (.getfield 19, 3) := by decide +kernel
theorem dX5_putBytes_15 : decode cX5_putBytes 15 = .ok (.arraylength, 1) := by decide +kernel
theorem dX5_putBytes_16 : decode cX5_putBytes 16 = .ok (.if_icmp .ge 32, 3) := by decide +kernel
theorem dX5_putBytes_19 : decode cX5_putBytes 19 = .ok (.aload_n 0, 1) := by decide +kernel
theorem dX5_putBytes_20 : decode cX5_putBytes 20 = .ok (.getfield 19, 3) := by decide +kernel
theorem dX5_putBytes_23 : decode cX5_putBytes 23 = .ok (.aload_n 0, 1) := by decide +kernel
theorem dX5_putBytes_24 : decode cX5_putBytes 24 = .ok (.getfield 66, 3) := by decide +kernel
theorem dX5_putBytes_27 : decode cX5_putBytes 27 = .ok (.iload_n 1, 1) := by decide +kernel
theorem dX5_putBytes_28 : decode cX5_putBytes 28 = .ok (.iload_n 2, 1) := by decide +kernel
theorem dX5_putBytes_29 : decode cX5_putBytes 29 = .ok (.iushr, 1) := by decide +kernel
theorem dX5_putBytes_30 : decode cX5_putBytes 30 = .ok (.i2b, 1) := by decide +kernel
theorem dX5_putBytes_31 : decode cX5_putBytes 31 = .ok (.bastore, 1) := by decide +kernel
theorem dX5_putBytes_32 : decode cX5_putBytes 32 = .ok (.aload_n 0, 1) := by decide +kernel
theorem dX5_putBytes_33 : decode cX5_putBytes 33 = .ok (.dup, 1) := by decide +kernel
theorem dX5_putBytes_34 : decode cX5_putBytes 34 = .ok (.getfield 66, 3) := by decide +kernel
theorem dX5_putBytes_37 : decode cX5_putBytes 37 = .ok (.iconst 1, 1) := by decide +kernel
theorem dX5_putBytes_38 : decode cX5_putBytes 38 = .ok (.iadd, 1) := by decide +kernel
theorem dX5_putBytes_39 : decode cX5_putBytes 39 = .ok (.putfield 66, 3) := by decide +kernel
theorem dX5_putBytes_42 : decode cX5_putBytes 42 = .ok (.iinc 2 (-8), 3) := by decide +kernel
theorem dX5_putBytes_45 : decode cX5_putBytes 45 = .ok (.goto (-42), 3) := by decide +kernel
theorem dX5_putBytes_48 : decode cX5_putBytes 48 = .ok (.return_, 1) := by decide +kernel
theorem dX5_duchy_0 : decode cX5_duchy 0 = .ok (.iload_n 1, 1) := by decide +kernel
theorem dX5_duchy_1 : decode cX5_duchy 1 = .ok (.ifCond .lt 11, 3) := by decide +kernel
theorem dX5_duchy_4 : decode cX5_duchy 4 = .ok (.iload_n 1, 1) := by decide +kernel
theorem dX5_duchy_5 : decode cX5_duchy 5 = .ok (.aload_n 0, 1) := by decide +kernel
theorem dX5_duchy_6 : decode cX5_duchy 6 = .ok (.getfield 66, 3) := by decide +kernel
theorem dX5_duchy_9 : decode cX5_duchy 9 = .ok (.if_icmp .le 13, 3) := by decide +kernel
theorem dX5_duchy_12 : decode cX5_duchy 12 = .ok (.new 73, 3) := by decide +kernel
theorem dX5_duchy_15 : decode cX5_duchy 15 = .ok (.dup, 1) := by decide +kernel
theorem dX5_duchy_16 : decode cX5_duchy 16 = .ok (.ldc 75, 2) := by decide +kernel
theorem dX5_duchy_18 : decode cX5_duchy 18 = .ok (.invokespecial 77, 3) := by decide +kernel
theorem dX5_duchy_21 : decode cX5_duchy 21 = .ok (.athrow, 1) := by decide +kernel
theorem dX5_duchy_22 : decode cX5_duchy 22 = .ok (.aload_n 0, 1) := by decide +kernel
theorem dX5_duchy_23 : decode cX5_duchy 23 = .ok (.getfield 28, 3) := by decide +kernel
theorem dX5_duchy_26 : decode cX5_duchy 26 = .ok (.iload_n 1, 1) := by decide +kernel
theorem dX5_duchy_27 : decode cX5_duchy 27 = .ok (.aload_n 0, 1) := by decide +kernel
theorem dX5_duchy_28 : decode cX5_duchy 28 = .ok (.getfield 16, 3) := by decide +kernel
theorem dX5_duchy_31 : decode cX5_duchy 31 = .ok (.invokevirtual 80, 3) := by decide +kernel
theorem dX5_duchy_34 : decode cX5_duchy 34 = .ok (.aload_n 0, 1) := by decide +kernel
theorem dX5_duchy_35 : decode cX5_duchy 35 = .ok (.iconst 0, 1) := by decide +kernel
theorem dX5_duchy_36 : decode cX5_duchy 36 = .ok (.putfield 66, 3) := by decide +kernel
theorem dX5_duchy_39 : decode cX5_duchy 39 = .ok (.aload_n 0, 1) := by decide +kernel
theorem dX5_duchy_40 : decode cX5_duchy 40 = .ok (.getfield 28, 3) := by decide +kernel
theorem dX5_duchy_43 : decode cX5_duchy 43 = .ok (.getfield 84, 3) := by decide +kernel
theorem dX5_duchy_46 : decode cX5_duchy 46 = .ok (.ifCond .eq 32, 3) := by decide +kernel
theorem dX5_duchy_49 : decode cX5_duchy 49 = .ok (.aload_n 0, 1) := by decide +kernel
theorem dX5_duchy_50 : decode cX5_duchy 50 = .ok (.aload_n 0, 1) := by decide +kernel
theorem dX5_duchy_51 : decode cX5_duchy 51 = .ok (.getfield 28, 3) := by decide +kernel
theorem dX5_duchy_54 : decode cX5_duchy 54 = .ok (.getfield 87, 3) := by decide +kernel
theorem dX5_duchy_57 : decode cX5_duchy 57 = .ok (.putfield 62, 3) := by decide +kernel
theorem dX5_duchy_60 : decode cX5_duchy 60 = .ok (.aload_n 0, 1) := by decide +kernel
theorem dX5_duchy_61 : decode cX5_duchy 61 = .ok (.dup, 1) := by decide +kernel
theorem dX5_duchy_62 : decode cX5_duchy 62 = .ok (.getfield 90, 3) := by decide +kernel
theorem dX5_duchy_65 : decode cX5_duchy 65 = .ok (.iconst 1, 1) := by decide +kernel
theorem dX5_duchy_66 : decode cX5_duchy 66 = .ok (.iadd, 1) := by decide +kernel
theorem dX5_duchy_67 : decode cX5_duchy 67 = .ok (.putfield 90, 3) := by decide +kernel
theorem dX5_duchy_70 : decode cX5_duchy 70 = .ok (.aload_n 0, 1) := by decide +kernel
theorem dX5_duchy_71 : decode cX5_duchy 71 = .ok (.getfield 28, 3) := by decide +kernel
theorem dX5_duchy_74 : decode cX5_duchy 74 = .ok (.getfield 84, 3) := by decide +kernel
theorem dX5_duchy_77 : decode cX5_duchy 77 = .ok (.ireturn, 1) := by decide +kernel
theorem dX5_duchy_78 : decode cX5_duchy 78 = .ok (.aload_n 0, 1) := by decide +kernel
theorem dX5_duchy_79 : decode cX5_duchy 79 = .ok (.getfield 16, 3) := by decide +kernel
theorem dX5_duchy_82 : decode cX5_duchy 82 = .ok (.astore_n 2, 1) := by decide +kernel
theorem dX5_duchy_83 : decode cX5_duchy 83 = .ok (.aload_n 0, 1) := by decide +kernel
theorem dX5_duchy_84 : decode cX5_duchy 84 = .ok (.aload_n 0, 1) := by decide +kernel
theorem dX5_duchy_85 : decode cX5_duchy 85 = .ok (.getfield 10, 3) := by decide +kernel
theorem dX5_duchy_88 : decode cX5_duchy 88 = .ok (.putfield 16, 3) := by decide +kernel
theorem dX5_duchy_91 : decode cX5_duchy 91 = .ok (.aload_n 0, 1) := by decide +kernel
theorem dX5_duchy_92 : decode cX5_duchy 92 = .ok (.aload_n 2, 1) := by decide +kernel
theorem dX5_duchy_93 : decode cX5_duchy 93 = .ok (.putfield 10, 3) := by decide +kernel
theorem dX5_duchy_96 : decode cX5_duchy 96 = .ok (.aload_n 0, 1) := by decide +kernel
theorem dX5_duchy_97 : decode cX5_duchy 97 = .ok (.getfield 44, 3) := by decide +kernel
theorem dX5_duchy_100 : decode cX5_duchy 100 = .ok (.aload_n 0, 1) := by decide +kernel
theorem dX5_duchy_101 : decode cX5_duchy 101 = .ok (.getfield 10, 3) := by decide +kernel
theorem dX5_duchy_104 : decode cX5_duchy 104 = .ok (.invokevirtual 59, 3) := by decide +kernel
theorem dX5_duchy_107 : decode cX5_duchy 107 = .ok (.aload_n 0, 1) := by decide +kernel
theorem dX5_duchy_108 : decode cX5_duchy 108 = .ok (.iconst 0, 1) := by decide +kernel
theorem dX5_duchy_109 : decode cX5_duchy 109 = .ok (.putfield 93, 3) := by decide +kernel
theorem dX5_duchy_112 : decode cX5_duchy 112 = .ok (.aload_n 0, 1) := by decide +kernel
theorem dX5_duchy_113 : decode cX5_duchy 113 = .ok (.iconst 0, 1) := by decide +kernel
theorem dX5_duchy_114 : decode cX5_duchy 114 = .ok (.putfield 97, 3) := by decide +kernel
theorem dX5_duchy_117 : decode cX5_duchy 117 = .ok (.aload_n 0, 1) := by decide +kernel
theorem dX5_duchy_118 : decode cX5_duchy 118 = .ok (.getfield 51, 3) := by decide +kernel
theorem dX5_duchy_121 : decode cX5_duchy 121 = .ok (.iconst 0, 1) := by decide +kernel
theorem dX5_duchy_122 : decode cX5_duchy 122 = .ok (.putfield 100, 3) := by decide +kernel
theorem dX5_duchy_125 : decode cX5_duchy 125 = .ok (.aload_n 0, 1) := by decide +kernel
theorem dX5_duchy_126 : decode cX5_duchy 126 = .ok (.iconst (-1), 1) := by decide +kernel
theorem dX5_duchy_127 : decode cX5_duchy 127 = .ok (.putfield 62, 3) := by decide +kernel
theorem dX5_duchy_130 : decode cX5_duchy 130 = .ok (.iconst 0, 1) := by decide +kernel
theorem dX5_duchy_131 : decode cX5_duchy 131 = .ok (.ireturn, 1) := by decide +kernel
theorem dX5_fault_0 : decode cX5_fault 0 = .ok (.aload_n 0, 1) := by decide +kernel
theorem dX5_fault_1 : decode cX5_fault 1 = .ok (.getfield 62, 3) := by decide +kernel
theorem dX5_fault_4 : decode cX5_fault 4 = .ok (.ireturn, 1) := by decide +kernel
theorem dX5_count_0 : decode cX5_count 0 = .ok (.iload_n 1, 1) := by decide +kernel
theorem dX5_count_1 : decode cX5_count 1 = .ok (.tableswitch 202 0 14 #[75, 83, 91, 102, 110, 118, 129, 140, 158, 166, 174, 182, 187, 192, 197], 75) := by decide +kernel
theorem dX5_count_76 : decode cX5_count 76 = .ok (.aload_n 0, 1) := by decide +kernel
theorem dX5_count_77 : decode cX5_count 77 = .ok (.getfield 10, 3) := by decide +kernel
theorem dX5_count_80 : decode cX5_count 80 = .ok (.getfield 103, 3) := by decide +kernel
theorem dX5_count_83 : decode cX5_count 83 = .ok (.ireturn, 1) := by decide +kernel
theorem dX5_count_84 : decode cX5_count 84 = .ok (.aload_n 0, 1) := by decide +kernel
theorem dX5_count_85 : decode cX5_count 85 = .ok (.getfield 10, 3) := by decide +kernel
theorem dX5_count_88 : decode cX5_count 88 = .ok (.getfield 106, 3) := by decide +kernel
theorem dX5_count_91 : decode cX5_count 91 = .ok (.ireturn, 1) := by decide +kernel
theorem dX5_count_92 : decode cX5_count 92 = .ok (.aload_n 0, 1) := by decide +kernel
theorem dX5_count_93 : decode cX5_count 93 = .ok (.getfield 44, 3) := by decide +kernel
theorem dX5_count_96 : decode cX5_count 96 = .ok (.getfield 109, 3) := by decide +kernel
theorem dX5_count_99 : decode cX5_count 99 = .ok (.invokestatic 112, 3) := by decide +kernel
theorem dX5_count_102 : decode cX5_count 102 = .ok (.ireturn, 1) := by decide +kernel
theorem dX5_count_103 : decode cX5_count 103 = .ok (.aload_n 0, 1) := by decide +kernel
theorem dX5_count_104 : decode cX5_count 104 = .ok (.getfield 10, 3) := by decide +kernel
theorem dX5_count_107 : decode cX5_count 107 = .ok (.getfield 116, 3) := by decide +kernel
theorem dX5_count_110 : decode cX5_count 110 = .ok (.ireturn, 1) := by decide +kernel
theorem dX5_count_111 : decode cX5_count 111 = .ok (.aload_n 0, 1) := by decide +kernel
theorem dX5_count_112 : decode cX5_count 112 = .ok (.getfield 10, 3) := by decide +kernel
theorem dX5_count_115 : decode cX5_count 115 = .ok (.getfield 119, 3) := by decide +kernel
theorem dX5_count_118 : decode cX5_count 118 = .ok (.ireturn, 1) := by decide +kernel
theorem dX5_count_119 : decode cX5_count 119 = .ok (.aload_n 0, 1) := by decide +kernel
theorem dX5_count_120 : decode cX5_count 120 = .ok (.getfield 44, 3) := by decide +kernel
theorem dX5_count_123 : decode cX5_count 123 = .ok (.getfield 109, 3) := by decide +kernel
theorem dX5_count_126 : decode cX5_count 126 = .ok (.bipush 60, 2) := by decide +kernel
theorem dX5_count_128 : decode cX5_count 128 = .ok (.iaload, 1) := by decide +kernel
theorem dX5_count_129 : decode cX5_count 129 = .ok (.ireturn, 1) := by decide +kernel
theorem dX5_count_130 : decode cX5_count 130 = .ok (.aload_n 0, 1) := by decide +kernel
theorem dX5_count_131 : decode cX5_count 131 = .ok (.getfield 44, 3) := by decide +kernel
theorem dX5_count_134 : decode cX5_count 134 = .ok (.getfield 109, 3) := by decide +kernel
theorem dX5_count_137 : decode cX5_count 137 = .ok (.bipush 61, 2) := by decide +kernel
theorem dX5_count_139 : decode cX5_count 139 = .ok (.iaload, 1) := by decide +kernel
theorem dX5_count_140 : decode cX5_count 140 = .ok (.ireturn, 1) := by decide +kernel
theorem dX5_count_141 : decode cX5_count 141 = .ok (.aload_n 0, 1) := by decide +kernel
theorem dX5_count_142 : decode cX5_count 142 = .ok (.getfield 10, 3) := by decide +kernel
theorem dX5_count_145 : decode cX5_count 145 = .ok (.aload_n 0, 1) := by decide +kernel
theorem dX5_count_146 : decode cX5_count 146 = .ok (.getfield 44, 3) := by decide +kernel
theorem dX5_count_149 : decode cX5_count 149 = .ok (.getfield 109, 3) := by decide +kernel
theorem dX5_count_152 : decode cX5_count 152 = .ok (.bipush 61, 2) := by decide +kernel
theorem dX5_count_154 : decode cX5_count 154 = .ok (.iaload, 1) := by decide +kernel
theorem dX5_count_155 : decode cX5_count 155 = .ok (.invokevirtual 122, 3) := by decide +kernel
theorem dX5_count_158 : decode cX5_count 158 = .ok (.ireturn, 1) := by decide +kernel
theorem dX5_count_159 : decode cX5_count 159 = .ok (.aload_n 0, 1) := by decide +kernel
theorem dX5_count_160 : decode cX5_count 160 = .ok (.invokevirtual 126, 3) := by decide +kernel
theorem dX5_count_163 : decode cX5_count 163 = .ok (.invokevirtual 130, 3) := by decide +kernel
theorem dX5_count_166 : decode cX5_count 166 = .ok (.ireturn, 1) := by decide +kernel
theorem dX5_count_167 : decode cX5_count 167 = .ok (.aload_n 0, 1) := by decide +kernel
theorem dX5_count_168 : decode cX5_count 168 = .ok (.getfield 44, 3) := by decide +kernel
theorem dX5_count_171 : decode cX5_count 171 = .ok (.getfield 134, 3) := by decide +kernel
theorem dX5_count_174 : decode cX5_count 174 = .ok (.ireturn, 1) := by decide +kernel
theorem dX5_count_175 : decode cX5_count 175 = .ok (.aload_n 0, 1) := by decide +kernel
theorem dX5_count_176 : decode cX5_count 176 = .ok (.getfield 44, 3) := by decide +kernel
theorem dX5_count_179 : decode cX5_count 179 = .ok (.getfield 137, 3) := by decide +kernel
theorem dX5_count_182 : decode cX5_count 182 = .ok (.ireturn, 1) := by decide +kernel
theorem dX5_count_183 : decode cX5_count 183 = .ok (.aload_n 0, 1) := by decide +kernel
theorem dX5_count_184 : decode cX5_count 184 = .ok (.getfield 66, 3) := by decide +kernel
theorem dX5_count_187 : decode cX5_count 187 = .ok (.ireturn, 1) := by decide +kernel
theorem dX5_count_188 : decode cX5_count 188 = .ok (.aload_n 0, 1) := by decide +kernel
theorem dX5_count_189 : decode cX5_count 189 = .ok (.getfield 90, 3) := by decide +kernel
theorem dX5_count_192 : decode cX5_count 192 = .ok (.ireturn, 1) := by decide +kernel
theorem dX5_count_193 : decode cX5_count 193 = .ok (.aload_n 0, 1) := by decide +kernel
theorem dX5_count_194 : decode cX5_count 194 = .ok (.getfield 140, 3) := by decide +kernel
theorem dX5_count_197 : decode cX5_count 197 = .ok (.ireturn, 1) := by decide +kernel
theorem dX5_count_198 : decode cX5_count 198 = .ok (.aload_n 0, 1) := by decide +kernel
theorem dX5_count_199 : decode cX5_count 199 = .ok (.getfield 143, 3) := by decide +kernel
theorem dX5_count_202 : decode cX5_count 202 = .ok (.ireturn, 1) := by decide +kernel
theorem dX5_count_203 : decode cX5_count 203 = .ok (.new 146, 3) := by decide +kernel
theorem dX5_count_206 : decode cX5_count 206 = .ok (.dup, 1) := by decide +kernel
theorem dX5_count_207 : decode cX5_count 207 = .ok (.ldc 148, 2) := by decide +kernel
theorem dX5_count_209 : decode cX5_count 209 = .ok (.invokespecial 150, 3) := by decide +kernel
theorem dX5_count_212 : decode cX5_count 212 = .ok (.athrow, 1) := by decide +kernel
theorem dX5_cell_0 : decode cX5_cell 0 = .ok (.aload_n 0, 1) := by decide +kernel
theorem dX5_cell_1 : decode cX5_cell 1 = .ok (.iload_n 1, 1) := by decide +kernel
theorem dX5_cell_2 : decode cX5_cell 2 = .ok (.invokevirtual 151, 3) := by decide +kernel
theorem dX5_cell_5 : decode cX5_cell 5 = .ok (.iload_n 2, 1) := by decide +kernel
theorem dX5_cell_6 : decode cX5_cell 6 = .ok (.tableswitch 84 0 4 #[34, 44, 54, 66, 75], 34) := by decide +kernel
theorem dX5_cell_40 : decode cX5_cell 40 = .ok (.aload_n 0, 1) := by decide +kernel
theorem dX5_cell_41 : decode cX5_cell 41 = .ok (.getfield 10, 3) := by decide +kernel
theorem dX5_cell_44 : decode cX5_cell 44 = .ok (.getfield 154, 3) := by decide +kernel
theorem dX5_cell_47 : decode cX5_cell 47 = .ok (.iload_n 1, 1) := by decide +kernel
theorem dX5_cell_48 : decode cX5_cell 48 = .ok (.iaload, 1) := by decide +kernel
theorem dX5_cell_49 : decode cX5_cell 49 = .ok (.ireturn, 1) := by decide +kernel
theorem dX5_cell_50 : decode cX5_cell 50 = .ok (.aload_n 0, 1) := by decide +kernel
theorem dX5_cell_51 : decode cX5_cell 51 = .ok (.invokevirtual 126, 3) := by decide +kernel
theorem dX5_cell_54 : decode cX5_cell 54 = .ok (.getfield 157, 3) := by decide +kernel
theorem dX5_cell_57 : decode cX5_cell 57 = .ok (.iload_n 1, 1) := by decide +kernel
theorem dX5_cell_58 : decode cX5_cell 58 = .ok (.iaload, 1) := by decide +kernel
theorem dX5_cell_59 : decode cX5_cell 59 = .ok (.ireturn, 1) := by decide +kernel
theorem dX5_cell_60 : decode cX5_cell 60 = .ok (.aload_n 0, 1) := by decide +kernel
theorem dX5_cell_61 : decode cX5_cell 61 = .ok (.getfield 44, 3) := by decide +kernel
theorem dX5_cell_64 : decode cX5_cell 64 = .ok (.getfield 109, 3) := by decide +kernel
theorem dX5_cell_67 : decode cX5_cell 67 = .ok (.iload_n 1, 1) := by decide +kernel
theorem dX5_cell_68 : decode cX5_cell 68 = .ok (.invokestatic 160, 3) := by decide +kernel
theorem dX5_cell_71 : decode cX5_cell 71 = .ok (.ireturn, 1) := by decide +kernel
theorem dX5_cell_72 : decode cX5_cell 72 = .ok (.aload_n 0, 1) := by decide +kernel
theorem dX5_cell_73 : decode cX5_cell 73 = .ok (.getfield 10, 3) := by decide +kernel
theorem dX5_cell_76 : decode cX5_cell 76 = .ok (.iload_n 1, 1) := by decide +kernel
theorem dX5_cell_77 : decode cX5_cell 77 = .ok (.invokevirtual 164, 3) := by decide +kernel
theorem dX5_cell_80 : decode cX5_cell 80 = .ok (.ireturn, 1) := by decide +kernel
theorem dX5_cell_81 : decode cX5_cell 81 = .ok (.aload_n 0, 1) := by decide +kernel
theorem dX5_cell_82 : decode cX5_cell 82 = .ok (.invokevirtual 126, 3) := by decide +kernel
theorem dX5_cell_85 : decode cX5_cell 85 = .ok (.iload_n 1, 1) := by decide +kernel
theorem dX5_cell_86 : decode cX5_cell 86 = .ok (.invokevirtual 167, 3) := by decide +kernel
theorem dX5_cell_89 : decode cX5_cell 89 = .ok (.ireturn, 1) := by decide +kernel
theorem dX5_cell_90 : decode cX5_cell 90 = .ok (.new 146, 3) := by decide +kernel
theorem dX5_cell_93 : decode cX5_cell 93 = .ok (.dup, 1) := by decide +kernel
theorem dX5_cell_94 : decode cX5_cell 94 = .ok (.ldc 148, 2) := by decide +kernel
theorem dX5_cell_96 : decode cX5_cell 96 = .ok (.invokespecial 150, 3) := by decide +kernel
theorem dX5_cell_99 : decode cX5_cell 99 = .ok (.athrow, 1) := by decide +kernel
theorem dX5_tree_0 : decode cX5_tree 0 = .ok (.aload_n 0, 1) := by decide +kernel
theorem dX5_tree_1 : decode cX5_tree 1 = .ok (.iload_n 1, 1) := by decide +kernel
theorem dX5_tree_2 : decode cX5_tree 2 = .ok (.invokevirtual 170, 3) := by decide +kernel
theorem dX5_tree_5 : decode cX5_tree 5 = .ok (.iload_n 2, 1) := by decide +kernel
theorem dX5_tree_6 : decode cX5_tree 6 = .ok (.tableswitch 64 0 2 #[26, 38, 51], 26) := by decide +kernel
theorem dX5_tree_32 : decode cX5_tree 32 = .ok (.aload_n 0, 1) := by decide +kernel
theorem dX5_tree_33 : decode cX5_tree 33 = .ok (.getfield 44, 3) := by decide +kernel
theorem dX5_tree_36 : decode cX5_tree 36 = .ok (.getfield 109, 3) := by decide +kernel
theorem dX5_tree_39 : decode cX5_tree 39 = .ok (.iconst 0, 1) := by decide +kernel
theorem dX5_tree_40 : decode cX5_tree 40 = .ok (.iload_n 1, 1) := by decide +kernel
theorem dX5_tree_41 : decode cX5_tree 41 = .ok (.iadd, 1) := by decide +kernel
theorem dX5_tree_42 : decode cX5_tree 42 = .ok (.iaload, 1) := by decide +kernel
theorem dX5_tree_43 : decode cX5_tree 43 = .ok (.ireturn, 1) := by decide +kernel
theorem dX5_tree_44 : decode cX5_tree 44 = .ok (.aload_n 0, 1) := by decide +kernel
theorem dX5_tree_45 : decode cX5_tree 45 = .ok (.getfield 44, 3) := by decide +kernel
theorem dX5_tree_48 : decode cX5_tree 48 = .ok (.getfield 109, 3) := by decide +kernel
theorem dX5_tree_51 : decode cX5_tree 51 = .ok (.bipush 12, 2) := by decide +kernel
theorem dX5_tree_53 : decode cX5_tree 53 = .ok (.iload_n 1, 1) := by decide +kernel
theorem dX5_tree_54 : decode cX5_tree 54 = .ok (.iadd, 1) := by decide +kernel
theorem dX5_tree_55 : decode cX5_tree 55 = .ok (.iaload, 1) := by decide +kernel
theorem dX5_tree_56 : decode cX5_tree 56 = .ok (.ireturn, 1) := by decide +kernel
theorem dX5_tree_57 : decode cX5_tree 57 = .ok (.aload_n 0, 1) := by decide +kernel
theorem dX5_tree_58 : decode cX5_tree 58 = .ok (.getfield 44, 3) := by decide +kernel
theorem dX5_tree_61 : decode cX5_tree 61 = .ok (.getfield 109, 3) := by decide +kernel
theorem dX5_tree_64 : decode cX5_tree 64 = .ok (.bipush 24, 2) := by decide +kernel
theorem dX5_tree_66 : decode cX5_tree 66 = .ok (.iload_n 1, 1) := by decide +kernel
theorem dX5_tree_67 : decode cX5_tree 67 = .ok (.iadd, 1) := by decide +kernel
theorem dX5_tree_68 : decode cX5_tree 68 = .ok (.iaload, 1) := by decide +kernel
theorem dX5_tree_69 : decode cX5_tree 69 = .ok (.ireturn, 1) := by decide +kernel
theorem dX5_tree_70 : decode cX5_tree 70 = .ok (.new 146, 3) := by decide +kernel
theorem dX5_tree_73 : decode cX5_tree 73 = .ok (.dup, 1) := by decide +kernel
theorem dX5_tree_74 : decode cX5_tree 74 = .ok (.ldc 148, 2) := by decide +kernel
theorem dX5_tree_76 : decode cX5_tree 76 = .ok (.invokespecial 150, 3) := by decide +kernel
theorem dX5_tree_79 : decode cX5_tree 79 = .ok (.athrow, 1) := by decide +kernel
theorem dX5_house_0 : decode cX5_house 0 = .ok (.aload_n 0, 1) := by decide +kernel
theorem dX5_house_1 : decode cX5_house 1 = .ok (.iload_n 1, 1) := by decide +kernel
theorem dX5_house_2 : decode cX5_house 2 = .ok (.invokevirtual 173, 3) := by decide +kernel
theorem dX5_house_5 : decode cX5_house 5 = .ok (.iload_n 2, 1) := by decide +kernel
theorem dX5_house_6 : decode cX5_house 6 = .ok (.tableswitch 149 0 8 #[50, 60, 70, 83, 96, 109, 122, 131, 140], 50) := by decide +kernel
theorem dX5_house_56 : decode cX5_house 56 = .ok (.aload_n 0, 1) := by decide +kernel
theorem dX5_house_57 : decode cX5_house 57 = .ok (.getfield 10, 3) := by decide +kernel
theorem dX5_house_60 : decode cX5_house 60 = .ok (.getfield 176, 3) := by decide +kernel
theorem dX5_house_63 : decode cX5_house 63 = .ok (.iload_n 1, 1) := by decide +kernel
theorem dX5_house_64 : decode cX5_house 64 = .ok (.iaload, 1) := by decide +kernel
theorem dX5_house_65 : decode cX5_house 65 = .ok (.ireturn, 1) := by decide +kernel
theorem dX5_house_66 : decode cX5_house 66 = .ok (.aload_n 0, 1) := by decide +kernel
theorem dX5_house_67 : decode cX5_house 67 = .ok (.getfield 10, 3) := by decide +kernel
theorem dX5_house_70 : decode cX5_house 70 = .ok (.getfield 179, 3) := by decide +kernel
theorem dX5_house_73 : decode cX5_house 73 = .ok (.iload_n 1, 1) := by decide +kernel
theorem dX5_house_74 : decode cX5_house 74 = .ok (.iaload, 1) := by decide +kernel
theorem dX5_house_75 : decode cX5_house 75 = .ok (.ireturn, 1) := by decide +kernel
theorem dX5_house_76 : decode cX5_house 76 = .ok (.aload_n 0, 1) := by decide +kernel
theorem dX5_house_77 : decode cX5_house 77 = .ok (.getfield 44, 3) := by decide +kernel
theorem dX5_house_80 : decode cX5_house 80 = .ok (.getfield 109, 3) := by decide +kernel
theorem dX5_house_83 : decode cX5_house 83 = .ok (.bipush 36, 2) := by decide +kernel
theorem dX5_house_85 : decode cX5_house 85 = .ok (.iload_n 1, 1) := by decide +kernel
theorem dX5_house_86 : decode cX5_house 86 = .ok (.iadd, 1) := by decide +kernel
theorem dX5_house_87 : decode cX5_house 87 = .ok (.iaload, 1) := by decide +kernel
theorem dX5_house_88 : decode cX5_house 88 = .ok (.ireturn, 1) := by decide +kernel
theorem dX5_house_89 : decode cX5_house 89 = .ok (.aload_n 0, 1) := by decide +kernel
theorem dX5_house_90 : decode cX5_house 90 = .ok (.getfield 44, 3) := by decide +kernel
theorem dX5_house_93 : decode cX5_house 93 = .ok (.getfield 109, 3) := by decide +kernel
theorem dX5_house_96 : decode cX5_house 96 = .ok (.bipush 42, 2) := by decide +kernel
theorem dX5_house_98 : decode cX5_house 98 = .ok (.iload_n 1, 1) := by decide +kernel
theorem dX5_house_99 : decode cX5_house 99 = .ok (.iadd, 1) := by decide +kernel
theorem dX5_house_100 : decode cX5_house 100 = .ok (.iaload, 1) := by decide +kernel
theorem dX5_house_101 : decode cX5_house 101 = .ok (.ireturn, 1) := by decide +kernel
theorem dX5_house_102 : decode cX5_house 102 = .ok (.aload_n 0, 1) := by decide +kernel
theorem dX5_house_103 : decode cX5_house 103 = .ok (.getfield 44, 3) := by decide +kernel
theorem dX5_house_106 : decode cX5_house 106 = .ok (.getfield 109, 3) := by decide +kernel
theorem dX5_house_109 : decode cX5_house 109 = .ok (.bipush 48, 2) := by decide +kernel
theorem dX5_house_111 : decode cX5_house 111 = .ok (.iload_n 1, 1) := by decide +kernel
theorem dX5_house_112 : decode cX5_house 112 = .ok (.iadd, 1) := by decide +kernel
theorem dX5_house_113 : decode cX5_house 113 = .ok (.iaload, 1) := by decide +kernel
theorem dX5_house_114 : decode cX5_house 114 = .ok (.ireturn, 1) := by decide +kernel
theorem dX5_house_115 : decode cX5_house 115 = .ok (.aload_n 0, 1) := by decide +kernel
theorem dX5_house_116 : decode cX5_house 116 = .ok (.getfield 44, 3) := by decide +kernel
theorem dX5_house_119 : decode cX5_house 119 = .ok (.getfield 109, 3) := by decide +kernel
theorem dX5_house_122 : decode cX5_house 122 = .ok (.bipush 54, 2) := by decide +kernel
theorem dX5_house_124 : decode cX5_house 124 = .ok (.iload_n 1, 1) := by decide +kernel
theorem dX5_house_125 : decode cX5_house 125 = .ok (.iadd, 1) := by decide +kernel
theorem dX5_house_126 : decode cX5_house 126 = .ok (.iaload, 1) := by decide +kernel
theorem dX5_house_127 : decode cX5_house 127 = .ok (.ireturn, 1) := by decide +kernel
theorem dX5_house_128 : decode cX5_house 128 = .ok (.aload_n 0, 1) := by decide +kernel
theorem dX5_house_129 : decode cX5_house 129 = .ok (.invokevirtual 126, 3) := by decide +kernel
theorem dX5_house_132 : decode cX5_house 132 = .ok (.iload_n 1, 1) := by decide +kernel
theorem dX5_house_133 : decode cX5_house 133 = .ok (.invokevirtual 182, 3) := by decide +kernel
theorem dX5_house_136 : decode cX5_house 136 = .ok (.ireturn, 1) := by decide +kernel
theorem dX5_house_137 : decode cX5_house 137 = .ok (.aload_n 0, 1) := by decide +kernel
theorem dX5_house_138 : decode cX5_house 138 = .ok (.invokevirtual 126, 3) := by decide +kernel
theorem dX5_house_141 : decode cX5_house 141 = .ok (.iload_n 1, 1) := by decide +kernel
theorem dX5_house_142 : decode cX5_house 142 = .ok (.invokevirtual 185, 3) := by decide +kernel
theorem dX5_house_145 : decode cX5_house 145 = .ok (.ireturn, 1) := by decide +kernel
theorem dX5_house_146 : decode cX5_house 146 = .ok (.aload_n 0, 1) := by decide +kernel
theorem dX5_house_147 : decode cX5_house 147 = .ok (.invokevirtual 126, 3) := by decide +kernel
theorem dX5_house_150 : decode cX5_house 150 = .ok (.iload_n 1, 1) := by decide +kernel
theorem dX5_house_151 : decode cX5_house 151 = .ok (.invokevirtual 188, 3) := by decide +kernel
theorem dX5_house_154 : decode cX5_house 154 = .ok (.ireturn, 1) := by decide +kernel
theorem dX5_house_155 : decode cX5_house 155 = .ok (.new 146, 3) := by decide +kernel
theorem dX5_house_158 : decode cX5_house 158 = .ok (.dup, 1) := by decide +kernel
theorem dX5_house_159 : decode cX5_house 159 = .ok (.ldc 148, 2) := by decide +kernel
theorem dX5_house_161 : decode cX5_house 161 = .ok (.invokespecial 150, 3) := by decide +kernel
theorem dX5_house_164 : decode cX5_house 164 = .ok (.athrow, 1) := by decide +kernel
theorem dX5_miles_0 : decode cX5_miles 0 = .ok (.aload_n 0, 1) := by decide +kernel
theorem dX5_miles_1 : decode cX5_miles 1 = .ok (.iload_n 1, 1) := by decide +kernel
theorem dX5_miles_2 : decode cX5_miles 2 = .ok (.invokevirtual 173, 3) := by decide +kernel
theorem dX5_miles_5 : decode cX5_miles 5 = .ok (.iload_n 2, 1) := by decide +kernel
theorem dX5_miles_6 : decode cX5_miles 6 = .ok (.invokestatic 191, 3) := by decide +kernel
theorem dX5_miles_9 : decode cX5_miles 9 = .ok (.aload_n 0, 1) := by decide +kernel
theorem dX5_miles_10 : decode cX5_miles 10 = .ok (.invokevirtual 126, 3) := by decide +kernel
theorem dX5_miles_13 : decode cX5_miles 13 = .ok (.iload_n 1, 1) := by decide +kernel
theorem dX5_miles_14 : decode cX5_miles 14 = .ok (.invokevirtual 194, 3) := by decide +kernel
theorem dX5_miles_17 : decode cX5_miles 17 = .ok (.aload_n 0, 1) := by decide +kernel
theorem dX5_miles_18 : decode cX5_miles 18 = .ok (.getfield 37, 3) := by decide +kernel
theorem dX5_miles_21 : decode cX5_miles 21 = .ok (.getfield 197, 3) := by decide +kernel
theorem dX5_miles_24 : decode cX5_miles 24 = .ok (.iload_n 2, 1) := by decide +kernel
theorem dX5_miles_25 : decode cX5_miles 25 = .ok (.iaload, 1) := by decide +kernel
theorem dX5_miles_26 : decode cX5_miles 26 = .ok (.ireturn, 1) := by decide +kernel
theorem dX5_seen_0 : decode cX5_seen 0 = .ok (.aload_n 0, 1) := by decide +kernel
theorem dX5_seen_1 : decode cX5_seen 1 = .ok (.iload_n 1, 1) := by decide +kernel
theorem dX5_seen_2 : decode cX5_seen 2 = .ok (.invokevirtual 173, 3) := by decide +kernel
