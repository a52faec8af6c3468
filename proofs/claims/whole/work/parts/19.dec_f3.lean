theorem dX6_isWhat_0 : decode cX6_isWhat 0 = .ok (.aload_n 0, 1) := by decide +kernel
theorem dX6_isWhat_1 : decode cX6_isWhat 1 = .ok (.iload_n 1, 1) := by decide +kernel
theorem dX6_isWhat_2 : decode cX6_isWhat 2 = .ok (.iconst 0, 1) := by decide +kernel
theorem dX6_isWhat_3 : decode cX6_isWhat 3 = .ok (.iload_n 2, 1) := by decide +kernel
theorem dX6_isWhat_4 : decode cX6_isWhat 4 = .ok (.invokestatic 385, 3) := by decide +kernel
theorem dX6_isWhat_7 : decode cX6_isWhat 7 = .ok (.iconst 1, 1) := by decide +kernel
theorem dX6_isWhat_8 : decode cX6_isWhat 8 = .ok (.invokevirtual 290, 3) := by decide +kernel
theorem dX6_isWhat_11 : decode cX6_isWhat 11 = .ok (.ireturn, 1) := by decide +kernel
theorem dX6_seenFrom_0 : decode cX6_seenFrom 0 = .ok (.iconst 0, 1) := by decide +kernel
theorem dX6_seenFrom_1 : decode cX6_seenFrom 1 = .ok (.istore_n 2, 1) := by decide +kernel
theorem dX6_seenFrom_2 : decode cX6_seenFrom 2 = .ok (.iconst 0, 1) := by decide +kernel
theorem dX6_seenFrom_3 : decode cX6_seenFrom 3 = .ok (.istore_n 3, 1) := by decide +kernel
theorem dX6_seenFrom_4 : decode cX6_seenFrom 4 = .ok (.iload_n 3, 1) := by decide +kernel
theorem dX6_seenFrom_5 : decode cX6_seenFrom 5 = .ok (.aload_n 0, 1) := by decide +kernel
theorem dX6_seenFrom_6 : decode cX6_seenFrom 6 = .ok (.getfield 297, 3) := by decide +kernel
theorem dX6_seenFrom_9 : decode cX6_seenFrom 9 = .ok (.if_icmp .ge 37, 3) := by decide +kernel
theorem dX6_seenFrom_12 : decode cX6_seenFrom 12 = .ok (.aload_n 0, 1) := by decide +kernel
theorem dX6_seenFrom_13 : decode cX6_seenFrom 13 = .ok (.iload_n 3, 1) := by decide +kernel
theorem dX6_seenFrom_14 : decode cX6_seenFrom 14 = .ok (.invokevirtual 364, 3) := by decide +kernel
theorem dX6_seenFrom_17 : decode cX6_seenFrom 17 = .ok (.iload_n 2, 1) := by decide +kernel
theorem dX6_seenFrom_18 : decode cX6_seenFrom 18 = .ok (.aload_n 0, 1) := by decide +kernel
theorem dX6_seenFrom_19 : decode cX6_seenFrom 19 = .ok (.getfield 338, 3) := by decide +kernel
theorem dX6_seenFrom_22 : decode cX6_seenFrom 22 = .ok (.iload_n 1, 1) := by decide +kernel
theorem dX6_seenFrom_23 : decode cX6_seenFrom 23 = .ok (.lshr, 1) := by decide +kernel
theorem dX6_seenFrom_24 : decode cX6_seenFrom 24 = .ok (.lconst 1, 1) := by decide +kernel
theorem dX6_seenFrom_25 : decode cX6_seenFrom 25 = .ok (.land, 1) := by decide +kernel
theorem dX6_seenFrom_26 : decode cX6_seenFrom 26 = .ok (.lconst 1, 1) := by decide +kernel
theorem dX6_seenFrom_27 : decode cX6_seenFrom 27 = .ok (.lcmp, 1) := by decide +kernel
theorem dX6_seenFrom_28 : decode cX6_seenFrom 28 = .ok (.ifCond .ne 9, 3) := by decide +kernel
theorem dX6_seenFrom_31 : decode cX6_seenFrom 31 = .ok (.iconst 1, 1) := by decide +kernel
theorem dX6_seenFrom_32 : decode cX6_seenFrom 32 = .ok (.iload_n 3, 1) := by decide +kernel
theorem dX6_seenFrom_33 : decode cX6_seenFrom 33 = .ok (.ishl, 1) := by decide +kernel
theorem dX6_seenFrom_34 : decode cX6_seenFrom 34 = .ok (.goto 4, 3) := by decide +kernel
theorem dX6_seenFrom_37 : decode cX6_seenFrom 37 = .ok (.iconst 0, 1) := by decide +kernel
theorem dX6_seenFrom_38 : decode cX6_seenFrom 38 = .ok (.ior, 1) := by decide +kernel
theorem dX6_seenFrom_39 : decode cX6_seenFrom 39 = .ok (.istore_n 2, 1) := by decide +kernel
theorem dX6_seenFrom_40 : decode cX6_seenFrom 40 = .ok (.iinc 3 1, 3) := by decide +kernel
theorem dX6_seenFrom_43 : decode cX6_seenFrom 43 = .ok (.goto (-39), 3) := by decide +kernel
theorem dX6_seenFrom_46 : decode cX6_seenFrom 46 = .ok (.iload_n 2, 1) := by decide +kernel
theorem dX6_seenFrom_47 : decode cX6_seenFrom 47 = .ok (.ireturn, 1) := by decide +kernel
theorem dX6_cell_0 : decode cX6_cell 0 = .ok (.aload_n 0, 1) := by decide +kernel
theorem dX6_cell_1 : decode cX6_cell 1 = .ok (.iconst 0, 1) := by decide +kernel
theorem dX6_cell_2 : decode cX6_cell 2 = .ok (.putfield 129, 3) := by decide +kernel
theorem dX6_cell_5 : decode cX6_cell 5 = .ok (.aload_n 0, 1) := by decide +kernel
theorem dX6_cell_6 : decode cX6_cell 6 = .ok (.iload_n 1, 1) := by decide +kernel
theorem dX6_cell_7 : decode cX6_cell 7 = .ok (.invokevirtual 395, 3) := by decide +kernel
theorem dX6_cell_10 : decode cX6_cell 10 = .ok (.ifCond .eq 12, 3) := by decide +kernel
theorem dX6_cell_13 : decode cX6_cell 13 = .ok (.aload_n 0, 1) := by decide +kernel
theorem dX6_cell_14 : decode cX6_cell 14 = .ok (.iload_n 2, 1) := by decide +kernel
theorem dX6_cell_15 : decode cX6_cell 15 = .ok (.iconst 4, 1) := by decide +kernel
theorem dX6_cell_16 : decode cX6_cell 16 = .ok (.invokevirtual 398, 3) := by decide +kernel
theorem dX6_cell_19 : decode cX6_cell 19 = .ok (.ifCond .ne 5, 3) := by decide +kernel
theorem dX6_cell_22 : decode cX6_cell 22 = .ok (.iconst 0, 1) := by decide +kernel
theorem dX6_cell_23 : decode cX6_cell 23 = .ok (.ireturn, 1) := by decide +kernel
theorem dX6_cell_24 : decode cX6_cell 24 = .ok (.aload_n 0, 1) := by decide +kernel
theorem dX6_cell_25 : decode cX6_cell 25 = .ok (.invokevirtual 379, 3) := by decide +kernel
theorem dX6_cell_28 : decode cX6_cell 28 = .ok (.iload_n 2, 1) := by decide +kernel
theorem dX6_cell_29 : decode cX6_cell 29 = .ok (.ifCond .ne 12, 3) := by decide +kernel
theorem dX6_cell_32 : decode cX6_cell 32 = .ok (.aload_n 0, 1) := by decide +kernel
theorem dX6_cell_33 : decode cX6_cell 33 = .ok (.getfield 16, 3) := by decide +kernel
theorem dX6_cell_36 : decode cX6_cell 36 = .ok (.iload_n 1, 1) := by decide +kernel
theorem dX6_cell_37 : decode cX6_cell 37 = .ok (.iaload, 1) := by decide +kernel
theorem dX6_cell_38 : decode cX6_cell 38 = .ok (.goto 48, 3) := by decide +kernel
theorem dX6_cell_41 : decode cX6_cell 41 = .ok (.iload_n 2, 1) := by decide +kernel
theorem dX6_cell_42 : decode cX6_cell 42 = .ok (.iconst 1, 1) := by decide +kernel
theorem dX6_cell_43 : decode cX6_cell 43 = .ok (.if_icmp .ne 12, 3) := by decide +kernel
theorem dX6_cell_46 : decode cX6_cell 46 = .ok (.aload_n 0, 1) := by decide +kernel
theorem dX6_cell_47 : decode cX6_cell 47 = .ok (.getfield 84, 3) := by decide +kernel
theorem dX6_cell_50 : decode cX6_cell 50 = .ok (.iload_n 1, 1) := by decide +kernel
theorem dX6_cell_51 : decode cX6_cell 51 = .ok (.iaload, 1) := by decide +kernel
theorem dX6_cell_52 : decode cX6_cell 52 = .ok (.goto 34, 3) := by decide +kernel
theorem dX6_cell_55 : decode cX6_cell 55 = .ok (.iload_n 2, 1) := by decide +kernel
theorem dX6_cell_56 : decode cX6_cell 56 = .ok (.iconst 2, 1) := by decide +kernel
theorem dX6_cell_57 : decode cX6_cell 57 = .ok (.if_icmp .ne 11, 3) := by decide +kernel
theorem dX6_cell_60 : decode cX6_cell 60 = .ok (.aload_n 0, 1) := by decide +kernel
theorem dX6_cell_61 : decode cX6_cell 61 = .ok (.iload_n 1, 1) := by decide +kernel
theorem dX6_cell_62 : decode cX6_cell 62 = .ok (.invokevirtual 329, 3) := by decide +kernel
theorem dX6_cell_65 : decode cX6_cell 65 = .ok (.goto 21, 3) := by decide +kernel
theorem dX6_cell_68 : decode cX6_cell 68 = .ok (.iload_n 2, 1) := by decide +kernel
theorem dX6_cell_69 : decode cX6_cell 69 = .ok (.iconst 3, 1) := by decide +kernel
theorem dX6_cell_70 : decode cX6_cell 70 = .ok (.if_icmp .ne 11, 3) := by decide +kernel
theorem dX6_cell_73 : decode cX6_cell 73 = .ok (.aload_n 0, 1) := by decide +kernel
theorem dX6_cell_74 : decode cX6_cell 74 = .ok (.iload_n 1, 1) := by decide +kernel
theorem dX6_cell_75 : decode cX6_cell 75 = .ok (.invokevirtual 326, 3) := by decide +kernel
theorem dX6_cell_78 : decode cX6_cell 78 = .ok (.goto 8, 3) := by decide +kernel
theorem dX6_cell_81 : decode cX6_cell 81 = .ok (.aload_n 0, 1) := by decide +kernel
theorem dX6_cell_82 : decode cX6_cell 82 = .ok (.iload_n 1, 1) := by decide +kernel
theorem dX6_cell_83 : decode cX6_cell 83 = .ok (.invokevirtual 401, 3) := by decide +kernel
theorem dX6_cell_86 : decode cX6_cell 86 = .ok (.ireturn, 1) := by decide +kernel
theorem dX6_tree_0 : decode cX6_tree 0 = .ok (.aload_n 0, 1) := by decide +kernel
theorem dX6_tree_1 : decode cX6_tree 1 = .ok (.iconst 0, 1) := by decide +kernel
theorem dX6_tree_2 : decode cX6_tree 2 = .ok (.putfield 129, 3) := by decide +kernel
theorem dX6_tree_5 : decode cX6_tree 5 = .ok (.aload_n 0, 1) := by decide +kernel
theorem dX6_tree_6 : decode cX6_tree 6 = .ok (.iload_n 1, 1) := by decide +kernel
theorem dX6_tree_7 : decode cX6_tree 7 = .ok (.invokevirtual 404, 3) := by decide +kernel
theorem dX6_tree_10 : decode cX6_tree 10 = .ok (.ifCond .eq 26, 3) := by decide +kernel
theorem dX6_tree_13 : decode cX6_tree 13 = .ok (.aload_n 0, 1) := by decide +kernel
theorem dX6_tree_14 : decode cX6_tree 14 = .ok (.iload_n 2, 1) := by decide +kernel
theorem dX6_tree_15 : decode cX6_tree 15 = .ok (.iconst 2, 1) := by decide +kernel
theorem dX6_tree_16 : decode cX6_tree 16 = .ok (.invokevirtual 398, 3) := by decide +kernel
theorem dX6_tree_19 : decode cX6_tree 19 = .ok (.ifCond .eq 17, 3) := by decide +kernel
theorem dX6_tree_22 : decode cX6_tree 22 = .ok (.aload_n 0, 1) := by decide +kernel
theorem dX6_tree_23 : decode cX6_tree 23 = .ok (.getfield 75, 3) := by decide +kernel
theorem dX6_tree_26 : decode cX6_tree 26 = .ok (.bipush 12, 2) := by decide +kernel
theorem dX6_tree_28 : decode cX6_tree 28 = .ok (.iload_n 2, 1) := by decide +kernel
theorem dX6_tree_29 : decode cX6_tree 29 = .ok (.imul, 1) := by decide +kernel
theorem dX6_tree_30 : decode cX6_tree 30 = .ok (.iload_n 1, 1) := by decide +kernel
theorem dX6_tree_31 : decode cX6_tree 31 = .ok (.iadd, 1) := by decide +kernel
theorem dX6_tree_32 : decode cX6_tree 32 = .ok (.iaload, 1) := by decide +kernel
theorem dX6_tree_33 : decode cX6_tree 33 = .ok (.goto 4, 3) := by decide +kernel
theorem dX6_tree_36 : decode cX6_tree 36 = .ok (.iconst 0, 1) := by decide +kernel
theorem dX6_tree_37 : decode cX6_tree 37 = .ok (.ireturn, 1) := by decide +kernel
theorem dX6_house_0 : decode cX6_house 0 = .ok (.aload_n 0, 1) := by decide +kernel
theorem dX6_house_1 : decode cX6_house 1 = .ok (.iconst 0, 1) := by decide +kernel
theorem dX6_house_2 : decode cX6_house 2 = .ok (.putfield 129, 3) := by decide +kernel
theorem dX6_house_5 : decode cX6_house 5 = .ok (.aload_n 0, 1) := by decide +kernel
theorem dX6_house_6 : decode cX6_house 6 = .ok (.iload_n 1, 1) := by decide +kernel
theorem dX6_house_7 : decode cX6_house 7 = .ok (.invokevirtual 407, 3) := by decide +kernel
theorem dX6_house_10 : decode cX6_house 10 = .ok (.ifCond .eq 13, 3) := by decide +kernel
theorem dX6_house_13 : decode cX6_house 13 = .ok (.aload_n 0, 1) := by decide +kernel
theorem dX6_house_14 : decode cX6_house 14 = .ok (.iload_n 2, 1) := by decide +kernel
theorem dX6_house_15 : decode cX6_house 15 = .ok (.bipush 8, 2) := by decide +kernel
theorem dX6_house_17 : decode cX6_house 17 = .ok (.invokevirtual 398, 3) := by decide +kernel
theorem dX6_house_20 : decode cX6_house 20 = .ok (.ifCond .ne 5, 3) := by decide +kernel
theorem dX6_house_23 : decode cX6_house 23 = .ok (.iconst 0, 1) := by decide +kernel
theorem dX6_house_24 : decode cX6_house 24 = .ok (.ireturn, 1) := by decide +kernel
theorem dX6_house_25 : decode cX6_house 25 = .ok (.aload_n 0, 1) := by decide +kernel
theorem dX6_house_26 : decode cX6_house 26 = .ok (.invokevirtual 379, 3) := by decide +kernel
theorem dX6_house_29 : decode cX6_house 29 = .ok (.aload_n 0, 1) := by decide +kernel
theorem dX6_house_30 : decode cX6_house 30 = .ok (.iload_n 1, 1) := by decide +kernel
theorem dX6_house_31 : decode cX6_house 31 = .ok (.invokevirtual 364, 3) := by decide +kernel
theorem dX6_house_34 : decode cX6_house 34 = .ok (.iload_n 2, 1) := by decide +kernel
theorem dX6_house_35 : decode cX6_house 35 = .ok (.tableswitch 80 0 8 #[49, 56, 80, 80, 80, 80, 63, 68, 74], 49) := by decide +kernel
theorem dX6_house_84 : decode cX6_house 84 = .ok (.aload_n 0, 1) := by decide +kernel
theorem dX6_house_85 : decode cX6_house 85 = .ok (.getfield 20, 3) := by decide +kernel
theorem dX6_house_88 : decode cX6_house 88 = .ok (.iload_n 1, 1) := by decide +kernel
theorem dX6_house_89 : decode cX6_house 89 = .ok (.iaload, 1) := by decide +kernel
theorem dX6_house_90 : decode cX6_house 90 = .ok (.ireturn, 1) := by decide +kernel
theorem dX6_house_91 : decode cX6_house 91 = .ok (.aload_n 0, 1) := by decide +kernel
theorem dX6_house_92 : decode cX6_house 92 = .ok (.getfield 23, 3) := by decide +kernel
theorem dX6_house_95 : decode cX6_house 95 = .ok (.iload_n 1, 1) := by decide +kernel
theorem dX6_house_96 : decode cX6_house 96 = .ok (.iaload, 1) := by decide +kernel
theorem dX6_house_97 : decode cX6_house 97 = .ok (.ireturn, 1) := by decide +kernel
theorem dX6_house_98 : decode cX6_house 98 = .ok (.aload_n 0, 1) := by decide +kernel
theorem dX6_house_99 : decode cX6_house 99 = .ok (.getfield 354, 3) := by decide +kernel
theorem dX6_house_102 : decode cX6_house 102 = .ok (.ireturn, 1) := by decide +kernel
theorem dX6_house_103 : decode cX6_house 103 = .ok (.aload_n 0, 1) := by decide +kernel
theorem dX6_house_104 : decode cX6_house 104 = .ok (.iload_n 1, 1) := by decide +kernel
theorem dX6_house_105 : decode cX6_house 105 = .ok (.invokevirtual 410, 3) := by decide +kernel
theorem dX6_house_108 : decode cX6_house 108 = .ok (.ireturn, 1) := by decide +kernel
theorem dX6_house_109 : decode cX6_house 109 = .ok (.aload_n 0, 1) := by decide +kernel
theorem dX6_house_110 : decode cX6_house 110 = .ok (.iload_n 1, 1) := by decide +kernel
theorem dX6_house_111 : decode cX6_house 111 = .ok (.invokevirtual 367, 3) := by decide +kernel
theorem dX6_house_114 : decode cX6_house 114 = .ok (.ireturn, 1) := by decide +kernel
theorem dX6_house_115 : decode cX6_house 115 = .ok (.aload_n 0, 1) := by decide +kernel
theorem dX6_house_116 : decode cX6_house 116 = .ok (.getfield 75, 3) := by decide +kernel
theorem dX6_house_119 : decode cX6_house 119 = .ok (.bipush 36, 2) := by decide +kernel
theorem dX6_house_121 : decode cX6_house 121 = .ok (.bipush 6, 2) := by decide +kernel
theorem dX6_house_123 : decode cX6_house 123 = .ok (.iload_n 2, 1) := by decide +kernel
theorem dX6_house_124 : decode cX6_house 124 = .ok (.iconst 2, 1) := by decide +kernel
theorem dX6_house_125 : decode cX6_house 125 = .ok (.isub, 1) := by decide +kernel
theorem dX6_house_126 : decode cX6_house 126 = .ok (.imul, 1) := by decide +kernel
theorem dX6_house_127 : decode cX6_house 127 = .ok (.iadd, 1) := by decide +kernel
theorem dX6_house_128 : decode cX6_house 128 = .ok (.iload_n 1, 1) := by decide +kernel
theorem dX6_house_129 : decode cX6_house 129 = .ok (.iadd, 1) := by decide +kernel
theorem dX6_house_130 : decode cX6_house 130 = .ok (.iaload, 1) := by decide +kernel
theorem dX6_house_131 : decode cX6_house 131 = .ok (.ireturn, 1) := by decide +kernel
theorem dX6_miles_0 : decode cX6_miles 0 = .ok (.aload_n 0, 1) := by decide +kernel
theorem dX6_miles_1 : decode cX6_miles 1 = .ok (.iconst 0, 1) := by decide +kernel
theorem dX6_miles_2 : decode cX6_miles 2 = .ok (.putfield 129, 3) := by decide +kernel
theorem dX6_miles_5 : decode cX6_miles 5 = .ok (.aload_n 0, 1) := by decide +kernel
theorem dX6_miles_6 : decode cX6_miles 6 = .ok (.iload_n 1, 1) := by decide +kernel
theorem dX6_miles_7 : decode cX6_miles 7 = .ok (.invokevirtual 407, 3) := by decide +kernel
theorem dX6_miles_10 : decode cX6_miles 10 = .ok (.ifCond .eq 13, 3) := by decide +kernel
theorem dX6_miles_13 : decode cX6_miles 13 = .ok (.aload_n 0, 1) := by decide +kernel
theorem dX6_miles_14 : decode cX6_miles 14 = .ok (.iload_n 2, 1) := by decide +kernel
theorem dX6_miles_15 : decode cX6_miles 15 = .ok (.bipush 7, 2) := by decide +kernel
theorem dX6_miles_17 : decode cX6_miles 17 = .ok (.invokevirtual 398, 3) := by decide +kernel
theorem dX6_miles_20 : decode cX6_miles 20 = .ok (.ifCond .ne 5, 3) := by decide +kernel
theorem dX6_miles_23 : decode cX6_miles 23 = .ok (.iconst 0, 1) := by decide +kernel
theorem dX6_miles_24 : decode cX6_miles 24 = .ok (.ireturn, 1) := by decide +kernel
theorem dX6_miles_25 : decode cX6_miles 25 = .ok (.aload_n 0, 1) := by decide +kernel
theorem dX6_miles_26 : decode cX6_miles 26 = .ok (.invokevirtual 379, 3) := by decide +kernel
theorem dX6_miles_29 : decode cX6_miles 29 = .ok (.aload_n 0, 1) := by decide +kernel
theorem dX6_miles_30 : decode cX6_miles 30 = .ok (.iload_n 1, 1) := by decide +kernel
theorem dX6_miles_31 : decode cX6_miles 31 = .ok (.iload_n 2, 1) := by decide +kernel
theorem dX6_miles_32 : decode cX6_miles 32 = .ok (.invokevirtual 357, 3) := by decide +kernel
theorem dX6_miles_35 : decode cX6_miles 35 = .ok (.ireturn, 1) := by decide +kernel
theorem dX6_seen_0 : decode cX6_seen 0 = .ok (.aload_n 0, 1) := by decide +kernel
theorem dX6_seen_1 : decode cX6_seen 1 = .ok (.iconst 0, 1) := by decide +kernel
theorem dX6_seen_2 : decode cX6_seen 2 = .ok (.putfield 129, 3) := by decide +kernel
theorem dX6_seen_5 : decode cX6_seen 5 = .ok (.aload_n 0, 1) := by decide +kernel
theorem dX6_seen_6 : decode cX6_seen 6 = .ok (.iload_n 1, 1) := by decide +kernel
theorem dX6_seen_7 : decode cX6_seen 7 = .ok (.invokevirtual 407, 3) := by decide +kernel
theorem dX6_seen_10 : decode cX6_seen 10 = .ok (.ifCond .ne 5, 3) := by decide +kernel
theorem dX6_seen_13 : decode cX6_seen 13 = .ok (.lconst 0, 1) := by decide +kernel
theorem dX6_seen_14 : decode cX6_seen 14 = .ok (.lreturn, 1) := by decide +kernel
theorem dX6_seen_15 : decode cX6_seen 15 = .ok (.aload_n 0, 1) := by decide +kernel
theorem dX6_seen_16 : decode cX6_seen 16 = .ok (.invokevirtual 379, 3) := by decide +kernel
theorem dX6_seen_19 : decode cX6_seen 19 = .ok (.aload_n 0, 1) := by decide +kernel
theorem dX6_seen_20 : decode cX6_seen 20 = .ok (.iload_n 1, 1) := by decide +kernel
theorem dX6_seen_21 : decode cX6_seen 21 = .ok (.invokevirtual 364, 3) := by decide +kernel
theorem dX6_seen_24 : decode cX6_seen 24 = .ok (.aload_n 0, 1) := by decide +kernel
theorem dX6_seen_25 : decode cX6_seen 25 = .ok (.getfield 338, 3) := by decide +kernel
theorem dX6_seen_28 : decode cX6_seen 28 = .ok (.lreturn, 1) := by decide +kernel
theorem dX6_yearGoes_0 : decode cX6_yearGoes 0 = .ok (.aload_n 0, 1) := by decide +kernel
theorem dX6_yearGoes_1 : decode cX6_yearGoes 1 = .ok (.invokevirtual 379, 3) := by decide +kernel
theorem dX6_yearGoes_4 : decode cX6_yearGoes 4 = .ok (.iconst 0, 1) := by decide +kernel
theorem dX6_yearGoes_5 : decode cX6_yearGoes 5 = .ok (.istore_n 1, 1) := by decide +kernel
theorem dX6_yearGoes_6 : decode cX6_yearGoes 6 = .ok (.iconst 0, 1) := by decide +kernel
theorem dX6_yearGoes_7 : decode cX6_yearGoes 7 = .ok (.istore_n 2, 1) := by decide +kernel
theorem dX6_yearGoes_8 : decode cX6_yearGoes 8 = .ok (.iload_n 2, 1) := by decide +kernel
theorem dX6_yearGoes_9 : decode cX6_yearGoes 9 = .ok (.aload_n 0, 1) := by decide +kernel
theorem dX6_yearGoes_10 : decode cX6_yearGoes 10 = .ok (.getfield 297, 3) := by decide +kernel
theorem dX6_yearGoes_13 : decode cX6_yearGoes 13 = .ok (.if_icmp .ge 32, 3) := by decide +kernel
theorem dX6_yearGoes_16 : decode cX6_yearGoes 16 = .ok (.aload_n 0, 1) := by decide +kernel
theorem dX6_yearGoes_17 : decode cX6_yearGoes 17 = .ok (.iload_n 2, 1) := by decide +kernel
theorem dX6_yearGoes_18 : decode cX6_yearGoes 18 = .ok (.invokevirtual 410, 3) := by decide +kernel
theorem dX6_yearGoes_21 : decode cX6_yearGoes 21 = .ok (.istore_n 3, 1) := by decide +kernel
theorem dX6_yearGoes_22 : decode cX6_yearGoes 22 = .ok (.aload_n 0, 1) := by decide +kernel
theorem dX6_yearGoes_23 : decode cX6_yearGoes 23 = .ok (.getfield 75, 3) := by decide +kernel
theorem dX6_yearGoes_26 : decode cX6_yearGoes 26 = .ok (.bipush 36, 2) := by decide +kernel
theorem dX6_yearGoes_28 : decode cX6_yearGoes 28 = .ok (.iload_n 2, 1) := by decide +kernel
theorem dX6_yearGoes_29 : decode cX6_yearGoes 29 = .ok (.iadd, 1) := by decide +kernel
theorem dX6_yearGoes_30 : decode cX6_yearGoes 30 = .ok (.dup2, 1) := by decide +kernel
theorem dX6_yearGoes_31 : decode cX6_yearGoes 31 = .ok (.iaload, 1) := by decide +kernel
theorem dX6_yearGoes_32 : decode cX6_yearGoes 32 = .ok (.iload_n 3, 1) := by decide +kernel
theorem dX6_yearGoes_33 : decode cX6_yearGoes 33 = .ok (.isub, 1) := by decide +kernel
theorem dX6_yearGoes_34 : decode cX6_yearGoes 34 = .ok (.iastore, 1) := by decide +kernel
theorem dX6_yearGoes_35 : decode cX6_yearGoes 35 = .ok (.iload_n 1, 1) := by decide +kernel
theorem dX6_yearGoes_36 : decode cX6_yearGoes 36 = .ok (.iload_n 3, 1) := by decide +kernel
theorem dX6_yearGoes_37 : decode cX6_yearGoes 37 = .ok (.iadd, 1) := by decide +kernel
theorem dX6_yearGoes_38 : decode cX6_yearGoes 38 = .ok (.istore_n 1, 1) := by decide +kernel
theorem dX6_yearGoes_39 : decode cX6_yearGoes 39 = .ok (.iinc 2 1, 3) := by decide +kernel
theorem dX6_yearGoes_42 : decode cX6_yearGoes 42 = .ok (.goto (-34), 3) := by decide +kernel
theorem dX6_yearGoes_45 : decode cX6_yearGoes 45 = .ok (.iconst 0, 1) := by decide +kernel
theorem dX6_yearGoes_46 : decode cX6_yearGoes 46 = .ok (.istore_n 2, 1) := by decide +kernel
theorem dX6_yearGoes_47 : decode cX6_yearGoes 47 = .ok (.iload_n 2, 1) := by decide +kernel
theorem dX6_yearGoes_48 : decode cX6_yearGoes 48 = .ok (.bipush 12, 2) := by decide +kernel
theorem dX6_yearGoes_50 : decode cX6_yearGoes 50 = .ok (.if_icmp .ge 55, 3) := by decide +kernel
theorem dX6_yearGoes_53 : decode cX6_yearGoes 53 = .ok (.aload_n 0, 1) := by decide +kernel
theorem dX6_yearGoes_54 : decode cX6_yearGoes 54 = .ok (.getfield 75, 3) := by decide +kernel
theorem dX6_yearGoes_57 : decode cX6_yearGoes 57 = .ok (.iconst 0, 1) := by decide +kernel
theorem dX6_yearGoes_58 : decode cX6_yearGoes 58 = .ok (.iload_n 2, 1) := by decide +kernel
theorem dX6_yearGoes_59 : decode cX6_yearGoes 59 = .ok (.iadd, 1) := by decide +kernel
theorem dX6_yearGoes_60 : decode cX6_yearGoes 60 = .ok (.iaload, 1) := by decide +kernel
theorem dX6_yearGoes_61 : decode cX6_yearGoes 61 = .ok (.iconst (-1), 1) := by decide +kernel
theorem dX6_yearGoes_62 : decode cX6_yearGoes 62 = .ok (.if_icmp .eq 37, 3) := by decide +kernel
theorem dX6_yearGoes_65 : decode cX6_yearGoes 65 = .ok (.aload_n 0, 1) := by decide +kernel
theorem dX6_yearGoes_66 : decode cX6_yearGoes 66 = .ok (.getfield 75, 3) := by decide +kernel
theorem dX6_yearGoes_69 : decode cX6_yearGoes 69 = .ok (.bipush 12, 2) := by decide +kernel
theorem dX6_yearGoes_71 : decode cX6_yearGoes 71 = .ok (.iload_n 2, 1) := by decide +kernel
theorem dX6_yearGoes_72 : decode cX6_yearGoes 72 = .ok (.iadd, 1) := by decide +kernel
theorem dX6_yearGoes_73 : decode cX6_yearGoes 73 = .ok (.iaload, 1) := by decide +kernel
theorem dX6_yearGoes_74 : decode cX6_yearGoes 74 = .ok (.aload_n 0, 1) := by decide +kernel
theorem dX6_yearGoes_75 : decode cX6_yearGoes 75 = .ok (.getfield 75, 3) := by decide +kernel
theorem dX6_yearGoes_78 : decode cX6_yearGoes 78 = .ok (.bipush 24, 2) := by decide +kernel
theorem dX6_yearGoes_80 : decode cX6_yearGoes 80 = .ok (.iload_n 2, 1) := by decide +kernel
theorem dX6_yearGoes_81 : decode cX6_yearGoes 81 = .ok (.iadd, 1) := by decide +kernel
theorem dX6_yearGoes_82 : decode cX6_yearGoes 82 = .ok (.iaload, 1) := by decide +kernel
theorem dX6_yearGoes_83 : decode cX6_yearGoes 83 = .ok (.if_icmp .ge 16, 3) := by decide +kernel
theorem dX6_yearGoes_86 : decode cX6_yearGoes 86 = .ok (.aload_n 0, 1) := by decide +kernel
theorem dX6_yearGoes_87 : decode cX6_yearGoes 87 = .ok (.getfield 75, 3) := by decide +kernel
theorem dX6_yearGoes_90 : decode cX6_yearGoes 90 = .ok (.bipush 12, 2) := by decide +kernel
theorem dX6_yearGoes_92 : decode cX6_yearGoes 92 = .ok (.iload_n 2, 1) := by decide +kernel
theorem dX6_yearGoes_93 : decode cX6_yearGoes 93 = .ok (.iadd, 1) := by decide +kernel
theorem dX6_yearGoes_94 : decode cX6_yearGoes 94 = .ok (.dup2, 1) := by decide +kernel
theorem dX6_yearGoes_95 : decode cX6_yearGoes 95 = .ok (.iaload, 1) := by decide +kernel
theorem dX6_yearGoes_96 : decode cX6_yearGoes 96 = .ok (.iconst 1, 1) := by decide +kernel
theorem dX6_yearGoes_97 : decode cX6_yearGoes 97 = .ok (.iadd, 1) := by decide +kernel
theorem dX6_yearGoes_98 : decode cX6_yearGoes 98 = .ok (.iastore, 1) := by decide +kernel
theorem dX6_yearGoes_99 : decode cX6_yearGoes 99 = .ok (.iinc 2 1, 3) := by decide +kernel
theorem dX6_yearGoes_102 : decode cX6_yearGoes 102 = .ok (.goto (-55), 3) := by decide +kernel
theorem dX6_yearGoes_105 : decode cX6_yearGoes 105 = .ok (.aload_n 0, 1) := by decide +kernel
theorem dX6_yearGoes_106 : decode cX6_yearGoes 106 = .ok (.getfield 75, 3) := by decide +kernel
theorem dX6_yearGoes_109 : decode cX6_yearGoes 109 = .ok (.bipush 61, 2) := by decide +kernel
theorem dX6_yearGoes_111 : decode cX6_yearGoes 111 = .ok (.dup2, 1) := by decide +kernel
theorem dX6_yearGoes_112 : decode cX6_yearGoes 112 = .ok (.iaload, 1) := by decide +kernel
theorem dX6_yearGoes_113 : decode cX6_yearGoes 113 = .ok (.iconst 1, 1) := by decide +kernel
theorem dX6_yearGoes_114 : decode cX6_yearGoes 114 = .ok (.iadd, 1) := by decide +kernel
theorem dX6_yearGoes_115 : decode cX6_yearGoes 115 = .ok (.iastore, 1) := by decide +kernel
theorem dX6_yearGoes_116 : decode cX6_yearGoes 116 = .ok (.iload_n 1, 1) := by decide +kernel
theorem dX6_yearGoes_117 : decode cX6_yearGoes 117 = .ok (.ireturn, 1) := by decide +kernel
theorem dX6_years_0 : decode cX6_years 0 = .ok (.aload_n 0, 1) := by decide +kernel
theorem dX6_years_1 : decode cX6_years 1 = .ok (.iconst 0, 1) := by decide +kernel
theorem dX6_years_2 : decode cX6_years 2 = .ok (.putfield 129, 3) := by decide +kernel
theorem dX6_years_5 : decode cX6_years 5 = .ok (.iload_n 1, 1) := by decide +kernel
theorem dX6_years_6 : decode cX6_years 6 = .ok (.iconst 1, 1) := by decide +kernel
theorem dX6_years_7 : decode cX6_years 7 = .ok (.bipush 20, 2) := by decide +kernel
theorem dX6_years_9 : decode cX6_years 9 = .ok (.invokestatic 385, 3) := by decide +kernel
theorem dX6_years_12 : decode cX6_years 12 = .ok (.ifCond .eq 18, 3) := by decide +kernel
theorem dX6_years_15 : decode cX6_years 15 = .ok (.aload_n 0, 1) := by decide +kernel
theorem dX6_years_16 : decode cX6_years 16 = .ok (.getfield 75, 3) := by decide +kernel
theorem dX6_years_19 : decode cX6_years 19 = .ok (.bipush 61, 2) := by decide +kernel
theorem dX6_years_21 : decode cX6_years 21 = .ok (.iaload, 1) := by decide +kernel
theorem dX6_years_22 : decode cX6_years 22 = .ok (.iload_n 1, 1) := by decide +kernel
theorem dX6_years_23 : decode cX6_years 23 = .ok (.iadd, 1) := by decide +kernel
theorem dX6_years_24 : decode cX6_years 24 = .ok (.sipush 999, 3) := by decide +kernel
theorem dX6_years_27 : decode cX6_years 27 = .ok (.if_icmp .le 10, 3) := by decide +kernel
theorem dX6_years_30 : decode cX6_years 30 = .ok (.aload_n 0, 1) := by decide +kernel
theorem dX6_years_31 : decode cX6_years 31 = .ok (.iconst 1, 1) := by decide +kernel
theorem dX6_years_32 : decode cX6_years 32 = .ok (.iconst (-1), 1) := by decide +kernel
theorem dX6_years_33 : decode cX6_years 33 = .ok (.invokevirtual 413, 3) := by decide +kernel
theorem dX6_years_36 : decode cX6_years 36 = .ok (.ireturn, 1) := by decide +kernel
theorem dX6_years_37 : decode cX6_years 37 = .ok (.aload_n 0, 1) := by decide +kernel
theorem dX6_years_38 : decode cX6_years 38 = .ok (.invokevirtual 416, 3) := by decide +kernel
theorem dX6_years_41 : decode cX6_years 41 = .ok (.iconst 0, 1) := by decide +kernel
theorem dX6_years_42 : decode cX6_years 42 = .ok (.istore_n 2, 1) := by decide +kernel
theorem dX6_years_43 : decode cX6_years 43 = .ok (.iload_n 2, 1) := by decide +kernel
theorem dX6_years_44 : decode cX6_years 44 = .ok (.iload_n 1, 1) := by decide +kernel
theorem dX6_years_45 : decode cX6_years 45 = .ok (.if_icmp .ge 14, 3) := by decide +kernel
theorem dX6_years_48 : decode cX6_years 48 = .ok (.aload_n 0, 1) := by decide +kernel
theorem dX6_years_49 : decode cX6_years 49 = .ok (.invokevirtual 419, 3) := by decide +kernel
theorem dX6_years_52 : decode cX6_years 52 = .ok (.pop, 1) := by decide +kernel
theorem dX6_years_53 : decode cX6_years 53 = .ok (.iinc 2 1, 3) := by decide +kernel
theorem dX6_years_56 : decode cX6_years 56 = .ok (.goto (-13), 3) := by decide +kernel
theorem dX6_years_59 : decode cX6_years 59 = .ok (.aload_n 0, 1) := by decide +kernel
theorem dX6_years_60 : decode cX6_years 60 = .ok (.getfield 75, 3) := by decide +kernel
theorem dX6_years_63 : decode cX6_years 63 = .ok (.bipush 61, 2) := by decide +kernel
theorem dX6_years_65 : decode cX6_years 65 = .ok (.iaload, 1) := by decide +kernel
theorem dX6_years_66 : decode cX6_years 66 = .ok (.ireturn, 1) := by decide +kernel
theorem dX6_isBare_0 : decode cX6_isBare 0 = .ok (.aload_n 0, 1) := by decide +kernel
theorem dX6_isBare_1 : decode cX6_isBare 1 = .ok (.iload_n 1, 1) := by decide +kernel
theorem dX6_isBare_2 : decode cX6_isBare 2 = .ok (.invokevirtual 329, 3) := by decide +kernel
theorem dX6_isBare_5 : decode cX6_isBare 5 = .ok (.iconst (-1), 1) := by decide +kernel
theorem dX6_isBare_6 : decode cX6_isBare 6 = .ok (.if_icmp .ne 16, 3) := by decide +kernel
theorem dX6_isBare_9 : decode cX6_isBare 9 = .ok (.aload_n 0, 1) := by decide +kernel
theorem dX6_isBare_10 : decode cX6_isBare 10 = .ok (.iload_n 1, 1) := by decide +kernel
theorem dX6_isBare_11 : decode cX6_isBare 11 = .ok (.invokevirtual 326, 3) := by decide +kernel
theorem dX6_isBare_14 : decode cX6_isBare 14 = .ok (.iconst (-1), 1) := by decide +kernel
theorem dX6_isBare_15 : decode cX6_isBare 15 = .ok (.if_icmp .ne 7, 3) := by decide +kernel
theorem dX6_isBare_18 : decode cX6_isBare 18 = .ok (.iconst 1, 1) := by decide +kernel
theorem dX6_isBare_19 : decode cX6_isBare 19 = .ok (.goto 4, 3) := by decide +kernel
theorem dX6_isBare_22 : decode cX6_isBare 22 = .ok (.iconst 0, 1) := by decide +kernel
theorem dX6_isBare_23 : decode cX6_isBare 23 = .ok (.ireturn, 1) := by decide +kernel
theorem dX6_plant_0 : decode cX6_plant 0 = .ok (.aload_n 0, 1) := by decide +kernel
theorem dX6_plant_1 : decode cX6_plant 1 = .ok (.iconst 0, 1) := by decide +kernel
theorem dX6_plant_2 : decode cX6_plant 2 = .ok (.putfield 129, 3) := by decide +kernel
theorem dX6_plant_5 : decode cX6_plant 5 = .ok (.aload_n 0, 1) := by decide +kernel
theorem dX6_plant_6 : decode cX6_plant 6 = .ok (.iload_n 1, 1) := by decide +kernel
theorem dX6_plant_7 : decode cX6_plant 7 = .ok (.invokevirtual 395, 3) := by decide +kernel
theorem dX6_plant_10 : decode cX6_plant 10 = .ok (.ifCond .ne 5, 3) := by decide +kernel
theorem dX6_plant_13 : decode cX6_plant 13 = .ok (.iconst 0, 1) := by decide +kernel
theorem dX6_plant_14 : decode cX6_plant 14 = .ok (.ireturn, 1) := by decide +kernel
theorem dX6_plant_15 : decode cX6_plant 15 = .ok (.iconst 0, 1) := by decide +kernel
theorem dX6_plant_16 : decode cX6_plant 16 = .ok (.istore_n 3, 1) := by decide +kernel
theorem dX6_plant_17 : decode cX6_plant 17 = .ok (.iload_n 3, 1) := by decide +kernel
theorem dX6_plant_18 : decode cX6_plant 18 = .ok (.bipush 12, 2) := by decide +kernel
theorem dX6_plant_20 : decode cX6_plant 20 = .ok (.if_icmp .ge 21, 3) := by decide +kernel
theorem dX6_plant_23 : decode cX6_plant 23 = .ok (.aload_n 0, 1) := by decide +kernel
theorem dX6_plant_24 : decode cX6_plant 24 = .ok (.getfield 75, 3) := by decide +kernel
theorem dX6_plant_27 : decode cX6_plant 27 = .ok (.iconst 0, 1) := by decide +kernel
theorem dX6_plant_28 : decode cX6_plant 28 = .ok (.iload_n 3, 1) := by decide +kernel
theorem dX6_plant_29 : decode cX6_plant 29 = .ok (.iadd, 1) := by decide +kernel
theorem dX6_plant_30 : decode cX6_plant 30 = .ok (.iaload, 1) := by decide +kernel
theorem dX6_plant_31 : decode cX6_plant 31 = .ok (.iconst (-1), 1) := by decide +kernel
theorem dX6_plant_32 : decode cX6_plant 32 = .ok (.if_icmp .eq 9, 3) := by decide +kernel
theorem dX6_plant_35 : decode cX6_plant 35 = .ok (.iinc 3 1, 3) := by decide +kernel
theorem dX6_plant_38 : decode cX6_plant 38 = .ok (.goto (-21), 3) := by decide +kernel
theorem dX6_plant_41 : decode cX6_plant 41 = .ok (.iload_n 3, 1) := by decide +kernel
theorem dX6_plant_42 : decode cX6_plant 42 = .ok (.bipush 12, 2) := by decide +kernel
theorem dX6_plant_44 : decode cX6_plant 44 = .ok (.if_icmp .eq 21, 3) := by decide +kernel
theorem dX6_plant_47 : decode cX6_plant 47 = .ok (.iload_n 2, 1) := by decide +kernel
theorem dX6_plant_48 : decode cX6_plant 48 = .ok (.iconst 1, 1) := by decide +kernel
theorem dX6_plant_49 : decode cX6_plant 49 = .ok (.bipush 9, 2) := by decide +kernel
theorem dX6_plant_51 : decode cX6_plant 51 = .ok (.invokestatic 385, 3) := by decide +kernel
theorem dX6_plant_54 : decode cX6_plant 54 = .ok (.ifCond .eq 11, 3) := by decide +kernel
theorem dX6_plant_57 : decode cX6_plant 57 = .ok (.aload_n 0, 1) := by decide +kernel
theorem dX6_plant_58 : decode cX6_plant 58 = .ok (.iload_n 1, 1) := by decide +kernel
theorem dX6_plant_59 : decode cX6_plant 59 = .ok (.invokevirtual 422, 3) := by decide +kernel
theorem dX6_plant_62 : decode cX6_plant 62 = .ok (.ifCond .ne 10, 3) := by decide +kernel
theorem dX6_plant_65 : decode cX6_plant 65 = .ok (.aload_n 0, 1) := by decide +kernel
theorem dX6_plant_66 : decode cX6_plant 66 = .ok (.iconst 1, 1) := by decide +kernel
theorem dX6_plant_67 : decode cX6_plant 67 = .ok (.iconst (-1), 1) := by decide +kernel
theorem dX6_plant_68 : decode cX6_plant 68 = .ok (.invokevirtual 413, 3) := by decide +kernel
theorem dX6_plant_71 : decode cX6_plant 71 = .ok (.ireturn, 1) := by decide +kernel
theorem dX6_plant_72 : decode cX6_plant 72 = .ok (.aload_n 0, 1) := by decide +kernel
theorem dX6_plant_73 : decode cX6_plant 73 = .ok (.invokevirtual 416, 3) := by decide +kernel
theorem dX6_plant_76 : decode cX6_plant 76 = .ok (.aload_n 0, 1) := by decide +kernel
theorem dX6_plant_77 : decode cX6_plant 77 = .ok (.getfield 75, 3) := by decide +kernel
theorem dX6_plant_80 : decode cX6_plant 80 = .ok (.iconst 0, 1) := by decide +kernel
theorem dX6_plant_81 : decode cX6_plant 81 = .ok (.iload_n 3, 1) := by decide +kernel
theorem dX6_plant_82 : decode cX6_plant 82 = .ok (.iadd, 1) := by decide +kernel
theorem dX6_plant_83 : decode cX6_plant 83 = .ok (.iload_n 1, 1) := by decide +kernel
theorem dX6_plant_84 : decode cX6_plant 84 = .ok (.iastore, 1) := by decide +kernel
theorem dX6_plant_85 : decode cX6_plant 85 = .ok (.aload_n 0, 1) := by decide +kernel
theorem dX6_plant_86 : decode cX6_plant 86 = .ok (.getfield 75, 3) := by decide +kernel
theorem dX6_plant_89 : decode cX6_plant 89 = .ok (.bipush 12, 2) := by decide +kernel
theorem dX6_plant_91 : decode cX6_plant 91 = .ok (.iload_n 3, 1) := by decide +kernel
theorem dX6_plant_92 : decode cX6_plant 92 = .ok (.iadd, 1) := by decide +kernel
theorem dX6_plant_93 : decode cX6_plant 93 = .ok (.iconst 1, 1) := by decide +kernel
theorem dX6_plant_94 : decode cX6_plant 94 = .ok (.iastore, 1) := by decide +kernel
theorem dX6_plant_95 : decode cX6_plant 95 = .ok (.aload_n 0, 1) := by decide +kernel
theorem dX6_plant_96 : decode cX6_plant 96 = .ok (.getfield 75, 3) := by decide +kernel
theorem dX6_plant_99 : decode cX6_plant 99 = .ok (.bipush 24, 2) := by decide +kernel
theorem dX6_plant_101 : decode cX6_plant 101 = .ok (.iload_n 3, 1) := by decide +kernel
theorem dX6_plant_102 : decode cX6_plant 102 = .ok (.iadd, 1) := by decide +kernel
theorem dX6_plant_103 : decode cX6_plant 103 = .ok (.iload_n 2, 1) := by decide +kernel
theorem dX6_plant_104 : decode cX6_plant 104 = .ok (.iastore, 1) := by decide +kernel
theorem dX6_plant_105 : decode cX6_plant 105 = .ok (.iload_n 3, 1) := by decide +kernel
theorem dX6_plant_106 : decode cX6_plant 106 = .ok (.ireturn, 1) := by decide +kernel
theorem dX6_fell_0 : decode cX6_fell 0 = .ok (.aload_n 0, 1) := by decide +kernel
theorem dX6_fell_1 : decode cX6_fell 1 = .ok (.iconst 0, 1) := by decide +kernel
theorem dX6_fell_2 : decode cX6_fell 2 = .ok (.putfield 129, 3) := by decide +kernel
theorem dX6_fell_5 : decode cX6_fell 5 = .ok (.aload_n 0, 1) := by decide +kernel
theorem dX6_fell_6 : decode cX6_fell 6 = .ok (.iload_n 1, 1) := by decide +kernel
theorem dX6_fell_7 : decode cX6_fell 7 = .ok (.invokevirtual 404, 3) := by decide +kernel
theorem dX6_fell_10 : decode cX6_fell 10 = .ok (.ifCond .ne 5, 3) := by decide +kernel
theorem dX6_fell_13 : decode cX6_fell 13 = .ok (.iconst 0, 1) := by decide +kernel
theorem dX6_fell_14 : decode cX6_fell 14 = .ok (.ireturn, 1) := by decide +kernel
theorem dX6_fell_15 : decode cX6_fell 15 = .ok (.aload_n 0, 1) := by decide +kernel
theorem dX6_fell_16 : decode cX6_fell 16 = .ok (.invokevirtual 416, 3) := by decide +kernel
theorem dX6_fell_19 : decode cX6_fell 19 = .ok (.aload_n 0, 1) := by decide +kernel
theorem dX6_fell_20 : decode cX6_fell 20 = .ok (.getfield 75, 3) := by decide +kernel
theorem dX6_fell_23 : decode cX6_fell 23 = .ok (.iconst 0, 1) := by decide +kernel
theorem dX6_fell_24 : decode cX6_fell 24 = .ok (.iload_n 1, 1) := by decide +kernel
theorem dX6_fell_25 : decode cX6_fell 25 = .ok (.iadd, 1) := by decide +kernel
theorem dX6_fell_26 : decode cX6_fell 26 = .ok (.iaload, 1) := by decide +kernel
theorem dX6_fell_27 : decode cX6_fell 27 = .ok (.istore_n 2, 1) := by decide +kernel
theorem dX6_fell_28 : decode cX6_fell 28 = .ok (.aload_n 0, 1) := by decide +kernel
theorem dX6_fell_29 : decode cX6_fell 29 = .ok (.getfield 75, 3) := by decide +kernel
theorem dX6_fell_32 : decode cX6_fell 32 = .ok (.iconst 0, 1) := by decide +kernel
theorem dX6_fell_33 : decode cX6_fell 33 = .ok (.iload_n 1, 1) := by decide +kernel
theorem dX6_fell_34 : decode cX6_fell 34 = .ok (.iadd, 1) := by decide +kernel
theorem dX6_fell_35 : decode cX6_fell 35 = .ok (.iconst (-1), 1) := by decide +kernel
theorem dX6_fell_36 : decode cX6_fell 36 = .ok (.iastore, 1) := by decide +kernel
theorem dX6_fell_37 : decode cX6_fell 37 = .ok (.iload_n 2, 1) := by decide +kernel
theorem dX6_fell_38 : decode cX6_fell 38 = .ok (.ireturn, 1) := by decide +kernel
theorem dX6_becomes_0 : decode cX6_becomes 0 = .ok (.aload_n 0, 1) := by decide +kernel
theorem dX6_becomes_1 : decode cX6_becomes 1 = .ok (.invokevirtual 416, 3) := by decide +kernel
theorem dX6_becomes_4 : decode cX6_becomes 4 = .ok (.aload_n 0, 1) := by decide +kernel
theorem dX6_becomes_5 : decode cX6_becomes 5 = .ok (.getfield 75, 3) := by decide +kernel
theorem dX6_becomes_8 : decode cX6_becomes 8 = .ok (.iload_n 1, 1) := by decide +kernel
theorem dX6_becomes_9 : decode cX6_becomes 9 = .ok (.iaload, 1) := by decide +kernel
theorem dX6_becomes_10 : decode cX6_becomes 10 = .ok (.istore_n 3, 1) := by decide +kernel
theorem dX6_becomes_11 : decode cX6_becomes 11 = .ok (.aload_n 0, 1) := by decide +kernel
theorem dX6_becomes_12 : decode cX6_becomes 12 = .ok (.getfield 75, 3) := by decide +kernel
theorem dX6_becomes_15 : decode cX6_becomes 15 = .ok (.iload_n 1, 1) := by decide +kernel
theorem dX6_becomes_16 : decode cX6_becomes 16 = .ok (.iload_n 2, 1) := by decide +kernel
theorem dX6_becomes_17 : decode cX6_becomes 17 = .ok (.iastore, 1) := by decide +kernel
theorem dX6_becomes_18 : decode cX6_becomes 18 = .ok (.iload_n 3, 1) := by decide +kernel
theorem dX6_becomes_19 : decode cX6_becomes 19 = .ok (.ireturn, 1) := by decide +kernel
theorem dX6_floor_0 : decode cX6_floor 0 = .ok (.aload_n 0, 1) := by decide +kernel
theorem dX6_floor_1 : decode cX6_floor 1 = .ok (.iconst 0, 1) := by decide +kernel
theorem dX6_floor_2 : decode cX6_floor 2 = .ok (.putfield 129, 3) := by decide +kernel
theorem dX6_floor_5 : decode cX6_floor 5 = .ok (.aload_n 0, 1) := by decide +kernel
theorem dX6_floor_6 : decode cX6_floor 6 = .ok (.iload_n 1, 1) := by decide +kernel
theorem dX6_floor_7 : decode cX6_floor 7 = .ok (.invokevirtual 407, 3) := by decide +kernel
theorem dX6_floor_10 : decode cX6_floor 10 = .ok (.ifCond .ne 5, 3) := by decide +kernel
theorem dX6_floor_13 : decode cX6_floor 13 = .ok (.iconst 0, 1) := by decide +kernel
theorem dX6_floor_14 : decode cX6_floor 14 = .ok (.ireturn, 1) := by decide +kernel
theorem dX6_floor_15 : decode cX6_floor 15 = .ok (.iload_n 2, 1) := by decide +kernel
theorem dX6_floor_16 : decode cX6_floor 16 = .ok (.bipush (-3), 2) := by decide +kernel
theorem dX6_floor_18 : decode cX6_floor 18 = .ok (.iconst 3, 1) := by decide +kernel
theorem dX6_floor_19 : decode cX6_floor 19 = .ok (.invokestatic 385, 3) := by decide +kernel
theorem dX6_floor_22 : decode cX6_floor 22 = .ok (.ifCond .eq 15, 3) := by decide +kernel
theorem dX6_floor_25 : decode cX6_floor 25 = .ok (.aload_n 0, 1) := by decide +kernel
theorem dX6_floor_26 : decode cX6_floor 26 = .ok (.bipush 42, 2) := by decide +kernel
theorem dX6_floor_28 : decode cX6_floor 28 = .ok (.iload_n 1, 1) := by decide +kernel
theorem dX6_floor_29 : decode cX6_floor 29 = .ok (.iadd, 1) := by decide +kernel
theorem dX6_floor_30 : decode cX6_floor 30 = .ok (.iload_n 2, 1) := by decide +kernel
theorem dX6_floor_31 : decode cX6_floor 31 = .ok (.invokevirtual 425, 3) := by decide +kernel
theorem dX6_floor_34 : decode cX6_floor 34 = .ok (.goto 10, 3) := by decide +kernel
theorem dX6_floor_37 : decode cX6_floor 37 = .ok (.aload_n 0, 1) := by decide +kernel
theorem dX6_floor_38 : decode cX6_floor 38 = .ok (.iconst 1, 1) := by decide +kernel
theorem dX6_floor_39 : decode cX6_floor 39 = .ok (.bipush (-9), 2) := by decide +kernel
theorem dX6_floor_41 : decode cX6_floor 41 = .ok (.invokevirtual 413, 3) := by decide +kernel
theorem dX6_floor_44 : decode cX6_floor 44 = .ok (.ireturn, 1) := by decide +kernel
theorem dX6_barn_0 : decode cX6_barn 0 = .ok (.aload_n 0, 1) := by decide +kernel
theorem dX6_barn_1 : decode cX6_barn 1 = .ok (.iconst 0, 1) := by decide +kernel
theorem dX6_barn_2 : decode cX6_barn 2 = .ok (.putfield 129, 3) := by decide +kernel
theorem dX6_barn_5 : decode cX6_barn 5 = .ok (.aload_n 0, 1) := by decide +kernel
theorem dX6_barn_6 : decode cX6_barn 6 = .ok (.iload_n 1, 1) := by decide +kernel
theorem dX6_barn_7 : decode cX6_barn 7 = .ok (.invokevirtual 407, 3) := by decide +kernel
theorem dX6_barn_10 : decode cX6_barn 10 = .ok (.ifCond .ne 5, 3) := by decide +kernel
theorem dX6_barn_13 : decode cX6_barn 13 = .ok (.iconst 0, 1) := by decide +kernel
theorem dX6_barn_14 : decode cX6_barn 14 = .ok (.ireturn, 1) := by decide +kernel
theorem dX6_barn_15 : decode cX6_barn 15 = .ok (.iload_n 2, 1) := by decide +kernel
theorem dX6_barn_16 : decode cX6_barn 16 = .ok (.iconst 0, 1) := by decide +kernel
theorem dX6_barn_17 : decode cX6_barn 17 = .ok (.iconst 5, 1) := by decide +kernel
theorem dX6_barn_18 : decode cX6_barn 18 = .ok (.invokestatic 385, 3) := by decide +kernel
theorem dX6_barn_21 : decode cX6_barn 21 = .ok (.ifCond .eq 15, 3) := by decide +kernel
theorem dX6_barn_24 : decode cX6_barn 24 = .ok (.aload_n 0, 1) := by decide +kernel
theorem dX6_barn_25 : decode cX6_barn 25 = .ok (.bipush 48, 2) := by decide +kernel
theorem dX6_barn_27 : decode cX6_barn 27 = .ok (.iload_n 1, 1) := by decide +kernel
theorem dX6_barn_28 : decode cX6_barn 28 = .ok (.iadd, 1) := by decide +kernel
theorem dX6_barn_29 : decode cX6_barn 29 = .ok (.iload_n 2, 1) := by decide +kernel
theorem dX6_barn_30 : decode cX6_barn 30 = .ok (.invokevirtual 425, 3) := by decide +kernel
theorem dX6_barn_33 : decode cX6_barn 33 = .ok (.goto 9, 3) := by decide +kernel
theorem dX6_barn_36 : decode cX6_barn 36 = .ok (.aload_n 0, 1) := by decide +kernel
theorem dX6_barn_37 : decode cX6_barn 37 = .ok (.iconst 1, 1) := by decide +kernel
theorem dX6_barn_38 : decode cX6_barn 38 = .ok (.iconst (-1), 1) := by decide +kernel
theorem dX6_barn_39 : decode cX6_barn 39 = .ok (.invokevirtual 413, 3) := by decide +kernel
theorem dX6_barn_42 : decode cX6_barn 42 = .ok (.ireturn, 1) := by decide +kernel
theorem dX6_sell_0 : decode cX6_sell 0 = .ok (.aload_n 0, 1) := by decide +kernel
theorem dX6_sell_1 : decode cX6_sell 1 = .ok (.iconst 0, 1) := by decide +kernel
theorem dX6_sell_2 : decode cX6_sell 2 = .ok (.putfield 129, 3) := by decide +kernel
theorem dX6_sell_5 : decode cX6_sell 5 = .ok (.aload_n 0, 1) := by decide +kernel
theorem dX6_sell_6 : decode cX6_sell 6 = .ok (.iload_n 1, 1) := by decide +kernel
theorem dX6_sell_7 : decode cX6_sell 7 = .ok (.invokevirtual 407, 3) := by decide +kernel
theorem dX6_sell_10 : decode cX6_sell 10 = .ok (.ifCond .eq 13, 3) := by decide +kernel
theorem dX6_sell_13 : decode cX6_sell 13 = .ok (.aload_n 0, 1) := by decide +kernel
theorem dX6_sell_14 : decode cX6_sell 14 = .ok (.iload_n 2, 1) := by decide +kernel
theorem dX6_sell_15 : decode cX6_sell 15 = .ok (.bipush 7, 2) := by decide +kernel
theorem dX6_sell_17 : decode cX6_sell 17 = .ok (.invokevirtual 398, 3) := by decide +kernel
theorem dX6_sell_20 : decode cX6_sell 20 = .ok (.ifCond .ne 5, 3) := by decide +kernel
theorem dX6_sell_23 : decode cX6_sell 23 = .ok (.iconst 0, 1) := by decide +kernel
theorem dX6_sell_24 : decode cX6_sell 24 = .ok (.ireturn, 1) := by decide +kernel
theorem dX6_sell_25 : decode cX6_sell 25 = .ok (.aload_n 0, 1) := by decide +kernel
theorem dX6_sell_26 : decode cX6_sell 26 = .ok (.getfield 75, 3) := by decide +kernel
theorem dX6_sell_29 : decode cX6_sell 29 = .ok (.bipush 54, 2) := by decide +kernel
theorem dX6_sell_31 : decode cX6_sell 31 = .ok (.iload_n 1, 1) := by decide +kernel
theorem dX6_sell_32 : decode cX6_sell 32 = .ok (.iadd, 1) := by decide +kernel
theorem dX6_sell_33 : decode cX6_sell 33 = .ok (.iaload, 1) := by decide +kernel
theorem dX6_sell_34 : decode cX6_sell 34 = .ok (.iload_n 2, 1) := by decide +kernel
theorem dX6_sell_35 : decode cX6_sell 35 = .ok (.ishr, 1) := by decide +kernel
theorem dX6_sell_36 : decode cX6_sell 36 = .ok (.iconst 1, 1) := by decide +kernel
theorem dX6_sell_37 : decode cX6_sell 37 = .ok (.iand, 1) := by decide +kernel
theorem dX6_sell_38 : decode cX6_sell 38 = .ok (.iconst 1, 1) := by decide +kernel
theorem dX6_sell_39 : decode cX6_sell 39 = .ok (.if_icmp .ne 18, 3) := by decide +kernel
theorem dX6_sell_42 : decode cX6_sell 42 = .ok (.aload_n 0, 1) := by decide +kernel
theorem dX6_sell_43 : decode cX6_sell 43 = .ok (.iconst 1, 1) := by decide +kernel
theorem dX6_sell_44 : decode cX6_sell 44 = .ok (.iconst 0, 1) := by decide +kernel
theorem dX6_sell_45 : decode cX6_sell 45 = .ok (.invokevirtual 413, 3) := by decide +kernel
theorem dX6_sell_48 : decode cX6_sell 48 = .ok (.ifCond .le 7, 3) := by decide +kernel
theorem dX6_sell_51 : decode cX6_sell 51 = .ok (.iconst 1, 1) := by decide +kernel
theorem dX6_sell_52 : decode cX6_sell 52 = .ok (.goto 4, 3) := by decide +kernel
theorem dX6_sell_55 : decode cX6_sell 55 = .ok (.iconst 0, 1) := by decide +kernel
theorem dX6_sell_56 : decode cX6_sell 56 = .ok (.ireturn, 1) := by decide +kernel
theorem dX6_sell_57 : decode cX6_sell 57 = .ok (.aload_n 0, 1) := by decide +kernel
theorem dX6_sell_58 : decode cX6_sell 58 = .ok (.bipush 54, 2) := by decide +kernel
theorem dX6_sell_60 : decode cX6_sell 60 = .ok (.iload_n 1, 1) := by decide +kernel
theorem dX6_sell_61 : decode cX6_sell 61 = .ok (.iadd, 1) := by decide +kernel
theorem dX6_sell_62 : decode cX6_sell 62 = .ok (.aload_n 0, 1) := by decide +kernel
theorem dX6_sell_63 : decode cX6_sell 63 = .ok (.getfield 75, 3) := by decide +kernel
theorem dX6_sell_66 : decode cX6_sell 66 = .ok (.bipush 54, 2) := by decide +kernel
theorem dX6_sell_68 : decode cX6_sell 68 = .ok (.iload_n 1, 1) := by decide +kernel
theorem dX6_sell_69 : decode cX6_sell 69 = .ok (.iadd, 1) := by decide +kernel
theorem dX6_sell_70 : decode cX6_sell 70 = .ok (.iaload, 1) := by decide +kernel
theorem dX6_sell_71 : decode cX6_sell 71 = .ok (.iconst 1, 1) := by decide +kernel
theorem dX6_sell_72 : decode cX6_sell 72 = .ok (.iload_n 2, 1) := by decide +kernel
theorem dX6_sell_73 : decode cX6_sell 73 = .ok (.ishl, 1) := by decide +kernel
theorem dX6_sell_74 : decode cX6_sell 74 = .ok (.ior, 1) := by decide +kernel
theorem dX6_sell_75 : decode cX6_sell 75 = .ok (.invokevirtual 425, 3) := by decide +kernel
theorem dX6_sell_78 : decode cX6_sell 78 = .ok (.pop, 1) := by decide +kernel
theorem dX6_sell_79 : decode cX6_sell 79 = .ok (.iconst 1, 1) := by decide +kernel
theorem dX6_sell_80 : decode cX6_sell 80 = .ok (.ireturn, 1) := by decide +kernel
theorem dX6_obey_0 : decode cX6_obey 0 = .ok (.aload_n 0, 1) := by decide +kernel
theorem dX6_obey_1 : decode cX6_obey 1 = .ok (.iconst 0, 1) := by decide +kernel
theorem dX6_obey_2 : decode cX6_obey 2 = .ok (.putfield 129, 3) := by decide +kernel
theorem dX6_obey_5 : decode cX6_obey 5 = .ok (.iload_n 1, 1) := by decide +kernel
theorem dX6_obey_6 : decode cX6_obey 6 = .ok (.iconst (-1), 1) := by decide +kernel
theorem dX6_obey_7 : decode cX6_obey 7 = .ok (.if_icmp .lt 11, 3) := by decide +kernel
theorem dX6_obey_10 : decode cX6_obey 10 = .ok (.iload_n 1, 1) := by decide +kernel
theorem dX6_obey_11 : decode cX6_obey 11 = .ok (.aload_n 0, 1) := by decide +kernel
theorem dX6_obey_12 : decode cX6_obey 12 = .ok (.getfield 300, 3) := by decide +kernel
theorem dX6_obey_15 : decode cX6_obey 15 = .ok (.if_icmp .lt 18, 3) := by decide +kernel
theorem dX6_obey_18 : decode cX6_obey 18 = .ok (.aload_n 0, 1) := by decide +kernel
theorem dX6_obey_19 : decode cX6_obey 19 = .ok (.iconst 1, 1) := by decide +kernel
theorem dX6_obey_20 : decode cX6_obey 20 = .ok (.iconst 0, 1) := by decide +kernel
theorem dX6_obey_21 : decode cX6_obey 21 = .ok (.invokevirtual 413, 3) := by decide +kernel
theorem dX6_obey_24 : decode cX6_obey 24 = .ok (.ifCond .le 7, 3) := by decide +kernel
theorem dX6_obey_27 : decode cX6_obey 27 = .ok (.iconst 1, 1) := by decide +kernel
theorem dX6_obey_28 : decode cX6_obey 28 = .ok (.goto 4, 3) := by decide +kernel
theorem dX6_obey_31 : decode cX6_obey 31 = .ok (.iconst 0, 1) := by decide +kernel
theorem dX6_obey_32 : decode cX6_obey 32 = .ok (.ireturn, 1) := by decide +kernel
theorem dX6_obey_33 : decode cX6_obey 33 = .ok (.aload_n 0, 1) := by decide +kernel
theorem dX6_obey_34 : decode cX6_obey 34 = .ok (.bipush 60, 2) := by decide +kernel
theorem dX6_obey_36 : decode cX6_obey 36 = .ok (.iload_n 1, 1) := by decide +kernel
theorem dX6_obey_37 : decode cX6_obey 37 = .ok (.invokevirtual 425, 3) := by decide +kernel
theorem dX6_obey_40 : decode cX6_obey 40 = .ok (.pop, 1) := by decide +kernel
theorem dX6_obey_41 : decode cX6_obey 41 = .ok (.iconst 1, 1) := by decide +kernel
theorem dX6_obey_42 : decode cX6_obey 42 = .ok (.ireturn, 1) := by decide +kernel
theorem dX6_arePaying_0 : decode cX6_arePaying 0 = .ok (.aload_n 0, 1) := by decide +kernel
theorem dX6_arePaying_1 : decode cX6_arePaying 1 = .ok (.invokevirtual 379, 3) := by decide +kernel
theorem dX6_arePaying_4 : decode cX6_arePaying 4 = .ok (.iconst 0, 1) := by decide +kernel
theorem dX6_arePaying_5 : decode cX6_arePaying 5 = .ok (.istore_n 3, 1) := by decide +kernel
theorem dX6_arePaying_6 : decode cX6_arePaying 6 = .ok (.iload_n 3, 1) := by decide +kernel
theorem dX6_arePaying_7 : decode cX6_arePaying 7 = .ok (.aload_n 0, 1) := by decide +kernel
theorem dX6_arePaying_8 : decode cX6_arePaying 8 = .ok (.getfield 297, 3) := by decide +kernel
theorem dX6_arePaying_11 : decode cX6_arePaying 11 = .ok (.if_icmp .ge 29, 3) := by decide +kernel
theorem dX6_arePaying_14 : decode cX6_arePaying 14 = .ok (.iload_n 1, 1) := by decide +kernel
theorem dX6_arePaying_15 : decode cX6_arePaying 15 = .ok (.iload_n 3, 1) := by decide +kernel
theorem dX6_arePaying_16 : decode cX6_arePaying 16 = .ok (.ishr, 1) := by decide +kernel
theorem dX6_arePaying_17 : decode cX6_arePaying 17 = .ok (.iconst 1, 1) := by decide +kernel
theorem dX6_arePaying_18 : decode cX6_arePaying 18 = .ok (.iand, 1) := by decide +kernel
theorem dX6_arePaying_19 : decode cX6_arePaying 19 = .ok (.iconst 1, 1) := by decide +kernel
theorem dX6_arePaying_20 : decode cX6_arePaying 20 = .ok (.if_icmp .ne 14, 3) := by decide +kernel
theorem dX6_arePaying_23 : decode cX6_arePaying 23 = .ok (.aload_n 0, 1) := by decide +kernel
theorem dX6_arePaying_24 : decode cX6_arePaying 24 = .ok (.iload_n 3, 1) := by decide +kernel
theorem dX6_arePaying_25 : decode cX6_arePaying 25 = .ok (.invokevirtual 410, 3) := by decide +kernel
theorem dX6_arePaying_28 : decode cX6_arePaying 28 = .ok (.iload_n 2, 1) := by decide +kernel
theorem dX6_arePaying_29 : decode cX6_arePaying 29 = .ok (.if_icmp .le 5, 3) := by decide +kernel
theorem dX6_arePaying_32 : decode cX6_arePaying 32 = .ok (.iconst 0, 1) := by decide +kernel
theorem dX6_arePaying_33 : decode cX6_arePaying 33 = .ok (.ireturn, 1) := by decide +kernel
theorem dX6_arePaying_34 : decode cX6_arePaying 34 = .ok (.iinc 3 1, 3) := by decide +kernel
theorem dX6_arePaying_37 : decode cX6_arePaying 37 = .ok (.goto (-31), 3) := by decide +kernel
theorem dX6_arePaying_40 : decode cX6_arePaying 40 = .ok (.iconst 1, 1) := by decide +kernel
theorem dX6_arePaying_41 : decode cX6_arePaying 41 = .ok (.ireturn, 1) := by decide +kernel
theorem dX6_firsFor_0 : decode cX6_firsFor 0 = .ok (.aload_n 0, 1) := by decide +kernel
theorem dX6_firsFor_1 : decode cX6_firsFor 1 = .ok (.iload_n 1, 1) := by decide +kernel
theorem dX6_firsFor_2 : decode cX6_firsFor 2 = .ok (.iload_n 2, 1) := by decide +kernel
theorem dX6_firsFor_3 : decode cX6_firsFor 3 = .ok (.invokevirtual 428, 3) := by decide +kernel
theorem dX6_firsFor_6 : decode cX6_firsFor 6 = .ok (.ifCond .eq 5, 3) := by decide +kernel
theorem dX6_firsFor_9 : decode cX6_firsFor 9 = .ok (.iconst 0, 1) := by decide +kernel
theorem dX6_firsFor_10 : decode cX6_firsFor 10 = .ok (.ireturn, 1) := by decide +kernel
theorem dX6_firsFor_11 : decode cX6_firsFor 11 = .ok (.iconst 0, 1) := by decide +kernel
theorem dX6_firsFor_12 : decode cX6_firsFor 12 = .ok (.istore_n 3, 1) := by decide +kernel
theorem dX6_firsFor_13 : decode cX6_firsFor 13 = .ok (.iload_n 3, 1) := by decide +kernel
theorem dX6_firsFor_14 : decode cX6_firsFor 14 = .ok (.aload_n 0, 1) := by decide +kernel
theorem dX6_firsFor_15 : decode cX6_firsFor 15 = .ok (.invokevirtual 323, 3) := by decide +kernel
theorem dX6_firsFor_18 : decode cX6_firsFor 18 = .ok (.if_icmp .ge 33, 3) := by decide +kernel
theorem dX6_firsFor_21 : decode cX6_firsFor 21 = .ok (.aload_n 0, 1) := by decide +kernel
theorem dX6_firsFor_22 : decode cX6_firsFor 22 = .ok (.iload_n 3, 1) := by decide +kernel
theorem dX6_firsFor_23 : decode cX6_firsFor 23 = .ok (.putfield 90, 3) := by decide +kernel
theorem dX6_firsFor_26 : decode cX6_firsFor 26 = .ok (.aload_n 0, 1) := by decide +kernel
theorem dX6_firsFor_27 : decode cX6_firsFor 27 = .ok (.iload_n 3, 1) := by decide +kernel
theorem dX6_firsFor_28 : decode cX6_firsFor 28 = .ok (.invokevirtual 422, 3) := by decide +kernel
theorem dX6_firsFor_31 : decode cX6_firsFor 31 = .ok (.ifCond .eq 14, 3) := by decide +kernel
theorem dX6_firsFor_34 : decode cX6_firsFor 34 = .ok (.aload_n 0, 1) := by decide +kernel
theorem dX6_firsFor_35 : decode cX6_firsFor 35 = .ok (.iload_n 1, 1) := by decide +kernel
theorem dX6_firsFor_36 : decode cX6_firsFor 36 = .ok (.iload_n 2, 1) := by decide +kernel
theorem dX6_firsFor_37 : decode cX6_firsFor 37 = .ok (.invokevirtual 428, 3) := by decide +kernel
theorem dX6_firsFor_40 : decode cX6_firsFor 40 = .ok (.ifCond .eq 5, 3) := by decide +kernel
theorem dX6_firsFor_43 : decode cX6_firsFor 43 = .ok (.iconst 1, 1) := by decide +kernel
theorem dX6_firsFor_44 : decode cX6_firsFor 44 = .ok (.ireturn, 1) := by decide +kernel
theorem dX6_firsFor_45 : decode cX6_firsFor 45 = .ok (.iinc 3 1, 3) := by decide +kernel
theorem dX6_firsFor_48 : decode cX6_firsFor 48 = .ok (.goto (-35), 3) := by decide +kernel
theorem dX6_firsFor_51 : decode cX6_firsFor 51 = .ok (.iconst 0, 1) := by decide +kernel
theorem dX6_firsFor_52 : decode cX6_firsFor 52 = .ok (.istore_n 3, 1) := by decide +kernel
theorem dX6_firsFor_53 : decode cX6_firsFor 53 = .ok (.iload_n 3, 1) := by decide +kernel
theorem dX6_firsFor_54 : decode cX6_firsFor 54 = .ok (.aload_n 0, 1) := by decide +kernel
theorem dX6_firsFor_55 : decode cX6_firsFor 55 = .ok (.invokevirtual 323, 3) := by decide +kernel
theorem dX6_firsFor_58 : decode cX6_firsFor 58 = .ok (.if_icmp .ge 68, 3) := by decide +kernel
theorem dX6_firsFor_61 : decode cX6_firsFor 61 = .ok (.iload_n 3, 1) := by decide +kernel
theorem dX6_firsFor_62 : decode cX6_firsFor 62 = .ok (.iconst 1, 1) := by decide +kernel
theorem dX6_firsFor_63 : decode cX6_firsFor 63 = .ok (.iadd, 1) := by decide +kernel
theorem dX6_firsFor_64 : decode cX6_firsFor 64 = .ok (.istore 4, 2) := by decide +kernel
theorem dX6_firsFor_66 : decode cX6_firsFor 66 = .ok (.iload 4, 2) := by decide +kernel
theorem dX6_firsFor_68 : decode cX6_firsFor 68 = .ok (.aload_n 0, 1) := by decide +kernel
theorem dX6_firsFor_69 : decode cX6_firsFor 69 = .ok (.invokevirtual 323, 3) := by decide +kernel
theorem dX6_firsFor_72 : decode cX6_firsFor 72 = .ok (.if_icmp .ge 48, 3) := by decide +kernel
theorem dX6_firsFor_75 : decode cX6_firsFor 75 = .ok (.aload_n 0, 1) := by decide +kernel
theorem dX6_firsFor_76 : decode cX6_firsFor 76 = .ok (.iload_n 3, 1) := by decide +kernel
theorem dX6_firsFor_77 : decode cX6_firsFor 77 = .ok (.invokevirtual 422, 3) := by decide +kernel
theorem dX6_firsFor_80 : decode cX6_firsFor 80 = .ok (.ifCond .eq 40, 3) := by decide +kernel
theorem dX6_firsFor_83 : decode cX6_firsFor 83 = .ok (.aload_n 0, 1) := by decide +kernel
theorem dX6_firsFor_84 : decode cX6_firsFor 84 = .ok (.iload_n 3, 1) := by decide +kernel
theorem dX6_firsFor_85 : decode cX6_firsFor 85 = .ok (.putfield 90, 3) := by decide +kernel
theorem dX6_firsFor_88 : decode cX6_firsFor 88 = .ok (.aload_n 0, 1) := by decide +kernel
theorem dX6_firsFor_89 : decode cX6_firsFor 89 = .ok (.iload 4, 2) := by decide +kernel
theorem dX6_firsFor_91 : decode cX6_firsFor 91 = .ok (.putfield 93, 3) := by decide +kernel
theorem dX6_firsFor_94 : decode cX6_firsFor 94 = .ok (.aload_n 0, 1) := by decide +kernel
theorem dX6_firsFor_95 : decode cX6_firsFor 95 = .ok (.iload 4, 2) := by decide +kernel
theorem dX6_firsFor_97 : decode cX6_firsFor 97 = .ok (.invokevirtual 422, 3) := by decide +kernel
theorem dX6_firsFor_100 : decode cX6_firsFor 100 = .ok (.ifCond .eq 14, 3) := by decide +kernel
theorem dX6_firsFor_103 : decode cX6_firsFor 103 = .ok (.aload_n 0, 1) := by decide +kernel
theorem dX6_firsFor_104 : decode cX6_firsFor 104 = .ok (.iload_n 1, 1) := by decide +kernel
theorem dX6_firsFor_105 : decode cX6_firsFor 105 = .ok (.iload_n 2, 1) := by decide +kernel
theorem dX6_firsFor_106 : decode cX6_firsFor 106 = .ok (.invokevirtual 428, 3) := by decide +kernel
theorem dX6_firsFor_109 : decode cX6_firsFor 109 = .ok (.ifCond .eq 5, 3) := by decide +kernel
theorem dX6_firsFor_112 : decode cX6_firsFor 112 = .ok (.iconst 2, 1) := by decide +kernel
theorem dX6_firsFor_113 : decode cX6_firsFor 113 = .ok (.ireturn, 1) := by decide +kernel
theorem dX6_firsFor_114 : decode cX6_firsFor 114 = .ok (.iinc 4 1, 3) := by decide +kernel
theorem dX6_firsFor_117 : decode cX6_firsFor 117 = .ok (.goto (-51), 3) := by decide +kernel
theorem dX6_firsFor_120 : decode cX6_firsFor 120 = .ok (.iinc 3 1, 3) := by decide +kernel
theorem dX6_firsFor_123 : decode cX6_firsFor 123 = .ok (.goto (-70), 3) := by decide +kernel
theorem dX6_firsFor_126 : decode cX6_firsFor 126 = .ok (.iconst (-1), 1) := by decide +kernel
theorem dX6_firsFor_127 : decode cX6_firsFor 127 = .ok (.ireturn, 1) := by decide +kernel
theorem dX6_firs_0 : decode cX6_firs 0 = .ok (.aload_n 0, 1) := by decide +kernel
theorem dX6_firs_1 : decode cX6_firs 1 = .ok (.iconst 0, 1) := by decide +kernel
theorem dX6_firs_2 : decode cX6_firs 2 = .ok (.putfield 129, 3) := by decide +kernel
theorem dX6_firs_5 : decode cX6_firs 5 = .ok (.aload_n 0, 1) := by decide +kernel
theorem dX6_firs_6 : decode cX6_firs 6 = .ok (.iload_n 1, 1) := by decide +kernel
theorem dX6_firs_7 : decode cX6_firs 7 = .ok (.ifCond .lt 28, 3) := by decide +kernel
theorem dX6_firs_10 : decode cX6_firs 10 = .ok (.iload_n 1, 1) := by decide +kernel
theorem dX6_firs_11 : decode cX6_firs 11 = .ok (.iconst 1, 1) := by decide +kernel
theorem dX6_firs_12 : decode cX6_firs 12 = .ok (.aload_n 0, 1) := by decide +kernel
theorem dX6_firs_13 : decode cX6_firs 13 = .ok (.getfield 297, 3) := by decide +kernel
theorem dX6_firs_16 : decode cX6_firs 16 = .ok (.ishl, 1) := by decide +kernel
theorem dX6_firs_17 : decode cX6_firs 17 = .ok (.if_icmp .ge 18, 3) := by decide +kernel
theorem dX6_firs_20 : decode cX6_firs 20 = .ok (.iload_n 2, 1) := by decide +kernel
theorem dX6_firs_21 : decode cX6_firs 21 = .ok (.iconst 0, 1) := by decide +kernel
theorem dX6_firs_22 : decode cX6_firs 22 = .ok (.sipush 999, 3) := by decide +kernel
theorem dX6_firs_25 : decode cX6_firs 25 = .ok (.invokestatic 385, 3) := by decide +kernel
theorem dX6_firs_28 : decode cX6_firs 28 = .ok (.ifCond .eq 7, 3) := by decide +kernel
theorem dX6_firs_31 : decode cX6_firs 31 = .ok (.iconst 1, 1) := by decide +kernel
theorem dX6_firs_32 : decode cX6_firs 32 = .ok (.goto 4, 3) := by decide +kernel
theorem dX6_firs_35 : decode cX6_firs 35 = .ok (.iconst 0, 1) := by decide +kernel
theorem dX6_firs_36 : decode cX6_firs 36 = .ok (.iconst 1, 1) := by decide +kernel
theorem dX6_firs_37 : decode cX6_firs 37 = .ok (.invokevirtual 290, 3) := by decide +kernel
theorem dX6_firs_40 : decode cX6_firs 40 = .ok (.ifCond .ne 5, 3) := by decide +kernel
theorem dX6_firs_43 : decode cX6_firs 43 = .ok (.iconst 0, 1) := by decide +kernel
theorem dX6_firs_44 : decode cX6_firs 44 = .ok (.ireturn, 1) := by decide +kernel
theorem dX6_firs_45 : decode cX6_firs 45 = .ok (.aload_n 0, 1) := by decide +kernel
theorem dX6_firs_46 : decode cX6_firs 46 = .ok (.iload_n 1, 1) := by decide +kernel
theorem dX6_firs_47 : decode cX6_firs 47 = .ok (.iload_n 2, 1) := by decide +kernel
theorem dX6_firs_48 : decode cX6_firs 48 = .ok (.invokevirtual 431, 3) := by decide +kernel
theorem dX6_firs_51 : decode cX6_firs 51 = .ok (.istore_n 3, 1) := by decide +kernel
theorem dX6_firs_52 : decode cX6_firs 52 = .ok (.iload_n 3, 1) := by decide +kernel
theorem dX6_firs_53 : decode cX6_firs 53 = .ok (.iconst (-1), 1) := by decide +kernel
theorem dX6_firs_54 : decode cX6_firs 54 = .ok (.if_icmp .eq 28, 3) := by decide +kernel
theorem dX6_firs_57 : decode cX6_firs 57 = .ok (.aload_n 0, 1) := by decide +kernel
theorem dX6_firs_58 : decode cX6_firs 58 = .ok (.iload_n 3, 1) := by decide +kernel
theorem dX6_firs_59 : decode cX6_firs 59 = .ok (.putfield 102, 3) := by decide +kernel
theorem dX6_firs_62 : decode cX6_firs 62 = .ok (.aload_n 0, 1) := by decide +kernel
theorem dX6_firs_63 : decode cX6_firs 63 = .ok (.getfield 105, 3) := by decide +kernel
theorem dX6_firs_66 : decode cX6_firs 66 = .ok (.iconst 0, 1) := by decide +kernel
theorem dX6_firs_67 : decode cX6_firs 67 = .ok (.aload_n 0, 1) := by decide +kernel
theorem dX6_firs_68 : decode cX6_firs 68 = .ok (.getfield 90, 3) := by decide +kernel
theorem dX6_firs_71 : decode cX6_firs 71 = .ok (.iastore, 1) := by decide +kernel
theorem dX6_firs_72 : decode cX6_firs 72 = .ok (.aload_n 0, 1) := by decide +kernel
theorem dX6_firs_73 : decode cX6_firs 73 = .ok (.getfield 105, 3) := by decide +kernel
theorem dX6_firs_76 : decode cX6_firs 76 = .ok (.iconst 1, 1) := by decide +kernel
theorem dX6_firs_77 : decode cX6_firs 77 = .ok (.aload_n 0, 1) := by decide +kernel
theorem dX6_firs_78 : decode cX6_firs 78 = .ok (.getfield 93, 3) := by decide +kernel
theorem dX6_firs_81 : decode cX6_firs 81 = .ok (.iastore, 1) := by decide +kernel
theorem dX6_firs_82 : decode cX6_firs 82 = .ok (.aload_n 0, 1) := by decide +kernel
theorem dX6_firs_83 : decode cX6_firs 83 = .ok (.iconst (-1), 1) := by decide +kernel
theorem dX6_firs_84 : decode cX6_firs 84 = .ok (.putfield 90, 3) := by decide +kernel
theorem dX6_firs_87 : decode cX6_firs 87 = .ok (.aload_n 0, 1) := by decide +kernel
theorem dX6_firs_88 : decode cX6_firs 88 = .ok (.iconst (-1), 1) := by decide +kernel
theorem dX6_firs_89 : decode cX6_firs 89 = .ok (.putfield 93, 3) := by decide +kernel
theorem dX6_firs_92 : decode cX6_firs 92 = .ok (.iload_n 3, 1) := by decide +kernel
theorem dX6_firs_93 : decode cX6_firs 93 = .ok (.ireturn, 1) := by decide +kernel
theorem dX6_fir_0 : decode cX6_fir 0 = .ok (.aload_n 0, 1) := by decide +kernel
theorem dX6_fir_1 : decode cX6_fir 1 = .ok (.iconst 0, 1) := by decide +kernel
theorem dX6_fir_2 : decode cX6_fir 2 = .ok (.putfield 129, 3) := by decide +kernel
theorem dX6_fir_5 : decode cX6_fir 5 = .ok (.aload_n 0, 1) := by decide +kernel
theorem dX6_fir_6 : decode cX6_fir 6 = .ok (.aload_n 0, 1) := by decide +kernel
theorem dX6_fir_7 : decode cX6_fir 7 = .ok (.getfield 102, 3) := by decide +kernel
theorem dX6_fir_10 : decode cX6_fir 10 = .ok (.iconst (-1), 1) := by decide +kernel
theorem dX6_fir_11 : decode cX6_fir 11 = .ok (.if_icmp .eq 19, 3) := by decide +kernel
theorem dX6_fir_14 : decode cX6_fir 14 = .ok (.iload_n 1, 1) := by decide +kernel
theorem dX6_fir_15 : decode cX6_fir 15 = .ok (.ifCond .lt 15, 3) := by decide +kernel
theorem dX6_fir_18 : decode cX6_fir 18 = .ok (.iload_n 1, 1) := by decide +kernel
theorem dX6_fir_19 : decode cX6_fir 19 = .ok (.aload_n 0, 1) := by decide +kernel
theorem dX6_fir_20 : decode cX6_fir 20 = .ok (.getfield 102, 3) := by decide +kernel
theorem dX6_fir_23 : decode cX6_fir 23 = .ok (.if_icmp .ge 7, 3) := by decide +kernel
theorem dX6_fir_26 : decode cX6_fir 26 = .ok (.iconst 1, 1) := by decide +kernel
theorem dX6_fir_27 : decode cX6_fir 27 = .ok (.goto 4, 3) := by decide +kernel
theorem dX6_fir_30 : decode cX6_fir 30 = .ok (.iconst 0, 1) := by decide +kernel
theorem dX6_fir_31 : decode cX6_fir 31 = .ok (.iconst 1, 1) := by decide +kernel
theorem dX6_fir_32 : decode cX6_fir 32 = .ok (.invokevirtual 290, 3) := by decide +kernel
theorem dX6_fir_35 : decode cX6_fir 35 = .ok (.ifCond .eq 12, 3) := by decide +kernel
theorem dX6_fir_38 : decode cX6_fir 38 = .ok (.aload_n 0, 1) := by decide +kernel
theorem dX6_fir_39 : decode cX6_fir 39 = .ok (.getfield 105, 3) := by decide +kernel
theorem dX6_fir_42 : decode cX6_fir 42 = .ok (.iload_n 1, 1) := by decide +kernel
theorem dX6_fir_43 : decode cX6_fir 43 = .ok (.iaload, 1) := by decide +kernel
theorem dX6_fir_44 : decode cX6_fir 44 = .ok (.goto 4, 3) := by decide +kernel
theorem dX6_fir_47 : decode cX6_fir 47 = .ok (.iconst 0, 1) := by decide +kernel
theorem dX6_fir_48 : decode cX6_fir 48 = .ok (.ireturn, 1) := by decide +kernel
theorem dX6_spades_0 : decode cX6_spades 0 = .ok (.aload_n 0, 1) := by decide +kernel
theorem dX6_spades_1 : decode cX6_spades 1 = .ok (.iconst 0, 1) := by decide +kernel
theorem dX6_spades_2 : decode cX6_spades 2 = .ok (.putfield 129, 3) := by decide +kernel
theorem dX6_spades_5 : decode cX6_spades 5 = .ok (.aload_n 0, 1) := by decide +kernel
theorem dX6_spades_6 : decode cX6_spades 6 = .ok (.iload_n 1, 1) := by decide +kernel
theorem dX6_spades_7 : decode cX6_spades 7 = .ok (.invokevirtual 407, 3) := by decide +kernel
theorem dX6_spades_10 : decode cX6_spades 10 = .ok (.ifCond .eq 19, 3) := by decide +kernel
theorem dX6_spades_13 : decode cX6_spades 13 = .ok (.aload_n 0, 1) := by decide +kernel
theorem dX6_spades_14 : decode cX6_spades 14 = .ok (.iload_n 2, 1) := by decide +kernel
theorem dX6_spades_15 : decode cX6_spades 15 = .ok (.iconst 0, 1) := by decide +kernel
theorem dX6_spades_16 : decode cX6_spades 16 = .ok (.sipush 999, 3) := by decide +kernel
theorem dX6_spades_19 : decode cX6_spades 19 = .ok (.invokestatic 385, 3) := by decide +kernel
theorem dX6_spades_22 : decode cX6_spades 22 = .ok (.iconst 2, 1) := by decide +kernel
theorem dX6_spades_23 : decode cX6_spades 23 = .ok (.invokevirtual 290, 3) := by decide +kernel
theorem dX6_spades_26 : decode cX6_spades 26 = .ok (.ifCond .ne 5, 3) := by decide +kernel
theorem dX6_spades_29 : decode cX6_spades 29 = .ok (.iconst 0, 1) := by decide +kernel
theorem dX6_spades_30 : decode cX6_spades 30 = .ok (.ireturn, 1) := by decide +kernel
theorem dX6_spades_31 : decode cX6_spades 31 = .ok (.aload_n 0, 1) := by decide +kernel
theorem dX6_spades_32 : decode cX6_spades 32 = .ok (.getfield 75, 3) := by decide +kernel
theorem dX6_spades_35 : decode cX6_spades 35 = .ok (.bipush 42, 2) := by decide +kernel
theorem dX6_spades_37 : decode cX6_spades 37 = .ok (.iload_n 1, 1) := by decide +kernel
theorem dX6_spades_38 : decode cX6_spades 38 = .ok (.iadd, 1) := by decide +kernel
theorem dX6_spades_39 : decode cX6_spades 39 = .ok (.iaload, 1) := by decide +kernel
theorem dX6_spades_40 : decode cX6_spades 40 = .ok (.istore_n 3, 1) := by decide +kernel
theorem dX6_spades_41 : decode cX6_spades 41 = .ok (.iconst (-1), 1) := by decide +kernel
theorem dX6_spades_42 : decode cX6_spades 42 = .ok (.istore 4, 2) := by decide +kernel
theorem dX6_spades_44 : decode cX6_spades 44 = .ok (.aload_n 0, 1) := by decide +kernel
theorem dX6_spades_45 : decode cX6_spades 45 = .ok (.invokevirtual 379, 3) := by decide +kernel
theorem dX6_spades_48 : decode cX6_spades 48 = .ok (.iload_n 3, 1) := by decide +kernel
theorem dX6_spades_49 : decode cX6_spades 49 = .ok (.iconst 3, 1) := by decide +kernel
theorem dX6_spades_50 : decode cX6_spades 50 = .ok (.iadd, 1) := by decide +kernel
theorem dX6_spades_51 : decode cX6_spades 51 = .ok (.istore 5, 2) := by decide +kernel
theorem dX6_spades_53 : decode cX6_spades 53 = .ok (.iload 5, 2) := by decide +kernel
theorem dX6_spades_55 : decode cX6_spades 55 = .ok (.ifCond .lt 40, 3) := by decide +kernel
theorem dX6_spades_58 : decode cX6_spades 58 = .ok (.aload_n 0, 1) := by decide +kernel
theorem dX6_spades_59 : decode cX6_spades 59 = .ok (.getfield 75, 3) := by decide +kernel
theorem dX6_spades_62 : decode cX6_spades 62 = .ok (.bipush 42, 2) := by decide +kernel
theorem dX6_spades_64 : decode cX6_spades 64 = .ok (.iload_n 1, 1) := by decide +kernel
theorem dX6_spades_65 : decode cX6_spades 65 = .ok (.iadd, 1) := by decide +kernel
theorem dX6_spades_66 : decode cX6_spades 66 = .ok (.iload_n 3, 1) := by decide +kernel
theorem dX6_spades_67 : decode cX6_spades 67 = .ok (.iload 5, 2) := by decide +kernel
theorem dX6_spades_69 : decode cX6_spades 69 = .ok (.isub, 1) := by decide +kernel
theorem dX6_spades_70 : decode cX6_spades 70 = .ok (.iastore, 1) := by decide +kernel
theorem dX6_spades_71 : decode cX6_spades 71 = .ok (.aload_n 0, 1) := by decide +kernel
theorem dX6_spades_72 : decode cX6_spades 72 = .ok (.iload_n 1, 1) := by decide +kernel
theorem dX6_spades_73 : decode cX6_spades 73 = .ok (.invokevirtual 410, 3) := by decide +kernel
theorem dX6_spades_76 : decode cX6_spades 76 = .ok (.iload_n 2, 1) := by decide +kernel
theorem dX6_spades_77 : decode cX6_spades 77 = .ok (.if_icmp .gt 8, 3) := by decide +kernel
theorem dX6_spades_80 : decode cX6_spades 80 = .ok (.iload 5, 2) := by decide +kernel
theorem dX6_spades_82 : decode cX6_spades 82 = .ok (.goto 5, 3) := by decide +kernel
theorem dX6_spades_85 : decode cX6_spades 85 = .ok (.iload 4, 2) := by decide +kernel
theorem dX6_spades_87 : decode cX6_spades 87 = .ok (.istore 4, 2) := by decide +kernel
theorem dX6_spades_89 : decode cX6_spades 89 = .ok (.iinc 5 (-1), 3) := by decide +kernel
theorem dX6_spades_92 : decode cX6_spades 92 = .ok (.goto (-39), 3) := by decide +kernel
theorem dX6_spades_95 : decode cX6_spades 95 = .ok (.aload_n 0, 1) := by decide +kernel
theorem dX6_spades_96 : decode cX6_spades 96 = .ok (.getfield 75, 3) := by decide +kernel
theorem dX6_spades_99 : decode cX6_spades 99 = .ok (.bipush 42, 2) := by decide +kernel
theorem dX6_spades_101 : decode cX6_spades 101 = .ok (.iload_n 1, 1) := by decide +kernel
theorem dX6_spades_102 : decode cX6_spades 102 = .ok (.iadd, 1) := by decide +kernel
theorem dX6_spades_103 : decode cX6_spades 103 = .ok (.iload_n 3, 1) := by decide +kernel
theorem dX6_spades_104 : decode cX6_spades 104 = .ok (.iastore, 1) := by decide +kernel
theorem dX6_spades_105 : decode cX6_spades 105 = .ok (.iload 4, 2) := by decide +kernel
theorem dX6_spades_107 : decode cX6_spades 107 = .ok (.ireturn, 1) := by decide +kernel
theorem dX6_felling_0 : decode cX6_felling 0 = .ok (.aload_n 0, 1) := by decide +kernel
theorem dX6_felling_1 : decode cX6_felling 1 = .ok (.iconst 0, 1) := by decide +kernel
theorem dX6_felling_2 : decode cX6_felling 2 = .ok (.putfield 129, 3) := by decide +kernel
theorem dX6_felling_5 : decode cX6_felling 5 = .ok (.aload_n 0, 1) := by decide +kernel
theorem dX6_felling_6 : decode cX6_felling 6 = .ok (.iload_n 1, 1) := by decide +kernel
theorem dX6_felling_7 : decode cX6_felling 7 = .ok (.invokevirtual 404, 3) := by decide +kernel
theorem dX6_felling_10 : decode cX6_felling 10 = .ok (.ifCond .ne 5, 3) := by decide +kernel
theorem dX6_felling_13 : decode cX6_felling 13 = .ok (.iconst 0, 1) := by decide +kernel
theorem dX6_felling_14 : decode cX6_felling 14 = .ok (.ireturn, 1) := by decide +kernel
theorem dX6_felling_15 : decode cX6_felling 15 = .ok (.aload_n 0, 1) := by decide +kernel
theorem dX6_felling_16 : decode cX6_felling 16 = .ok (.invokevirtual 392, 3) := by decide +kernel
theorem dX6_felling_19 : decode cX6_felling 19 = .ok (.istore_n 2, 1) := by decide +kernel
theorem dX6_felling_20 : decode cX6_felling 20 = .ok (.aload_n 0, 1) := by decide +kernel
theorem dX6_felling_21 : decode cX6_felling 21 = .ok (.getfield 75, 3) := by decide +kernel
theorem dX6_felling_24 : decode cX6_felling 24 = .ok (.iconst 0, 1) := by decide +kernel
theorem dX6_felling_25 : decode cX6_felling 25 = .ok (.iload_n 1, 1) := by decide +kernel
theorem dX6_felling_26 : decode cX6_felling 26 = .ok (.iadd, 1) := by decide +kernel
theorem dX6_felling_27 : decode cX6_felling 27 = .ok (.iaload, 1) := by decide +kernel
theorem dX6_felling_28 : decode cX6_felling 28 = .ok (.istore_n 3, 1) := by decide +kernel
theorem dX6_felling_29 : decode cX6_felling 29 = .ok (.aload_n 0, 1) := by decide +kernel
theorem dX6_felling_30 : decode cX6_felling 30 = .ok (.getfield 75, 3) := by decide +kernel
theorem dX6_felling_33 : decode cX6_felling 33 = .ok (.iconst 0, 1) := by decide +kernel
theorem dX6_felling_34 : decode cX6_felling 34 = .ok (.iload_n 1, 1) := by decide +kernel
theorem dX6_felling_35 : decode cX6_felling 35 = .ok (.iadd, 1) := by decide +kernel
theorem dX6_felling_36 : decode cX6_felling 36 = .ok (.iconst (-1), 1) := by decide +kernel
theorem dX6_felling_37 : decode cX6_felling 37 = .ok (.iastore, 1) := by decide +kernel
theorem dX6_felling_38 : decode cX6_felling 38 = .ok (.aload_n 0, 1) := by decide +kernel
theorem dX6_felling_39 : decode cX6_felling 39 = .ok (.invokevirtual 392, 3) := by decide +kernel
theorem dX6_felling_42 : decode cX6_felling 42 = .ok (.istore 4, 2) := by decide +kernel
theorem dX6_felling_44 : decode cX6_felling 44 = .ok (.aload_n 0, 1) := by decide +kernel
theorem dX6_felling_45 : decode cX6_felling 45 = .ok (.getfield 75, 3) := by decide +kernel
theorem dX6_felling_48 : decode cX6_felling 48 = .ok (.iconst 0, 1) := by decide +kernel
theorem dX6_felling_49 : decode cX6_felling 49 = .ok (.iload_n 1, 1) := by decide +kernel
theorem dX6_felling_50 : decode cX6_felling 50 = .ok (.iadd, 1) := by decide +kernel
theorem dX6_felling_51 : decode cX6_felling 51 = .ok (.iload_n 3, 1) := by decide +kernel
theorem dX6_felling_52 : decode cX6_felling 52 = .ok (.iastore, 1) := by decide +kernel
theorem dX6_felling_53 : decode cX6_felling 53 = .ok (.iload 4, 2) := by decide +kernel
theorem dX6_felling_55 : decode cX6_felling 55 = .ok (.iload_n 2, 1) := by decide +kernel
theorem dX6_felling_56 : decode cX6_felling 56 = .ok (.isub, 1) := by decide +kernel
theorem dX6_felling_57 : decode cX6_felling 57 = .ok (.ireturn, 1) := by decide +kernel
