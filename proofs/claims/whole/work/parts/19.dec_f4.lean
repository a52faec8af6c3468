theorem dX6_isRuin_0 : decode cX6_isRuin 0 = .ok (.iconst 0, 1) := by decide +kernel
theorem dX6_isRuin_1 : decode cX6_isRuin 1 = .ok (.istore_n 2, 1) := by decide +kernel
theorem dX6_isRuin_2 : decode cX6_isRuin 2 = .ok (.aload_n 0, 1) := by decide +kernel
theorem dX6_isRuin_3 : decode cX6_isRuin 3 = .ok (.invokevirtual 379, 3) := by decide +kernel
theorem dX6_isRuin_6 : decode cX6_isRuin 6 = .ok (.iconst 0, 1) := by decide +kernel
theorem dX6_isRuin_7 : decode cX6_isRuin 7 = .ok (.istore_n 3, 1) := by decide +kernel
theorem dX6_isRuin_8 : decode cX6_isRuin 8 = .ok (.iload_n 3, 1) := by decide +kernel
theorem dX6_isRuin_9 : decode cX6_isRuin 9 = .ok (.aload_n 0, 1) := by decide +kernel
theorem dX6_isRuin_10 : decode cX6_isRuin 10 = .ok (.getfield 297, 3) := by decide +kernel
theorem dX6_isRuin_13 : decode cX6_isRuin 13 = .ok (.if_icmp .ge 36, 3) := by decide +kernel
theorem dX6_isRuin_16 : decode cX6_isRuin 16 = .ok (.iload_n 2, 1) := by decide +kernel
theorem dX6_isRuin_17 : decode cX6_isRuin 17 = .ok (.aload_n 0, 1) := by decide +kernel
theorem dX6_isRuin_18 : decode cX6_isRuin 18 = .ok (.getfield 75, 3) := by decide +kernel
theorem dX6_isRuin_21 : decode cX6_isRuin 21 = .ok (.bipush 36, 2) := by decide +kernel
theorem dX6_isRuin_23 : decode cX6_isRuin 23 = .ok (.iload_n 3, 1) := by decide +kernel
theorem dX6_isRuin_24 : decode cX6_isRuin 24 = .ok (.iadd, 1) := by decide +kernel
theorem dX6_isRuin_25 : decode cX6_isRuin 25 = .ok (.iaload, 1) := by decide +kernel
theorem dX6_isRuin_26 : decode cX6_isRuin 26 = .ok (.aload_n 0, 1) := by decide +kernel
theorem dX6_isRuin_27 : decode cX6_isRuin 27 = .ok (.iload_n 3, 1) := by decide +kernel
theorem dX6_isRuin_28 : decode cX6_isRuin 28 = .ok (.invokevirtual 410, 3) := by decide +kernel
theorem dX6_isRuin_31 : decode cX6_isRuin 31 = .ok (.if_icmp .lt 9, 3) := by decide +kernel
theorem dX6_isRuin_34 : decode cX6_isRuin 34 = .ok (.iconst 1, 1) := by decide +kernel
theorem dX6_isRuin_35 : decode cX6_isRuin 35 = .ok (.iload_n 3, 1) := by decide +kernel
theorem dX6_isRuin_36 : decode cX6_isRuin 36 = .ok (.ishl, 1) := by decide +kernel
theorem dX6_isRuin_37 : decode cX6_isRuin 37 = .ok (.goto 4, 3) := by decide +kernel
theorem dX6_isRuin_40 : decode cX6_isRuin 40 = .ok (.iconst 0, 1) := by decide +kernel
theorem dX6_isRuin_41 : decode cX6_isRuin 41 = .ok (.ior, 1) := by decide +kernel
theorem dX6_isRuin_42 : decode cX6_isRuin 42 = .ok (.istore_n 2, 1) := by decide +kernel
theorem dX6_isRuin_43 : decode cX6_isRuin 43 = .ok (.iinc 3 1, 3) := by decide +kernel
theorem dX6_isRuin_46 : decode cX6_isRuin 46 = .ok (.goto (-38), 3) := by decide +kernel
theorem dX6_isRuin_49 : decode cX6_isRuin 49 = .ok (.aload_n 0, 1) := by decide +kernel
theorem dX6_isRuin_50 : decode cX6_isRuin 50 = .ok (.getfield 75, 3) := by decide +kernel
theorem dX6_isRuin_53 : decode cX6_isRuin 53 = .ok (.iconst 0, 1) := by decide +kernel
theorem dX6_isRuin_54 : decode cX6_isRuin 54 = .ok (.iload_n 1, 1) := by decide +kernel
theorem dX6_isRuin_55 : decode cX6_isRuin 55 = .ok (.iadd, 1) := by decide +kernel
theorem dX6_isRuin_56 : decode cX6_isRuin 56 = .ok (.iaload, 1) := by decide +kernel
theorem dX6_isRuin_57 : decode cX6_isRuin 57 = .ok (.istore_n 3, 1) := by decide +kernel
theorem dX6_isRuin_58 : decode cX6_isRuin 58 = .ok (.aload_n 0, 1) := by decide +kernel
theorem dX6_isRuin_59 : decode cX6_isRuin 59 = .ok (.getfield 75, 3) := by decide +kernel
theorem dX6_isRuin_62 : decode cX6_isRuin 62 = .ok (.iconst 0, 1) := by decide +kernel
theorem dX6_isRuin_63 : decode cX6_isRuin 63 = .ok (.iload_n 1, 1) := by decide +kernel
theorem dX6_isRuin_64 : decode cX6_isRuin 64 = .ok (.iadd, 1) := by decide +kernel
theorem dX6_isRuin_65 : decode cX6_isRuin 65 = .ok (.iconst (-1), 1) := by decide +kernel
theorem dX6_isRuin_66 : decode cX6_isRuin 66 = .ok (.iastore, 1) := by decide +kernel
theorem dX6_isRuin_67 : decode cX6_isRuin 67 = .ok (.aload_n 0, 1) := by decide +kernel
theorem dX6_isRuin_68 : decode cX6_isRuin 68 = .ok (.invokevirtual 379, 3) := by decide +kernel
theorem dX6_isRuin_71 : decode cX6_isRuin 71 = .ok (.iconst 0, 1) := by decide +kernel
theorem dX6_isRuin_72 : decode cX6_isRuin 72 = .ok (.istore 4, 2) := by decide +kernel
theorem dX6_isRuin_74 : decode cX6_isRuin 74 = .ok (.iconst 0, 1) := by decide +kernel
theorem dX6_isRuin_75 : decode cX6_isRuin 75 = .ok (.istore 5, 2) := by decide +kernel
theorem dX6_isRuin_77 : decode cX6_isRuin 77 = .ok (.iload 5, 2) := by decide +kernel
theorem dX6_isRuin_79 : decode cX6_isRuin 79 = .ok (.aload_n 0, 1) := by decide +kernel
theorem dX6_isRuin_80 : decode cX6_isRuin 80 = .ok (.getfield 297, 3) := by decide +kernel
theorem dX6_isRuin_83 : decode cX6_isRuin 83 = .ok (.if_icmp .ge 50, 3) := by decide +kernel
theorem dX6_isRuin_86 : decode cX6_isRuin 86 = .ok (.iload 4, 2) := by decide +kernel
theorem dX6_isRuin_88 : decode cX6_isRuin 88 = .ok (.ifCond .ne 32, 3) := by decide +kernel
theorem dX6_isRuin_91 : decode cX6_isRuin 91 = .ok (.iload_n 2, 1) := by decide +kernel
theorem dX6_isRuin_92 : decode cX6_isRuin 92 = .ok (.iload 5, 2) := by decide +kernel
theorem dX6_isRuin_94 : decode cX6_isRuin 94 = .ok (.ishr, 1) := by decide +kernel
theorem dX6_isRuin_95 : decode cX6_isRuin 95 = .ok (.iconst 1, 1) := by decide +kernel
theorem dX6_isRuin_96 : decode cX6_isRuin 96 = .ok (.iand, 1) := by decide +kernel
theorem dX6_isRuin_97 : decode cX6_isRuin 97 = .ok (.iconst 1, 1) := by decide +kernel
theorem dX6_isRuin_98 : decode cX6_isRuin 98 = .ok (.if_icmp .ne 26, 3) := by decide +kernel
theorem dX6_isRuin_101 : decode cX6_isRuin 101 = .ok (.aload_n 0, 1) := by decide +kernel
theorem dX6_isRuin_102 : decode cX6_isRuin 102 = .ok (.iload 5, 2) := by decide +kernel
theorem dX6_isRuin_104 : decode cX6_isRuin 104 = .ok (.invokevirtual 410, 3) := by decide +kernel
theorem dX6_isRuin_107 : decode cX6_isRuin 107 = .ok (.aload_n 0, 1) := by decide +kernel
theorem dX6_isRuin_108 : decode cX6_isRuin 108 = .ok (.getfield 75, 3) := by decide +kernel
theorem dX6_isRuin_111 : decode cX6_isRuin 111 = .ok (.bipush 36, 2) := by decide +kernel
theorem dX6_isRuin_113 : decode cX6_isRuin 113 = .ok (.iload 5, 2) := by decide +kernel
theorem dX6_isRuin_115 : decode cX6_isRuin 115 = .ok (.iadd, 1) := by decide +kernel
theorem dX6_isRuin_116 : decode cX6_isRuin 116 = .ok (.iaload, 1) := by decide +kernel
theorem dX6_isRuin_117 : decode cX6_isRuin 117 = .ok (.if_icmp .le 7, 3) := by decide +kernel
theorem dX6_isRuin_120 : decode cX6_isRuin 120 = .ok (.iconst 1, 1) := by decide +kernel
theorem dX6_isRuin_121 : decode cX6_isRuin 121 = .ok (.goto 4, 3) := by decide +kernel
theorem dX6_isRuin_124 : decode cX6_isRuin 124 = .ok (.iconst 0, 1) := by decide +kernel
theorem dX6_isRuin_125 : decode cX6_isRuin 125 = .ok (.istore 4, 2) := by decide +kernel
theorem dX6_isRuin_127 : decode cX6_isRuin 127 = .ok (.iinc 5 1, 3) := by decide +kernel
theorem dX6_isRuin_130 : decode cX6_isRuin 130 = .ok (.goto (-53), 3) := by decide +kernel
theorem dX6_isRuin_133 : decode cX6_isRuin 133 = .ok (.aload_n 0, 1) := by decide +kernel
theorem dX6_isRuin_134 : decode cX6_isRuin 134 = .ok (.getfield 75, 3) := by decide +kernel
theorem dX6_isRuin_137 : decode cX6_isRuin 137 = .ok (.iconst 0, 1) := by decide +kernel
theorem dX6_isRuin_138 : decode cX6_isRuin 138 = .ok (.iload_n 1, 1) := by decide +kernel
theorem dX6_isRuin_139 : decode cX6_isRuin 139 = .ok (.iadd, 1) := by decide +kernel
theorem dX6_isRuin_140 : decode cX6_isRuin 140 = .ok (.iload_n 3, 1) := by decide +kernel
theorem dX6_isRuin_141 : decode cX6_isRuin 141 = .ok (.iastore, 1) := by decide +kernel
theorem dX6_isRuin_142 : decode cX6_isRuin 142 = .ok (.iload 4, 2) := by decide +kernel
theorem dX6_isRuin_144 : decode cX6_isRuin 144 = .ok (.ireturn, 1) := by decide +kernel
theorem dX6_ruin_0 : decode cX6_ruin 0 = .ok (.aload_n 0, 1) := by decide +kernel
theorem dX6_ruin_1 : decode cX6_ruin 1 = .ok (.iconst 0, 1) := by decide +kernel
theorem dX6_ruin_2 : decode cX6_ruin 2 = .ok (.putfield 129, 3) := by decide +kernel
theorem dX6_ruin_5 : decode cX6_ruin 5 = .ok (.iconst 0, 1) := by decide +kernel
theorem dX6_ruin_6 : decode cX6_ruin 6 = .ok (.istore_n 1, 1) := by decide +kernel
theorem dX6_ruin_7 : decode cX6_ruin 7 = .ok (.iconst 0, 1) := by decide +kernel
theorem dX6_ruin_8 : decode cX6_ruin 8 = .ok (.istore_n 2, 1) := by decide +kernel
theorem dX6_ruin_9 : decode cX6_ruin 9 = .ok (.iload_n 2, 1) := by decide +kernel
theorem dX6_ruin_10 : decode cX6_ruin 10 = .ok (.bipush 12, 2) := by decide +kernel
theorem dX6_ruin_12 : decode cX6_ruin 12 = .ok (.if_icmp .ge 39, 3) := by decide +kernel
theorem dX6_ruin_15 : decode cX6_ruin 15 = .ok (.iload_n 1, 1) := by decide +kernel
theorem dX6_ruin_16 : decode cX6_ruin 16 = .ok (.aload_n 0, 1) := by decide +kernel
theorem dX6_ruin_17 : decode cX6_ruin 17 = .ok (.getfield 75, 3) := by decide +kernel
theorem dX6_ruin_20 : decode cX6_ruin 20 = .ok (.iconst 0, 1) := by decide +kernel
theorem dX6_ruin_21 : decode cX6_ruin 21 = .ok (.iload_n 2, 1) := by decide +kernel
theorem dX6_ruin_22 : decode cX6_ruin 22 = .ok (.iadd, 1) := by decide +kernel
theorem dX6_ruin_23 : decode cX6_ruin 23 = .ok (.iaload, 1) := by decide +kernel
theorem dX6_ruin_24 : decode cX6_ruin 24 = .ok (.iconst (-1), 1) := by decide +kernel
theorem dX6_ruin_25 : decode cX6_ruin 25 = .ok (.if_icmp .eq 17, 3) := by decide +kernel
theorem dX6_ruin_28 : decode cX6_ruin 28 = .ok (.aload_n 0, 1) := by decide +kernel
theorem dX6_ruin_29 : decode cX6_ruin 29 = .ok (.iload_n 2, 1) := by decide +kernel
theorem dX6_ruin_30 : decode cX6_ruin 30 = .ok (.invokevirtual 434, 3) := by decide +kernel
theorem dX6_ruin_33 : decode cX6_ruin 33 = .ok (.ifCond .eq 9, 3) := by decide +kernel
theorem dX6_ruin_36 : decode cX6_ruin 36 = .ok (.iconst 1, 1) := by decide +kernel
theorem dX6_ruin_37 : decode cX6_ruin 37 = .ok (.iload_n 2, 1) := by decide +kernel
theorem dX6_ruin_38 : decode cX6_ruin 38 = .ok (.ishl, 1) := by decide +kernel
theorem dX6_ruin_39 : decode cX6_ruin 39 = .ok (.goto 4, 3) := by decide +kernel
theorem dX6_ruin_42 : decode cX6_ruin 42 = .ok (.iconst 0, 1) := by decide +kernel
theorem dX6_ruin_43 : decode cX6_ruin 43 = .ok (.ior, 1) := by decide +kernel
theorem dX6_ruin_44 : decode cX6_ruin 44 = .ok (.istore_n 1, 1) := by decide +kernel
theorem dX6_ruin_45 : decode cX6_ruin 45 = .ok (.iinc 2 1, 3) := by decide +kernel
theorem dX6_ruin_48 : decode cX6_ruin 48 = .ok (.goto (-39), 3) := by decide +kernel
theorem dX6_ruin_51 : decode cX6_ruin 51 = .ok (.iload_n 1, 1) := by decide +kernel
theorem dX6_ruin_52 : decode cX6_ruin 52 = .ok (.ireturn, 1) := by decide +kernel
theorem dX6_mostBy_0 : decode cX6_mostBy 0 = .ok (.aload_n 0, 1) := by decide +kernel
theorem dX6_mostBy_1 : decode cX6_mostBy 1 = .ok (.invokevirtual 379, 3) := by decide +kernel
theorem dX6_mostBy_4 : decode cX6_mostBy 4 = .ok (.iconst 0, 1) := by decide +kernel
theorem dX6_mostBy_5 : decode cX6_mostBy 5 = .ok (.istore_n 2, 1) := by decide +kernel
theorem dX6_mostBy_6 : decode cX6_mostBy 6 = .ok (.iconst 0, 1) := by decide +kernel
theorem dX6_mostBy_7 : decode cX6_mostBy 7 = .ok (.istore_n 3, 1) := by decide +kernel
theorem dX6_mostBy_8 : decode cX6_mostBy 8 = .ok (.iload_n 3, 1) := by decide +kernel
theorem dX6_mostBy_9 : decode cX6_mostBy 9 = .ok (.aload_n 0, 1) := by decide +kernel
theorem dX6_mostBy_10 : decode cX6_mostBy 10 = .ok (.getfield 297, 3) := by decide +kernel
theorem dX6_mostBy_13 : decode cX6_mostBy 13 = .ok (.if_icmp .ge 30, 3) := by decide +kernel
theorem dX6_mostBy_16 : decode cX6_mostBy 16 = .ok (.aload_n 0, 1) := by decide +kernel
theorem dX6_mostBy_17 : decode cX6_mostBy 17 = .ok (.iload_n 3, 1) := by decide +kernel
theorem dX6_mostBy_18 : decode cX6_mostBy 18 = .ok (.iload_n 1, 1) := by decide +kernel
theorem dX6_mostBy_19 : decode cX6_mostBy 19 = .ok (.invokevirtual 376, 3) := by decide +kernel
theorem dX6_mostBy_22 : decode cX6_mostBy 22 = .ok (.iload_n 2, 1) := by decide +kernel
theorem dX6_mostBy_23 : decode cX6_mostBy 23 = .ok (.if_icmp .le 12, 3) := by decide +kernel
theorem dX6_mostBy_26 : decode cX6_mostBy 26 = .ok (.aload_n 0, 1) := by decide +kernel
theorem dX6_mostBy_27 : decode cX6_mostBy 27 = .ok (.iload_n 3, 1) := by decide +kernel
theorem dX6_mostBy_28 : decode cX6_mostBy 28 = .ok (.iload_n 1, 1) := by decide +kernel
theorem dX6_mostBy_29 : decode cX6_mostBy 29 = .ok (.invokevirtual 376, 3) := by decide +kernel
theorem dX6_mostBy_32 : decode cX6_mostBy 32 = .ok (.goto 4, 3) := by decide +kernel
theorem dX6_mostBy_35 : decode cX6_mostBy 35 = .ok (.iload_n 2, 1) := by decide +kernel
theorem dX6_mostBy_36 : decode cX6_mostBy 36 = .ok (.istore_n 2, 1) := by decide +kernel
theorem dX6_mostBy_37 : decode cX6_mostBy 37 = .ok (.iinc 3 1, 3) := by decide +kernel
theorem dX6_mostBy_40 : decode cX6_mostBy 40 = .ok (.goto (-32), 3) := by decide +kernel
theorem dX6_mostBy_43 : decode cX6_mostBy 43 = .ok (.iload_n 2, 1) := by decide +kernel
theorem dX6_mostBy_44 : decode cX6_mostBy 44 = .ok (.ireturn, 1) := by decide +kernel
theorem dX6_compare_0 : decode cX6_compare 0 = .ok (.aload_n 0, 1) := by decide +kernel
theorem dX6_compare_1 : decode cX6_compare 1 = .ok (.iconst 0, 1) := by decide +kernel
theorem dX6_compare_2 : decode cX6_compare 2 = .ok (.putfield 129, 3) := by decide +kernel
theorem dX6_compare_5 : decode cX6_compare 5 = .ok (.aload_n 0, 1) := by decide +kernel
theorem dX6_compare_6 : decode cX6_compare 6 = .ok (.iload_n 1, 1) := by decide +kernel
theorem dX6_compare_7 : decode cX6_compare 7 = .ok (.iconst (-1), 1) := by decide +kernel
theorem dX6_compare_8 : decode cX6_compare 8 = .ok (.if_icmp .lt 15, 3) := by decide +kernel
theorem dX6_compare_11 : decode cX6_compare 11 = .ok (.iload_n 1, 1) := by decide +kernel
theorem dX6_compare_12 : decode cX6_compare 12 = .ok (.aload_n 0, 1) := by decide +kernel
theorem dX6_compare_13 : decode cX6_compare 13 = .ok (.getfield 300, 3) := by decide +kernel
theorem dX6_compare_16 : decode cX6_compare 16 = .ok (.if_icmp .ge 7, 3) := by decide +kernel
theorem dX6_compare_19 : decode cX6_compare 19 = .ok (.iconst 1, 1) := by decide +kernel
theorem dX6_compare_20 : decode cX6_compare 20 = .ok (.goto 4, 3) := by decide +kernel
theorem dX6_compare_23 : decode cX6_compare 23 = .ok (.iconst 0, 1) := by decide +kernel
theorem dX6_compare_24 : decode cX6_compare 24 = .ok (.iconst 1, 1) := by decide +kernel
theorem dX6_compare_25 : decode cX6_compare 25 = .ok (.invokevirtual 290, 3) := by decide +kernel
theorem dX6_compare_28 : decode cX6_compare 28 = .ok (.ifCond .eq 12, 3) := by decide +kernel
theorem dX6_compare_31 : decode cX6_compare 31 = .ok (.aload_n 0, 1) := by decide +kernel
theorem dX6_compare_32 : decode cX6_compare 32 = .ok (.iload_n 2, 1) := by decide +kernel
theorem dX6_compare_33 : decode cX6_compare 33 = .ok (.iconst 1, 1) := by decide +kernel
theorem dX6_compare_34 : decode cX6_compare 34 = .ok (.invokevirtual 398, 3) := by decide +kernel
theorem dX6_compare_37 : decode cX6_compare 37 = .ok (.ifCond .ne 5, 3) := by decide +kernel
theorem dX6_compare_40 : decode cX6_compare 40 = .ok (.iconst 0, 1) := by decide +kernel
theorem dX6_compare_41 : decode cX6_compare 41 = .ok (.ireturn, 1) := by decide +kernel
theorem dX6_compare_42 : decode cX6_compare 42 = .ok (.iload_n 2, 1) := by decide +kernel
theorem dX6_compare_43 : decode cX6_compare 43 = .ok (.ifCond .ne 11, 3) := by decide +kernel
theorem dX6_compare_46 : decode cX6_compare 46 = .ok (.aload_n 0, 1) := by decide +kernel
theorem dX6_compare_47 : decode cX6_compare 47 = .ok (.iload_n 1, 1) := by decide +kernel
theorem dX6_compare_48 : decode cX6_compare 48 = .ok (.invokevirtual 382, 3) := by decide +kernel
theorem dX6_compare_51 : decode cX6_compare 51 = .ok (.goto 8, 3) := by decide +kernel
theorem dX6_compare_54 : decode cX6_compare 54 = .ok (.aload_n 0, 1) := by decide +kernel
theorem dX6_compare_55 : decode cX6_compare 55 = .ok (.iload_n 1, 1) := by decide +kernel
theorem dX6_compare_56 : decode cX6_compare 56 = .ok (.invokevirtual 437, 3) := by decide +kernel
theorem dX6_compare_59 : decode cX6_compare 59 = .ok (.ireturn, 1) := by decide +kernel
theorem dX6_mildest_0 : decode cX6_mildest 0 = .ok (.aload_n 0, 1) := by decide +kernel
theorem dX6_mildest_1 : decode cX6_mildest 1 = .ok (.iconst 0, 1) := by decide +kernel
theorem dX6_mildest_2 : decode cX6_mildest 2 = .ok (.putfield 129, 3) := by decide +kernel
theorem dX6_mildest_5 : decode cX6_mildest 5 = .ok (.aload_n 0, 1) := by decide +kernel
theorem dX6_mildest_6 : decode cX6_mildest 6 = .ok (.iload_n 1, 1) := by decide +kernel
theorem dX6_mildest_7 : decode cX6_mildest 7 = .ok (.iconst 0, 1) := by decide +kernel
theorem dX6_mildest_8 : decode cX6_mildest 8 = .ok (.sipush 9999, 3) := by decide +kernel
theorem dX6_mildest_11 : decode cX6_mildest 11 = .ok (.invokestatic 385, 3) := by decide +kernel
theorem dX6_mildest_14 : decode cX6_mildest 14 = .ok (.iconst 1, 1) := by decide +kernel
theorem dX6_mildest_15 : decode cX6_mildest 15 = .ok (.invokevirtual 290, 3) := by decide +kernel
theorem dX6_mildest_18 : decode cX6_mildest 18 = .ok (.ifCond .ne 5, 3) := by decide +kernel
theorem dX6_mildest_21 : decode cX6_mildest 21 = .ok (.iconst 0, 1) := by decide +kernel
theorem dX6_mildest_22 : decode cX6_mildest 22 = .ok (.ireturn, 1) := by decide +kernel
theorem dX6_mildest_23 : decode cX6_mildest 23 = .ok (.iconst (-1), 1) := by decide +kernel
theorem dX6_mildest_24 : decode cX6_mildest 24 = .ok (.istore_n 2, 1) := by decide +kernel
theorem dX6_mildest_25 : decode cX6_mildest 25 = .ok (.iconst 0, 1) := by decide +kernel
theorem dX6_mildest_26 : decode cX6_mildest 26 = .ok (.istore_n 3, 1) := by decide +kernel
theorem dX6_mildest_27 : decode cX6_mildest 27 = .ok (.iload_n 3, 1) := by decide +kernel
theorem dX6_mildest_28 : decode cX6_mildest 28 = .ok (.aload_n 0, 1) := by decide +kernel
theorem dX6_mildest_29 : decode cX6_mildest 29 = .ok (.getfield 300, 3) := by decide +kernel
theorem dX6_mildest_32 : decode cX6_mildest 32 = .ok (.if_icmp .ge 38, 3) := by decide +kernel
theorem dX6_mildest_35 : decode cX6_mildest 35 = .ok (.aload_n 0, 1) := by decide +kernel
theorem dX6_mildest_36 : decode cX6_mildest 36 = .ok (.iload_n 3, 1) := by decide +kernel
theorem dX6_mildest_37 : decode cX6_mildest 37 = .ok (.invokevirtual 382, 3) := by decide +kernel
theorem dX6_mildest_40 : decode cX6_mildest 40 = .ok (.iload_n 1, 1) := by decide +kernel
theorem dX6_mildest_41 : decode cX6_mildest 41 = .ok (.if_icmp .lt 23, 3) := by decide +kernel
theorem dX6_mildest_44 : decode cX6_mildest 44 = .ok (.iload_n 2, 1) := by decide +kernel
theorem dX6_mildest_45 : decode cX6_mildest 45 = .ok (.iconst (-1), 1) := by decide +kernel
theorem dX6_mildest_46 : decode cX6_mildest 46 = .ok (.if_icmp .eq 16, 3) := by decide +kernel
theorem dX6_mildest_49 : decode cX6_mildest 49 = .ok (.aload_n 0, 1) := by decide +kernel
theorem dX6_mildest_50 : decode cX6_mildest 50 = .ok (.iload_n 3, 1) := by decide +kernel
theorem dX6_mildest_51 : decode cX6_mildest 51 = .ok (.invokevirtual 437, 3) := by decide +kernel
theorem dX6_mildest_54 : decode cX6_mildest 54 = .ok (.aload_n 0, 1) := by decide +kernel
theorem dX6_mildest_55 : decode cX6_mildest 55 = .ok (.iload_n 2, 1) := by decide +kernel
theorem dX6_mildest_56 : decode cX6_mildest 56 = .ok (.invokevirtual 437, 3) := by decide +kernel
theorem dX6_mildest_59 : decode cX6_mildest 59 = .ok (.if_icmp .ge 5, 3) := by decide +kernel
theorem dX6_mildest_62 : decode cX6_mildest 62 = .ok (.iload_n 3, 1) := by decide +kernel
theorem dX6_mildest_63 : decode cX6_mildest 63 = .ok (.istore_n 2, 1) := by decide +kernel
theorem dX6_mildest_64 : decode cX6_mildest 64 = .ok (.iinc 3 1, 3) := by decide +kernel
theorem dX6_mildest_67 : decode cX6_mildest 67 = .ok (.goto (-40), 3) := by decide +kernel
theorem dX6_mildest_70 : decode cX6_mildest 70 = .ok (.iload_n 2, 1) := by decide +kernel
theorem dX6_mildest_71 : decode cX6_mildest 71 = .ok (.ireturn, 1) := by decide +kernel
theorem dX6_stepsTo_0 : decode cX6_stepsTo 0 = .ok (.iload_n 1, 1) := by decide +kernel
theorem dX6_stepsTo_1 : decode cX6_stepsTo 1 = .ok (.aload_n 0, 1) := by decide +kernel
theorem dX6_stepsTo_2 : decode cX6_stepsTo 2 = .ok (.getfield 7, 3) := by decide +kernel
theorem dX6_stepsTo_5 : decode cX6_stepsTo 5 = .ok (.irem, 1) := by decide +kernel
theorem dX6_stepsTo_6 : decode cX6_stepsTo 6 = .ok (.iload_n 2, 1) := by decide +kernel
theorem dX6_stepsTo_7 : decode cX6_stepsTo 7 = .ok (.aload_n 0, 1) := by decide +kernel
theorem dX6_stepsTo_8 : decode cX6_stepsTo 8 = .ok (.getfield 7, 3) := by decide +kernel
theorem dX6_stepsTo_11 : decode cX6_stepsTo 11 = .ok (.irem, 1) := by decide +kernel
theorem dX6_stepsTo_12 : decode cX6_stepsTo 12 = .ok (.invokestatic 440, 3) := by decide +kernel
theorem dX6_stepsTo_15 : decode cX6_stepsTo 15 = .ok (.istore_n 3, 1) := by decide +kernel
theorem dX6_stepsTo_16 : decode cX6_stepsTo 16 = .ok (.iload_n 1, 1) := by decide +kernel
theorem dX6_stepsTo_17 : decode cX6_stepsTo 17 = .ok (.aload_n 0, 1) := by decide +kernel
theorem dX6_stepsTo_18 : decode cX6_stepsTo 18 = .ok (.getfield 7, 3) := by decide +kernel
theorem dX6_stepsTo_21 : decode cX6_stepsTo 21 = .ok (.idiv, 1) := by decide +kernel
theorem dX6_stepsTo_22 : decode cX6_stepsTo 22 = .ok (.iload_n 2, 1) := by decide +kernel
theorem dX6_stepsTo_23 : decode cX6_stepsTo 23 = .ok (.aload_n 0, 1) := by decide +kernel
theorem dX6_stepsTo_24 : decode cX6_stepsTo 24 = .ok (.getfield 7, 3) := by decide +kernel
theorem dX6_stepsTo_27 : decode cX6_stepsTo 27 = .ok (.idiv, 1) := by decide +kernel
theorem dX6_stepsTo_28 : decode cX6_stepsTo 28 = .ok (.invokestatic 440, 3) := by decide +kernel
theorem dX6_stepsTo_31 : decode cX6_stepsTo 31 = .ok (.istore 4, 2) := by decide +kernel
theorem dX6_stepsTo_33 : decode cX6_stepsTo 33 = .ok (.iload_n 3, 1) := by decide +kernel
theorem dX6_stepsTo_34 : decode cX6_stepsTo 34 = .ok (.iload 4, 2) := by decide +kernel
theorem dX6_stepsTo_36 : decode cX6_stepsTo 36 = .ok (.if_icmp .le 7, 3) := by decide +kernel
theorem dX6_stepsTo_39 : decode cX6_stepsTo 39 = .ok (.iload_n 3, 1) := by decide +kernel
theorem dX6_stepsTo_40 : decode cX6_stepsTo 40 = .ok (.goto 5, 3) := by decide +kernel
theorem dX6_stepsTo_43 : decode cX6_stepsTo 43 = .ok (.iload 4, 2) := by decide +kernel
theorem dX6_stepsTo_45 : decode cX6_stepsTo 45 = .ok (.ireturn, 1) := by decide +kernel
theorem dX6_changes_0 : decode cX6_changes 0 = .ok (.aload_n 0, 1) := by decide +kernel
theorem dX6_changes_1 : decode cX6_changes 1 = .ok (.getfield 111, 3) := by decide +kernel
theorem dX6_changes_4 : decode cX6_changes 4 = .ok (.iload_n 1, 1) := by decide +kernel
theorem dX6_changes_5 : decode cX6_changes 5 = .ok (.iaload, 1) := by decide +kernel
theorem dX6_changes_6 : decode cX6_changes 6 = .ok (.istore_n 3, 1) := by decide +kernel
theorem dX6_changes_7 : decode cX6_changes 7 = .ok (.aload_n 0, 1) := by decide +kernel
theorem dX6_changes_8 : decode cX6_changes 8 = .ok (.getfield 111, 3) := by decide +kernel
theorem dX6_changes_11 : decode cX6_changes 11 = .ok (.iload_n 1, 1) := by decide +kernel
theorem dX6_changes_12 : decode cX6_changes 12 = .ok (.aload_n 0, 1) := by decide +kernel
theorem dX6_changes_13 : decode cX6_changes 13 = .ok (.getfield 111, 3) := by decide +kernel
theorem dX6_changes_16 : decode cX6_changes 16 = .ok (.iload_n 2, 1) := by decide +kernel
theorem dX6_changes_17 : decode cX6_changes 17 = .ok (.iaload, 1) := by decide +kernel
theorem dX6_changes_18 : decode cX6_changes 18 = .ok (.iastore, 1) := by decide +kernel
theorem dX6_changes_19 : decode cX6_changes 19 = .ok (.aload_n 0, 1) := by decide +kernel
theorem dX6_changes_20 : decode cX6_changes 20 = .ok (.getfield 111, 3) := by decide +kernel
theorem dX6_changes_23 : decode cX6_changes 23 = .ok (.iload_n 2, 1) := by decide +kernel
theorem dX6_changes_24 : decode cX6_changes 24 = .ok (.iload_n 3, 1) := by decide +kernel
theorem dX6_changes_25 : decode cX6_changes 25 = .ok (.iastore, 1) := by decide +kernel
theorem dX6_changes_26 : decode cX6_changes 26 = .ok (.return_, 1) := by decide +kernel
theorem dX6_nextRow_0 : decode cX6_nextRow 0 = .ok (.aload_n 0, 1) := by decide +kernel
theorem dX6_nextRow_1 : decode cX6_nextRow 1 = .ok (.getfield 297, 3) := by decide +kernel
theorem dX6_nextRow_4 : decode cX6_nextRow 4 = .ok (.iconst 2, 1) := by decide +kernel
theorem dX6_nextRow_5 : decode cX6_nextRow 5 = .ok (.isub, 1) := by decide +kernel
theorem dX6_nextRow_6 : decode cX6_nextRow 6 = .ok (.istore_n 1, 1) := by decide +kernel
theorem dX6_nextRow_7 : decode cX6_nextRow 7 = .ok (.iload_n 1, 1) := by decide +kernel
theorem dX6_nextRow_8 : decode cX6_nextRow 8 = .ok (.ifCond .lt 26, 3) := by decide +kernel
theorem dX6_nextRow_11 : decode cX6_nextRow 11 = .ok (.aload_n 0, 1) := by decide +kernel
theorem dX6_nextRow_12 : decode cX6_nextRow 12 = .ok (.getfield 111, 3) := by decide +kernel
theorem dX6_nextRow_15 : decode cX6_nextRow 15 = .ok (.iload_n 1, 1) := by decide +kernel
theorem dX6_nextRow_16 : decode cX6_nextRow 16 = .ok (.iaload, 1) := by decide +kernel
theorem dX6_nextRow_17 : decode cX6_nextRow 17 = .ok (.aload_n 0, 1) := by decide +kernel
theorem dX6_nextRow_18 : decode cX6_nextRow 18 = .ok (.getfield 111, 3) := by decide +kernel
theorem dX6_nextRow_21 : decode cX6_nextRow 21 = .ok (.iload_n 1, 1) := by decide +kernel
theorem dX6_nextRow_22 : decode cX6_nextRow 22 = .ok (.iconst 1, 1) := by decide +kernel
theorem dX6_nextRow_23 : decode cX6_nextRow 23 = .ok (.iadd, 1) := by decide +kernel
theorem dX6_nextRow_24 : decode cX6_nextRow 24 = .ok (.iaload, 1) := by decide +kernel
theorem dX6_nextRow_25 : decode cX6_nextRow 25 = .ok (.if_icmp .le 9, 3) := by decide +kernel
theorem dX6_nextRow_28 : decode cX6_nextRow 28 = .ok (.iinc 1 (-1), 3) := by decide +kernel
theorem dX6_nextRow_31 : decode cX6_nextRow 31 = .ok (.goto (-24), 3) := by decide +kernel
theorem dX6_nextRow_34 : decode cX6_nextRow 34 = .ok (.iload_n 1, 1) := by decide +kernel
theorem dX6_nextRow_35 : decode cX6_nextRow 35 = .ok (.ifCond .ge 5, 3) := by decide +kernel
theorem dX6_nextRow_38 : decode cX6_nextRow 38 = .ok (.iconst 0, 1) := by decide +kernel
theorem dX6_nextRow_39 : decode cX6_nextRow 39 = .ok (.ireturn, 1) := by decide +kernel
theorem dX6_nextRow_40 : decode cX6_nextRow 40 = .ok (.aload_n 0, 1) := by decide +kernel
theorem dX6_nextRow_41 : decode cX6_nextRow 41 = .ok (.getfield 297, 3) := by decide +kernel
theorem dX6_nextRow_44 : decode cX6_nextRow 44 = .ok (.iconst 1, 1) := by decide +kernel
theorem dX6_nextRow_45 : decode cX6_nextRow 45 = .ok (.isub, 1) := by decide +kernel
theorem dX6_nextRow_46 : decode cX6_nextRow 46 = .ok (.istore_n 2, 1) := by decide +kernel
theorem dX6_nextRow_47 : decode cX6_nextRow 47 = .ok (.aload_n 0, 1) := by decide +kernel
theorem dX6_nextRow_48 : decode cX6_nextRow 48 = .ok (.getfield 111, 3) := by decide +kernel
theorem dX6_nextRow_51 : decode cX6_nextRow 51 = .ok (.iload_n 2, 1) := by decide +kernel
theorem dX6_nextRow_52 : decode cX6_nextRow 52 = .ok (.iaload, 1) := by decide +kernel
theorem dX6_nextRow_53 : decode cX6_nextRow 53 = .ok (.aload_n 0, 1) := by decide +kernel
theorem dX6_nextRow_54 : decode cX6_nextRow 54 = .ok (.getfield 111, 3) := by decide +kernel
theorem dX6_nextRow_57 : decode cX6_nextRow 57 = .ok (.iload_n 1, 1) := by decide +kernel
theorem dX6_nextRow_58 : decode cX6_nextRow 58 = .ok (.iaload, 1) := by decide +kernel
theorem dX6_nextRow_59 : decode cX6_nextRow 59 = .ok (.if_icmp .ge 9, 3) := by decide +kernel
theorem dX6_nextRow_62 : decode cX6_nextRow 62 = .ok (.iinc 2 (-1), 3) := by decide +kernel
theorem dX6_nextRow_65 : decode cX6_nextRow 65 = .ok (.goto (-18), 3) := by decide +kernel
theorem dX6_nextRow_68 : decode cX6_nextRow 68 = .ok (.aload_n 0, 1) := by decide +kernel
theorem dX6_nextRow_69 : decode cX6_nextRow 69 = .ok (.iload_n 1, 1) := by decide +kernel
theorem dX6_nextRow_70 : decode cX6_nextRow 70 = .ok (.iload_n 2, 1) := by decide +kernel
theorem dX6_nextRow_71 : decode cX6_nextRow 71 = .ok (.invokevirtual 443, 3) := by decide +kernel
theorem dX6_nextRow_74 : decode cX6_nextRow 74 = .ok (.iload_n 1, 1) := by decide +kernel
theorem dX6_nextRow_75 : decode cX6_nextRow 75 = .ok (.iconst 1, 1) := by decide +kernel
theorem dX6_nextRow_76 : decode cX6_nextRow 76 = .ok (.iadd, 1) := by decide +kernel
theorem dX6_nextRow_77 : decode cX6_nextRow 77 = .ok (.istore_n 3, 1) := by decide +kernel
theorem dX6_nextRow_78 : decode cX6_nextRow 78 = .ok (.aload_n 0, 1) := by decide +kernel
theorem dX6_nextRow_79 : decode cX6_nextRow 79 = .ok (.getfield 297, 3) := by decide +kernel
theorem dX6_nextRow_82 : decode cX6_nextRow 82 = .ok (.iconst 1, 1) := by decide +kernel
theorem dX6_nextRow_83 : decode cX6_nextRow 83 = .ok (.isub, 1) := by decide +kernel
theorem dX6_nextRow_84 : decode cX6_nextRow 84 = .ok (.istore 4, 2) := by decide +kernel
theorem dX6_nextRow_86 : decode cX6_nextRow 86 = .ok (.iload_n 3, 1) := by decide +kernel
theorem dX6_nextRow_87 : decode cX6_nextRow 87 = .ok (.iload 4, 2) := by decide +kernel
theorem dX6_nextRow_89 : decode cX6_nextRow 89 = .ok (.if_icmp .ge 19, 3) := by decide +kernel
theorem dX6_nextRow_92 : decode cX6_nextRow 92 = .ok (.aload_n 0, 1) := by decide +kernel
theorem dX6_nextRow_93 : decode cX6_nextRow 93 = .ok (.iload_n 3, 1) := by decide +kernel
theorem dX6_nextRow_94 : decode cX6_nextRow 94 = .ok (.iload 4, 2) := by decide +kernel
theorem dX6_nextRow_96 : decode cX6_nextRow 96 = .ok (.invokevirtual 443, 3) := by decide +kernel
theorem dX6_nextRow_99 : decode cX6_nextRow 99 = .ok (.iinc 3 1, 3) := by decide +kernel
theorem dX6_nextRow_102 : decode cX6_nextRow 102 = .ok (.iinc 4 (-1), 3) := by decide +kernel
theorem dX6_nextRow_105 : decode cX6_nextRow 105 = .ok (.goto (-19), 3) := by decide +kernel
theorem dX6_nextRow_108 : decode cX6_nextRow 108 = .ok (.iconst 1, 1) := by decide +kernel
theorem dX6_nextRow_109 : decode cX6_nextRow 109 = .ok (.ireturn, 1) := by decide +kernel
theorem dX6_round_0 : decode cX6_round 0 = .ok (.aload_n 0, 1) := by decide +kernel
theorem dX6_round_1 : decode cX6_round 1 = .ok (.iconst 0, 1) := by decide +kernel
theorem dX6_round_2 : decode cX6_round 2 = .ok (.putfield 129, 3) := by decide +kernel
theorem dX6_round_5 : decode cX6_round 5 = .ok (.aload_n 0, 1) := by decide +kernel
theorem dX6_round_6 : decode cX6_round 6 = .ok (.iload_n 1, 1) := by decide +kernel
theorem dX6_round_7 : decode cX6_round 7 = .ok (.invokevirtual 395, 3) := by decide +kernel
theorem dX6_round_10 : decode cX6_round 10 = .ok (.ifCond .ne 5, 3) := by decide +kernel
theorem dX6_round_13 : decode cX6_round 13 = .ok (.iconst 0, 1) := by decide +kernel
theorem dX6_round_14 : decode cX6_round 14 = .ok (.ireturn, 1) := by decide +kernel
theorem dX6_round_15 : decode cX6_round 15 = .ok (.iconst 0, 1) := by decide +kernel
theorem dX6_round_16 : decode cX6_round 16 = .ok (.istore_n 2, 1) := by decide +kernel
theorem dX6_round_17 : decode cX6_round 17 = .ok (.iload_n 2, 1) := by decide +kernel
theorem dX6_round_18 : decode cX6_round 18 = .ok (.aload_n 0, 1) := by decide +kernel
theorem dX6_round_19 : decode cX6_round 19 = .ok (.getfield 297, 3) := by decide +kernel
theorem dX6_round_22 : decode cX6_round 22 = .ok (.if_icmp .ge 16, 3) := by decide +kernel
theorem dX6_round_25 : decode cX6_round 25 = .ok (.aload_n 0, 1) := by decide +kernel
theorem dX6_round_26 : decode cX6_round 26 = .ok (.getfield 111, 3) := by decide +kernel
theorem dX6_round_29 : decode cX6_round 29 = .ok (.iload_n 2, 1) := by decide +kernel
theorem dX6_round_30 : decode cX6_round 30 = .ok (.iload_n 2, 1) := by decide +kernel
theorem dX6_round_31 : decode cX6_round 31 = .ok (.iastore, 1) := by decide +kernel
theorem dX6_round_32 : decode cX6_round 32 = .ok (.iinc 2 1, 3) := by decide +kernel
theorem dX6_round_35 : decode cX6_round 35 = .ok (.goto (-18), 3) := by decide +kernel
theorem dX6_round_38 : decode cX6_round 38 = .ok (.iconst (-1), 1) := by decide +kernel
theorem dX6_round_39 : decode cX6_round 39 = .ok (.istore_n 2, 1) := by decide +kernel
theorem dX6_round_40 : decode cX6_round 40 = .ok (.iconst 1, 1) := by decide +kernel
theorem dX6_round_41 : decode cX6_round 41 = .ok (.istore_n 3, 1) := by decide +kernel
theorem dX6_round_42 : decode cX6_round 42 = .ok (.iload_n 3, 1) := by decide +kernel
theorem dX6_round_43 : decode cX6_round 43 = .ok (.ifCond .eq 102, 3) := by decide +kernel
theorem dX6_round_46 : decode cX6_round 46 = .ok (.iconst 0, 1) := by decide +kernel
theorem dX6_round_47 : decode cX6_round 47 = .ok (.istore 4, 2) := by decide +kernel
theorem dX6_round_49 : decode cX6_round 49 = .ok (.iconst 0, 1) := by decide +kernel
theorem dX6_round_50 : decode cX6_round 50 = .ok (.istore 5, 2) := by decide +kernel
theorem dX6_round_52 : decode cX6_round 52 = .ok (.iload 5, 2) := by decide +kernel
theorem dX6_round_54 : decode cX6_round 54 = .ok (.aload_n 0, 1) := by decide +kernel
theorem dX6_round_55 : decode cX6_round 55 = .ok (.getfield 297, 3) := by decide +kernel
theorem dX6_round_58 : decode cX6_round 58 = .ok (.if_icmp .ge 53, 3) := by decide +kernel
theorem dX6_round_61 : decode cX6_round 61 = .ok (.iload 4, 2) := by decide +kernel
theorem dX6_round_63 : decode cX6_round 63 = .ok (.aload_n 0, 1) := by decide +kernel
theorem dX6_round_64 : decode cX6_round 64 = .ok (.iload 5, 2) := by decide +kernel
theorem dX6_round_66 : decode cX6_round 66 = .ok (.ifCond .ne 7, 3) := by decide +kernel
theorem dX6_round_69 : decode cX6_round 69 = .ok (.iload_n 1, 1) := by decide +kernel
theorem dX6_round_70 : decode cX6_round 70 = .ok (.goto 17, 3) := by decide +kernel
theorem dX6_round_73 : decode cX6_round 73 = .ok (.aload_n 0, 1) := by decide +kernel
theorem dX6_round_74 : decode cX6_round 74 = .ok (.getfield 20, 3) := by decide +kernel
theorem dX6_round_77 : decode cX6_round 77 = .ok (.aload_n 0, 1) := by decide +kernel
theorem dX6_round_78 : decode cX6_round 78 = .ok (.getfield 111, 3) := by decide +kernel
theorem dX6_round_81 : decode cX6_round 81 = .ok (.iload 5, 2) := by decide +kernel
theorem dX6_round_83 : decode cX6_round 83 = .ok (.iconst 1, 1) := by decide +kernel
theorem dX6_round_84 : decode cX6_round 84 = .ok (.isub, 1) := by decide +kernel
theorem dX6_round_85 : decode cX6_round 85 = .ok (.iaload, 1) := by decide +kernel
theorem dX6_round_86 : decode cX6_round 86 = .ok (.iaload, 1) := by decide +kernel
theorem dX6_round_87 : decode cX6_round 87 = .ok (.aload_n 0, 1) := by decide +kernel
theorem dX6_round_88 : decode cX6_round 88 = .ok (.getfield 20, 3) := by decide +kernel
theorem dX6_round_91 : decode cX6_round 91 = .ok (.aload_n 0, 1) := by decide +kernel
theorem dX6_round_92 : decode cX6_round 92 = .ok (.getfield 111, 3) := by decide +kernel
theorem dX6_round_95 : decode cX6_round 95 = .ok (.iload 5, 2) := by decide +kernel
theorem dX6_round_97 : decode cX6_round 97 = .ok (.iaload, 1) := by decide +kernel
theorem dX6_round_98 : decode cX6_round 98 = .ok (.iaload, 1) := by decide +kernel
theorem dX6_round_99 : decode cX6_round 99 = .ok (.invokevirtual 447, 3) := by decide +kernel
theorem dX6_round_102 : decode cX6_round 102 = .ok (.iadd, 1) := by decide +kernel
theorem dX6_round_103 : decode cX6_round 103 = .ok (.istore 4, 2) := by decide +kernel
theorem dX6_round_105 : decode cX6_round 105 = .ok (.iinc 5 1, 3) := by decide +kernel
theorem dX6_round_108 : decode cX6_round 108 = .ok (.goto (-56), 3) := by decide +kernel
theorem dX6_round_111 : decode cX6_round 111 = .ok (.iload_n 2, 1) := by decide +kernel
theorem dX6_round_112 : decode cX6_round 112 = .ok (.iconst (-1), 1) := by decide +kernel
theorem dX6_round_113 : decode cX6_round 113 = .ok (.if_icmp .eq 9, 3) := by decide +kernel
theorem dX6_round_116 : decode cX6_round 116 = .ok (.iload 4, 2) := by decide +kernel
theorem dX6_round_118 : decode cX6_round 118 = .ok (.iload_n 2, 1) := by decide +kernel
theorem dX6_round_119 : decode cX6_round 119 = .ok (.if_icmp .ge 18, 3) := by decide +kernel
theorem dX6_round_122 : decode cX6_round 122 = .ok (.iload 4, 2) := by decide +kernel
theorem dX6_round_124 : decode cX6_round 124 = .ok (.istore_n 2, 1) := by decide +kernel
theorem dX6_round_125 : decode cX6_round 125 = .ok (.aload_n 0, 1) := by decide +kernel
theorem dX6_round_126 : decode cX6_round 126 = .ok (.aload_n 0, 1) := by decide +kernel
theorem dX6_round_127 : decode cX6_round 127 = .ok (.getfield 111, 3) := by decide +kernel
theorem dX6_round_130 : decode cX6_round 130 = .ok (.aload_n 0, 1) := by decide +kernel
theorem dX6_round_131 : decode cX6_round 131 = .ok (.getfield 108, 3) := by decide +kernel
theorem dX6_round_134 : decode cX6_round 134 = .ok (.invokevirtual 306, 3) := by decide +kernel
theorem dX6_round_137 : decode cX6_round 137 = .ok (.aload_n 0, 1) := by decide +kernel
theorem dX6_round_138 : decode cX6_round 138 = .ok (.invokevirtual 450, 3) := by decide +kernel
theorem dX6_round_141 : decode cX6_round 141 = .ok (.istore_n 3, 1) := by decide +kernel
theorem dX6_round_142 : decode cX6_round 142 = .ok (.goto (-100), 3) := by decide +kernel
theorem dX6_round_145 : decode cX6_round 145 = .ok (.aload_n 0, 1) := by decide +kernel
theorem dX6_round_146 : decode cX6_round 146 = .ok (.iconst 1, 1) := by decide +kernel
theorem dX6_round_147 : decode cX6_round 147 = .ok (.putfield 316, 3) := by decide +kernel
theorem dX6_round_150 : decode cX6_round 150 = .ok (.iload_n 2, 1) := by decide +kernel
theorem dX6_round_151 : decode cX6_round 151 = .ok (.ireturn, 1) := by decide +kernel
theorem dX6_stop_0 : decode cX6_stop 0 = .ok (.aload_n 0, 1) := by decide +kernel
theorem dX6_stop_1 : decode cX6_stop 1 = .ok (.iconst 0, 1) := by decide +kernel
theorem dX6_stop_2 : decode cX6_stop 2 = .ok (.putfield 129, 3) := by decide +kernel
theorem dX6_stop_5 : decode cX6_stop 5 = .ok (.aload_n 0, 1) := by decide +kernel
theorem dX6_stop_6 : decode cX6_stop 6 = .ok (.aload_n 0, 1) := by decide +kernel
theorem dX6_stop_7 : decode cX6_stop 7 = .ok (.getfield 316, 3) := by decide +kernel
theorem dX6_stop_10 : decode cX6_stop 10 = .ok (.ifCond .eq 19, 3) := by decide +kernel
theorem dX6_stop_13 : decode cX6_stop 13 = .ok (.iload_n 1, 1) := by decide +kernel
theorem dX6_stop_14 : decode cX6_stop 14 = .ok (.ifCond .lt 15, 3) := by decide +kernel
theorem dX6_stop_17 : decode cX6_stop 17 = .ok (.iload_n 1, 1) := by decide +kernel
theorem dX6_stop_18 : decode cX6_stop 18 = .ok (.aload_n 0, 1) := by decide +kernel
theorem dX6_stop_19 : decode cX6_stop 19 = .ok (.getfield 297, 3) := by decide +kernel
theorem dX6_stop_22 : decode cX6_stop 22 = .ok (.if_icmp .ge 7, 3) := by decide +kernel
theorem dX6_stop_25 : decode cX6_stop 25 = .ok (.iconst 1, 1) := by decide +kernel
theorem dX6_stop_26 : decode cX6_stop 26 = .ok (.goto 4, 3) := by decide +kernel
theorem dX6_stop_29 : decode cX6_stop 29 = .ok (.iconst 0, 1) := by decide +kernel
theorem dX6_stop_30 : decode cX6_stop 30 = .ok (.iconst 1, 1) := by decide +kernel
theorem dX6_stop_31 : decode cX6_stop 31 = .ok (.invokevirtual 290, 3) := by decide +kernel
theorem dX6_stop_34 : decode cX6_stop 34 = .ok (.ifCond .eq 12, 3) := by decide +kernel
theorem dX6_stop_37 : decode cX6_stop 37 = .ok (.aload_n 0, 1) := by decide +kernel
theorem dX6_stop_38 : decode cX6_stop 38 = .ok (.getfield 108, 3) := by decide +kernel
theorem dX6_stop_41 : decode cX6_stop 41 = .ok (.iload_n 1, 1) := by decide +kernel
theorem dX6_stop_42 : decode cX6_stop 42 = .ok (.iaload, 1) := by decide +kernel
theorem dX6_stop_43 : decode cX6_stop 43 = .ok (.goto 4, 3) := by decide +kernel
theorem dX6_stop_46 : decode cX6_stop 46 = .ok (.iconst 0, 1) := by decide +kernel
theorem dX6_stop_47 : decode cX6_stop 47 = .ok (.ireturn, 1) := by decide +kernel
theorem dX6_loses_0 : decode cX6_loses 0 = .ok (.iconst 0, 1) := by decide +kernel
theorem dX6_loses_1 : decode cX6_loses 1 = .ok (.istore 5, 2) := by decide +kernel
theorem dX6_loses_3 : decode cX6_loses 3 = .ok (.iload 5, 2) := by decide +kernel
theorem dX6_loses_5 : decode cX6_loses 5 = .ok (.iconst 4, 1) := by decide +kernel
theorem dX6_loses_6 : decode cX6_loses 6 = .ok (.if_icmp .ge 139, 3) := by decide +kernel
theorem dX6_loses_9 : decode cX6_loses 9 = .ok (.aload_n 0, 1) := by decide +kernel
theorem dX6_loses_10 : decode cX6_loses 10 = .ok (.getfield 75, 3) := by decide +kernel
theorem dX6_loses_13 : decode cX6_loses 13 = .ok (.bipush 48, 2) := by decide +kernel
theorem dX6_loses_15 : decode cX6_loses 15 = .ok (.iload_n 1, 1) := by decide +kernel
theorem dX6_loses_16 : decode cX6_loses 16 = .ok (.iadd, 1) := by decide +kernel
theorem dX6_loses_17 : decode cX6_loses 17 = .ok (.iaload, 1) := by decide +kernel
theorem dX6_loses_18 : decode cX6_loses 18 = .ok (.istore 6, 2) := by decide +kernel
theorem dX6_loses_20 : decode cX6_loses 20 = .ok (.aload_n 0, 1) := by decide +kernel
theorem dX6_loses_21 : decode cX6_loses 21 = .ok (.getfield 75, 3) := by decide +kernel
theorem dX6_loses_24 : decode cX6_loses 24 = .ok (.bipush 48, 2) := by decide +kernel
theorem dX6_loses_26 : decode cX6_loses 26 = .ok (.iload_n 2, 1) := by decide +kernel
theorem dX6_loses_27 : decode cX6_loses 27 = .ok (.iadd, 1) := by decide +kernel
theorem dX6_loses_28 : decode cX6_loses 28 = .ok (.iaload, 1) := by decide +kernel
theorem dX6_loses_29 : decode cX6_loses 29 = .ok (.istore 7, 2) := by decide +kernel
theorem dX6_loses_31 : decode cX6_loses 31 = .ok (.aload_n 0, 1) := by decide +kernel
theorem dX6_loses_32 : decode cX6_loses 32 = .ok (.getfield 75, 3) := by decide +kernel
theorem dX6_loses_35 : decode cX6_loses 35 = .ok (.bipush 48, 2) := by decide +kernel
theorem dX6_loses_37 : decode cX6_loses 37 = .ok (.iload_n 1, 1) := by decide +kernel
theorem dX6_loses_38 : decode cX6_loses 38 = .ok (.iadd, 1) := by decide +kernel
theorem dX6_loses_39 : decode cX6_loses 39 = .ok (.dup2, 1) := by decide +kernel
theorem dX6_loses_40 : decode cX6_loses 40 = .ok (.iaload, 1) := by decide +kernel
theorem dX6_loses_41 : decode cX6_loses 41 = .ok (.iload 5, 2) := by decide +kernel
theorem dX6_loses_43 : decode cX6_loses 43 = .ok (.iconst 2, 1) := by decide +kernel
theorem dX6_loses_44 : decode cX6_loses 44 = .ok (.idiv, 1) := by decide +kernel
theorem dX6_loses_45 : decode cX6_loses 45 = .ok (.iload_n 3, 1) := by decide +kernel
theorem dX6_loses_46 : decode cX6_loses 46 = .ok (.imul, 1) := by decide +kernel
theorem dX6_loses_47 : decode cX6_loses 47 = .ok (.iadd, 1) := by decide +kernel
theorem dX6_loses_48 : decode cX6_loses 48 = .ok (.iastore, 1) := by decide +kernel
theorem dX6_loses_49 : decode cX6_loses 49 = .ok (.aload_n 0, 1) := by decide +kernel
theorem dX6_loses_50 : decode cX6_loses 50 = .ok (.getfield 75, 3) := by decide +kernel
theorem dX6_loses_53 : decode cX6_loses 53 = .ok (.bipush 48, 2) := by decide +kernel
theorem dX6_loses_55 : decode cX6_loses 55 = .ok (.iload_n 2, 1) := by decide +kernel
theorem dX6_loses_56 : decode cX6_loses 56 = .ok (.iadd, 1) := by decide +kernel
theorem dX6_loses_57 : decode cX6_loses 57 = .ok (.dup2, 1) := by decide +kernel
theorem dX6_loses_58 : decode cX6_loses 58 = .ok (.iaload, 1) := by decide +kernel
theorem dX6_loses_59 : decode cX6_loses 59 = .ok (.iload 5, 2) := by decide +kernel
theorem dX6_loses_61 : decode cX6_loses 61 = .ok (.iconst 2, 1) := by decide +kernel
theorem dX6_loses_62 : decode cX6_loses 62 = .ok (.irem, 1) := by decide +kernel
theorem dX6_loses_63 : decode cX6_loses 63 = .ok (.iload_n 3, 1) := by decide +kernel
theorem dX6_loses_64 : decode cX6_loses 64 = .ok (.imul, 1) := by decide +kernel
theorem dX6_loses_65 : decode cX6_loses 65 = .ok (.iadd, 1) := by decide +kernel
theorem dX6_loses_66 : decode cX6_loses 66 = .ok (.iastore, 1) := by decide +kernel
theorem dX6_loses_67 : decode cX6_loses 67 = .ok (.aload_n 0, 1) := by decide +kernel
theorem dX6_loses_68 : decode cX6_loses 68 = .ok (.invokevirtual 379, 3) := by decide +kernel
theorem dX6_loses_71 : decode cX6_loses 71 = .ok (.aload_n 0, 1) := by decide +kernel
theorem dX6_loses_72 : decode cX6_loses 72 = .ok (.getfield 114, 3) := by decide +kernel
theorem dX6_loses_75 : decode cX6_loses 75 = .ok (.iconst 2, 1) := by decide +kernel
theorem dX6_loses_76 : decode cX6_loses 76 = .ok (.iload 5, 2) := by decide +kernel
theorem dX6_loses_78 : decode cX6_loses 78 = .ok (.imul, 1) := by decide +kernel
theorem dX6_loses_79 : decode cX6_loses 79 = .ok (.aload_n 0, 1) := by decide +kernel
theorem dX6_loses_80 : decode cX6_loses 80 = .ok (.iload_n 1, 1) := by decide +kernel
theorem dX6_loses_81 : decode cX6_loses 81 = .ok (.invokevirtual 410, 3) := by decide +kernel
theorem dX6_loses_84 : decode cX6_loses 84 = .ok (.iload 5, 2) := by decide +kernel
theorem dX6_loses_86 : decode cX6_loses 86 = .ok (.iconst 2, 1) := by decide +kernel
theorem dX6_loses_87 : decode cX6_loses 87 = .ok (.idiv, 1) := by decide +kernel
theorem dX6_loses_88 : decode cX6_loses 88 = .ok (.iload 4, 2) := by decide +kernel
theorem dX6_loses_90 : decode cX6_loses 90 = .ok (.imul, 1) := by decide +kernel
theorem dX6_loses_91 : decode cX6_loses 91 = .ok (.iadd, 1) := by decide +kernel
theorem dX6_loses_92 : decode cX6_loses 92 = .ok (.iastore, 1) := by decide +kernel
theorem dX6_loses_93 : decode cX6_loses 93 = .ok (.aload_n 0, 1) := by decide +kernel
theorem dX6_loses_94 : decode cX6_loses 94 = .ok (.getfield 114, 3) := by decide +kernel
theorem dX6_loses_97 : decode cX6_loses 97 = .ok (.iconst 2, 1) := by decide +kernel
theorem dX6_loses_98 : decode cX6_loses 98 = .ok (.iload 5, 2) := by decide +kernel
theorem dX6_loses_100 : decode cX6_loses 100 = .ok (.imul, 1) := by decide +kernel
theorem dX6_loses_101 : decode cX6_loses 101 = .ok (.iconst 1, 1) := by decide +kernel
theorem dX6_loses_102 : decode cX6_loses 102 = .ok (.iadd, 1) := by decide +kernel
theorem dX6_loses_103 : decode cX6_loses 103 = .ok (.aload_n 0, 1) := by decide +kernel
theorem dX6_loses_104 : decode cX6_loses 104 = .ok (.iload_n 2, 1) := by decide +kernel
theorem dX6_loses_105 : decode cX6_loses 105 = .ok (.invokevirtual 410, 3) := by decide +kernel
theorem dX6_loses_108 : decode cX6_loses 108 = .ok (.iload 5, 2) := by decide +kernel
theorem dX6_loses_110 : decode cX6_loses 110 = .ok (.iconst 2, 1) := by decide +kernel
theorem dX6_loses_111 : decode cX6_loses 111 = .ok (.irem, 1) := by decide +kernel
theorem dX6_loses_112 : decode cX6_loses 112 = .ok (.iload 4, 2) := by decide +kernel
theorem dX6_loses_114 : decode cX6_loses 114 = .ok (.imul, 1) := by decide +kernel
theorem dX6_loses_115 : decode cX6_loses 115 = .ok (.iadd, 1) := by decide +kernel
theorem dX6_loses_116 : decode cX6_loses 116 = .ok (.iastore, 1) := by decide +kernel
theorem dX6_loses_117 : decode cX6_loses 117 = .ok (.aload_n 0, 1) := by decide +kernel
theorem dX6_loses_118 : decode cX6_loses 118 = .ok (.getfield 75, 3) := by decide +kernel
theorem dX6_loses_121 : decode cX6_loses 121 = .ok (.bipush 48, 2) := by decide +kernel
theorem dX6_loses_123 : decode cX6_loses 123 = .ok (.iload_n 1, 1) := by decide +kernel
theorem dX6_loses_124 : decode cX6_loses 124 = .ok (.iadd, 1) := by decide +kernel
theorem dX6_loses_125 : decode cX6_loses 125 = .ok (.iload 6, 2) := by decide +kernel
theorem dX6_loses_127 : decode cX6_loses 127 = .ok (.iastore, 1) := by decide +kernel
theorem dX6_loses_128 : decode cX6_loses 128 = .ok (.aload_n 0, 1) := by decide +kernel
theorem dX6_loses_129 : decode cX6_loses 129 = .ok (.getfield 75, 3) := by decide +kernel
theorem dX6_loses_132 : decode cX6_loses 132 = .ok (.bipush 48, 2) := by decide +kernel
theorem dX6_loses_134 : decode cX6_loses 134 = .ok (.iload_n 2, 1) := by decide +kernel
theorem dX6_loses_135 : decode cX6_loses 135 = .ok (.iadd, 1) := by decide +kernel
theorem dX6_loses_136 : decode cX6_loses 136 = .ok (.iload 7, 2) := by decide +kernel
theorem dX6_loses_138 : decode cX6_loses 138 = .ok (.iastore, 1) := by decide +kernel
theorem dX6_loses_139 : decode cX6_loses 139 = .ok (.iinc 5 1, 3) := by decide +kernel
theorem dX6_loses_142 : decode cX6_loses 142 = .ok (.goto (-139), 3) := by decide +kernel
theorem dX6_loses_145 : decode cX6_loses 145 = .ok (.return_, 1) := by decide +kernel
theorem dX6_barns_0 : decode cX6_barns 0 = .ok (.aload_n 0, 1) := by decide +kernel
theorem dX6_barns_1 : decode cX6_barns 1 = .ok (.iconst 0, 1) := by decide +kernel
theorem dX6_barns_2 : decode cX6_barns 2 = .ok (.putfield 129, 3) := by decide +kernel
theorem dX6_barns_5 : decode cX6_barns 5 = .ok (.aload_n 0, 1) := by decide +kernel
theorem dX6_barns_6 : decode cX6_barns 6 = .ok (.iload_n 1, 1) := by decide +kernel
theorem dX6_barns_7 : decode cX6_barns 7 = .ok (.invokevirtual 407, 3) := by decide +kernel
theorem dX6_barns_10 : decode cX6_barns 10 = .ok (.ifCond .eq 59, 3) := by decide +kernel
theorem dX6_barns_13 : decode cX6_barns 13 = .ok (.aload_n 0, 1) := by decide +kernel
theorem dX6_barns_14 : decode cX6_barns 14 = .ok (.iload_n 2, 1) := by decide +kernel
theorem dX6_barns_15 : decode cX6_barns 15 = .ok (.invokevirtual 407, 3) := by decide +kernel
theorem dX6_barns_18 : decode cX6_barns 18 = .ok (.ifCond .eq 51, 3) := by decide +kernel
theorem dX6_barns_21 : decode cX6_barns 21 = .ok (.aload_n 0, 1) := by decide +kernel
theorem dX6_barns_22 : decode cX6_barns 22 = .ok (.iload 5, 2) := by decide +kernel
theorem dX6_barns_24 : decode cX6_barns 24 = .ok (.iconst 1, 1) := by decide +kernel
theorem dX6_barns_25 : decode cX6_barns 25 = .ok (.invokevirtual 398, 3) := by decide +kernel
theorem dX6_barns_28 : decode cX6_barns 28 = .ok (.ifCond .eq 41, 3) := by decide +kernel
theorem dX6_barns_31 : decode cX6_barns 31 = .ok (.aload_n 0, 1) := by decide +kernel
theorem dX6_barns_32 : decode cX6_barns 32 = .ok (.iload_n 1, 1) := by decide +kernel
theorem dX6_barns_33 : decode cX6_barns 33 = .ok (.iload_n 2, 1) := by decide +kernel
theorem dX6_barns_34 : decode cX6_barns 34 = .ok (.if_icmp .eq 27, 3) := by decide +kernel
theorem dX6_barns_37 : decode cX6_barns 37 = .ok (.iload_n 3, 1) := by decide +kernel
theorem dX6_barns_38 : decode cX6_barns 38 = .ok (.iconst 1, 1) := by decide +kernel
theorem dX6_barns_39 : decode cX6_barns 39 = .ok (.iconst 5, 1) := by decide +kernel
theorem dX6_barns_40 : decode cX6_barns 40 = .ok (.invokestatic 385, 3) := by decide +kernel
theorem dX6_barns_43 : decode cX6_barns 43 = .ok (.ifCond .eq 18, 3) := by decide +kernel
theorem dX6_barns_46 : decode cX6_barns 46 = .ok (.iload 4, 2) := by decide +kernel
theorem dX6_barns_48 : decode cX6_barns 48 = .ok (.iconst 0, 1) := by decide +kernel
theorem dX6_barns_49 : decode cX6_barns 49 = .ok (.bipush 99, 2) := by decide +kernel
theorem dX6_barns_51 : decode cX6_barns 51 = .ok (.invokestatic 385, 3) := by decide +kernel
theorem dX6_barns_54 : decode cX6_barns 54 = .ok (.ifCond .eq 7, 3) := by decide +kernel
theorem dX6_barns_57 : decode cX6_barns 57 = .ok (.iconst 1, 1) := by decide +kernel
theorem dX6_barns_58 : decode cX6_barns 58 = .ok (.goto 4, 3) := by decide +kernel
theorem dX6_barns_61 : decode cX6_barns 61 = .ok (.iconst 0, 1) := by decide +kernel
theorem dX6_barns_62 : decode cX6_barns 62 = .ok (.iconst 2, 1) := by decide +kernel
theorem dX6_barns_63 : decode cX6_barns 63 = .ok (.invokevirtual 290, 3) := by decide +kernel
theorem dX6_barns_66 : decode cX6_barns 66 = .ok (.ifCond .ne 5, 3) := by decide +kernel
theorem dX6_barns_69 : decode cX6_barns 69 = .ok (.iconst 0, 1) := by decide +kernel
theorem dX6_barns_70 : decode cX6_barns 70 = .ok (.ireturn, 1) := by decide +kernel
theorem dX6_barns_71 : decode cX6_barns 71 = .ok (.aload_n 0, 1) := by decide +kernel
theorem dX6_barns_72 : decode cX6_barns 72 = .ok (.iload_n 1, 1) := by decide +kernel
theorem dX6_barns_73 : decode cX6_barns 73 = .ok (.iload_n 2, 1) := by decide +kernel
theorem dX6_barns_74 : decode cX6_barns 74 = .ok (.iload_n 3, 1) := by decide +kernel
theorem dX6_barns_75 : decode cX6_barns 75 = .ok (.iload 4, 2) := by decide +kernel
theorem dX6_barns_77 : decode cX6_barns 77 = .ok (.invokevirtual 453, 3) := by decide +kernel
theorem dX6_barns_80 : decode cX6_barns 80 = .ok (.iconst 0, 1) := by decide +kernel
theorem dX6_barns_81 : decode cX6_barns 81 = .ok (.istore 6, 2) := by decide +kernel
theorem dX6_barns_83 : decode cX6_barns 83 = .ok (.iconst (-1), 1) := by decide +kernel
theorem dX6_barns_84 : decode cX6_barns 84 = .ok (.istore 7, 2) := by decide +kernel
theorem dX6_barns_86 : decode cX6_barns 86 = .ok (.iconst 0, 1) := by decide +kernel
theorem dX6_barns_87 : decode cX6_barns 87 = .ok (.istore 8, 2) := by decide +kernel
theorem dX6_barns_89 : decode cX6_barns 89 = .ok (.iload 8, 2) := by decide +kernel
theorem dX6_barns_91 : decode cX6_barns 91 = .ok (.iconst 4, 1) := by decide +kernel
theorem dX6_barns_92 : decode cX6_barns 92 = .ok (.if_icmp .ge 109, 3) := by decide +kernel
theorem dX6_barns_95 : decode cX6_barns 95 = .ok (.iload 8, 2) := by decide +kernel
theorem dX6_barns_97 : decode cX6_barns 97 = .ok (.iconst 2, 1) := by decide +kernel
theorem dX6_barns_98 : decode cX6_barns 98 = .ok (.iadd, 1) := by decide +kernel
theorem dX6_barns_99 : decode cX6_barns 99 = .ok (.iconst 4, 1) := by decide +kernel
theorem dX6_barns_100 : decode cX6_barns 100 = .ok (.irem, 1) := by decide +kernel
theorem dX6_barns_101 : decode cX6_barns 101 = .ok (.istore 9, 2) := by decide +kernel
theorem dX6_barns_103 : decode cX6_barns 103 = .ok (.iload 8, 2) := by decide +kernel
theorem dX6_barns_105 : decode cX6_barns 105 = .ok (.iconst 2, 1) := by decide +kernel
theorem dX6_barns_106 : decode cX6_barns 106 = .ok (.irem, 1) := by decide +kernel
theorem dX6_barns_107 : decode cX6_barns 107 = .ok (.ifCond .ne 10, 3) := by decide +kernel
theorem dX6_barns_110 : decode cX6_barns 110 = .ok (.iload 8, 2) := by decide +kernel
theorem dX6_barns_112 : decode cX6_barns 112 = .ok (.iconst 1, 1) := by decide +kernel
theorem dX6_barns_113 : decode cX6_barns 113 = .ok (.iadd, 1) := by decide +kernel
theorem dX6_barns_114 : decode cX6_barns 114 = .ok (.goto 7, 3) := by decide +kernel
theorem dX6_barns_117 : decode cX6_barns 117 = .ok (.iload 8, 2) := by decide +kernel
theorem dX6_barns_119 : decode cX6_barns 119 = .ok (.iconst 1, 1) := by decide +kernel
theorem dX6_barns_120 : decode cX6_barns 120 = .ok (.isub, 1) := by decide +kernel
theorem dX6_barns_121 : decode cX6_barns 121 = .ok (.istore 10, 2) := by decide +kernel
theorem dX6_barns_123 : decode cX6_barns 123 = .ok (.aload_n 0, 1) := by decide +kernel
theorem dX6_barns_124 : decode cX6_barns 124 = .ok (.getfield 114, 3) := by decide +kernel
theorem dX6_barns_127 : decode cX6_barns 127 = .ok (.iconst 2, 1) := by decide +kernel
theorem dX6_barns_128 : decode cX6_barns 128 = .ok (.iload 9, 2) := by decide +kernel
theorem dX6_barns_130 : decode cX6_barns 130 = .ok (.imul, 1) := by decide +kernel
theorem dX6_barns_131 : decode cX6_barns 131 = .ok (.iaload, 1) := by decide +kernel
theorem dX6_barns_132 : decode cX6_barns 132 = .ok (.aload_n 0, 1) := by decide +kernel
theorem dX6_barns_133 : decode cX6_barns 133 = .ok (.getfield 114, 3) := by decide +kernel
theorem dX6_barns_136 : decode cX6_barns 136 = .ok (.iconst 2, 1) := by decide +kernel
theorem dX6_barns_137 : decode cX6_barns 137 = .ok (.iload 8, 2) := by decide +kernel
theorem dX6_barns_139 : decode cX6_barns 139 = .ok (.imul, 1) := by decide +kernel
theorem dX6_barns_140 : decode cX6_barns 140 = .ok (.iaload, 1) := by decide +kernel
theorem dX6_barns_141 : decode cX6_barns 141 = .ok (.if_icmp .lt 54, 3) := by decide +kernel
theorem dX6_barns_144 : decode cX6_barns 144 = .ok (.aload_n 0, 1) := by decide +kernel
theorem dX6_barns_145 : decode cX6_barns 145 = .ok (.getfield 114, 3) := by decide +kernel
theorem dX6_barns_148 : decode cX6_barns 148 = .ok (.iconst 2, 1) := by decide +kernel
theorem dX6_barns_149 : decode cX6_barns 149 = .ok (.iload 10, 2) := by decide +kernel
theorem dX6_barns_151 : decode cX6_barns 151 = .ok (.imul, 1) := by decide +kernel
theorem dX6_barns_152 : decode cX6_barns 152 = .ok (.iconst 1, 1) := by decide +kernel
theorem dX6_barns_153 : decode cX6_barns 153 = .ok (.iadd, 1) := by decide +kernel
theorem dX6_barns_154 : decode cX6_barns 154 = .ok (.iaload, 1) := by decide +kernel
theorem dX6_barns_155 : decode cX6_barns 155 = .ok (.aload_n 0, 1) := by decide +kernel
theorem dX6_barns_156 : decode cX6_barns 156 = .ok (.getfield 114, 3) := by decide +kernel
theorem dX6_barns_159 : decode cX6_barns 159 = .ok (.iconst 2, 1) := by decide +kernel
theorem dX6_barns_160 : decode cX6_barns 160 = .ok (.iload 8, 2) := by decide +kernel
theorem dX6_barns_162 : decode cX6_barns 162 = .ok (.imul, 1) := by decide +kernel
theorem dX6_barns_163 : decode cX6_barns 163 = .ok (.iconst 1, 1) := by decide +kernel
theorem dX6_barns_164 : decode cX6_barns 164 = .ok (.iadd, 1) := by decide +kernel
theorem dX6_barns_165 : decode cX6_barns 165 = .ok (.iaload, 1) := by decide +kernel
theorem dX6_barns_166 : decode cX6_barns 166 = .ok (.if_icmp .ge 6, 3) := by decide +kernel
theorem dX6_barns_169 : decode cX6_barns 169 = .ok (.goto 26, 3) := by decide +kernel
theorem dX6_barns_172 : decode cX6_barns 172 = .ok (.iinc 6 1, 3) := by decide +kernel
theorem dX6_barns_175 : decode cX6_barns 175 = .ok (.iload 7, 2) := by decide +kernel
theorem dX6_barns_177 : decode cX6_barns 177 = .ok (.iconst (-1), 1) := by decide +kernel
theorem dX6_barns_178 : decode cX6_barns 178 = .ok (.if_icmp .ne 17, 3) := by decide +kernel
theorem dX6_barns_181 : decode cX6_barns 181 = .ok (.bipush 10, 2) := by decide +kernel
theorem dX6_barns_183 : decode cX6_barns 183 = .ok (.iload 8, 2) := by decide +kernel
theorem dX6_barns_185 : decode cX6_barns 185 = .ok (.iconst 2, 1) := by decide +kernel
theorem dX6_barns_186 : decode cX6_barns 186 = .ok (.idiv, 1) := by decide +kernel
theorem dX6_barns_187 : decode cX6_barns 187 = .ok (.imul, 1) := by decide +kernel
theorem dX6_barns_188 : decode cX6_barns 188 = .ok (.iload 8, 2) := by decide +kernel
theorem dX6_barns_190 : decode cX6_barns 190 = .ok (.iconst 2, 1) := by decide +kernel
theorem dX6_barns_191 : decode cX6_barns 191 = .ok (.irem, 1) := by decide +kernel
theorem dX6_barns_192 : decode cX6_barns 192 = .ok (.iadd, 1) := by decide +kernel
theorem dX6_barns_193 : decode cX6_barns 193 = .ok (.istore 7, 2) := by decide +kernel
theorem dX6_barns_195 : decode cX6_barns 195 = .ok (.iinc 8 1, 3) := by decide +kernel
theorem dX6_barns_198 : decode cX6_barns 198 = .ok (.goto (-109), 3) := by decide +kernel
theorem dX6_barns_201 : decode cX6_barns 201 = .ok (.iload 5, 2) := by decide +kernel
theorem dX6_barns_203 : decode cX6_barns 203 = .ok (.ifCond .ne 8, 3) := by decide +kernel
theorem dX6_barns_206 : decode cX6_barns 206 = .ok (.iload 6, 2) := by decide +kernel
theorem dX6_barns_208 : decode cX6_barns 208 = .ok (.goto 5, 3) := by decide +kernel
theorem dX6_barns_211 : decode cX6_barns 211 = .ok (.iload 7, 2) := by decide +kernel
theorem dX6_barns_213 : decode cX6_barns 213 = .ok (.ireturn, 1) := by decide +kernel
theorem dX6_tell_0 : decode cX6_tell 0 = .ok (.aload_n 0, 1) := by decide +kernel
theorem dX6_tell_1 : decode cX6_tell 1 = .ok (.iconst 0, 1) := by decide +kernel
theorem dX6_tell_2 : decode cX6_tell 2 = .ok (.putfield 129, 3) := by decide +kernel
theorem dX6_tell_5 : decode cX6_tell 5 = .ok (.aload_n 0, 1) := by decide +kernel
theorem dX6_tell_6 : decode cX6_tell 6 = .ok (.iload_n 1, 1) := by decide +kernel
theorem dX6_tell_7 : decode cX6_tell 7 = .ok (.invokevirtual 407, 3) := by decide +kernel
theorem dX6_tell_10 : decode cX6_tell 10 = .ok (.ifCond .ne 5, 3) := by decide +kernel
theorem dX6_tell_13 : decode cX6_tell 13 = .ok (.iconst 0, 1) := by decide +kernel
theorem dX6_tell_14 : decode cX6_tell 14 = .ok (.ireturn, 1) := by decide +kernel
theorem dX6_tell_15 : decode cX6_tell 15 = .ok (.aload_n 0, 1) := by decide +kernel
theorem dX6_tell_16 : decode cX6_tell 16 = .ok (.getfield 313, 3) := by decide +kernel
theorem dX6_tell_19 : decode cX6_tell 19 = .ok (.bipush 6, 2) := by decide +kernel
theorem dX6_tell_21 : decode cX6_tell 21 = .ok (.if_icmp .eq 13, 3) := by decide +kernel
theorem dX6_tell_24 : decode cX6_tell 24 = .ok (.iload_n 2, 1) := by decide +kernel
theorem dX6_tell_25 : decode cX6_tell 25 = .ok (.iconst 0, 1) := by decide +kernel
theorem dX6_tell_26 : decode cX6_tell 26 = .ok (.bipush 99, 2) := by decide +kernel
theorem dX6_tell_28 : decode cX6_tell 28 = .ok (.invokestatic 385, 3) := by decide +kernel
theorem dX6_tell_31 : decode cX6_tell 31 = .ok (.ifCond .ne 10, 3) := by decide +kernel
theorem dX6_tell_34 : decode cX6_tell 34 = .ok (.aload_n 0, 1) := by decide +kernel
theorem dX6_tell_35 : decode cX6_tell 35 = .ok (.iconst 2, 1) := by decide +kernel
theorem dX6_tell_36 : decode cX6_tell 36 = .ok (.iconst (-1), 1) := by decide +kernel
theorem dX6_tell_37 : decode cX6_tell 37 = .ok (.invokevirtual 413, 3) := by decide +kernel
theorem dX6_tell_40 : decode cX6_tell 40 = .ok (.ireturn, 1) := by decide +kernel
theorem dX6_tell_41 : decode cX6_tell 41 = .ok (.aload_n 0, 1) := by decide +kernel
theorem dX6_tell_42 : decode cX6_tell 42 = .ok (.getfield 117, 3) := by decide +kernel
theorem dX6_tell_45 : decode cX6_tell 45 = .ok (.iconst 2, 1) := by decide +kernel
theorem dX6_tell_46 : decode cX6_tell 46 = .ok (.aload_n 0, 1) := by decide +kernel
theorem dX6_tell_47 : decode cX6_tell 47 = .ok (.getfield 313, 3) := by decide +kernel
theorem dX6_tell_50 : decode cX6_tell 50 = .ok (.imul, 1) := by decide +kernel
theorem dX6_tell_51 : decode cX6_tell 51 = .ok (.iload_n 1, 1) := by decide +kernel
theorem dX6_tell_52 : decode cX6_tell 52 = .ok (.iastore, 1) := by decide +kernel
theorem dX6_tell_53 : decode cX6_tell 53 = .ok (.aload_n 0, 1) := by decide +kernel
theorem dX6_tell_54 : decode cX6_tell 54 = .ok (.getfield 117, 3) := by decide +kernel
theorem dX6_tell_57 : decode cX6_tell 57 = .ok (.iconst 2, 1) := by decide +kernel
theorem dX6_tell_58 : decode cX6_tell 58 = .ok (.aload_n 0, 1) := by decide +kernel
theorem dX6_tell_59 : decode cX6_tell 59 = .ok (.getfield 313, 3) := by decide +kernel
theorem dX6_tell_62 : decode cX6_tell 62 = .ok (.imul, 1) := by decide +kernel
theorem dX6_tell_63 : decode cX6_tell 63 = .ok (.iconst 1, 1) := by decide +kernel
theorem dX6_tell_64 : decode cX6_tell 64 = .ok (.iadd, 1) := by decide +kernel
theorem dX6_tell_65 : decode cX6_tell 65 = .ok (.iload_n 2, 1) := by decide +kernel
theorem dX6_tell_66 : decode cX6_tell 66 = .ok (.iastore, 1) := by decide +kernel
theorem dX6_tell_67 : decode cX6_tell 67 = .ok (.aload_n 0, 1) := by decide +kernel
theorem dX6_tell_68 : decode cX6_tell 68 = .ok (.dup, 1) := by decide +kernel
theorem dX6_tell_69 : decode cX6_tell 69 = .ok (.getfield 313, 3) := by decide +kernel
theorem dX6_tell_72 : decode cX6_tell 72 = .ok (.iconst 1, 1) := by decide +kernel
theorem dX6_tell_73 : decode cX6_tell 73 = .ok (.iadd, 1) := by decide +kernel
theorem dX6_tell_74 : decode cX6_tell 74 = .ok (.putfield 313, 3) := by decide +kernel
theorem dX6_tell_77 : decode cX6_tell 77 = .ok (.aload_n 0, 1) := by decide +kernel
theorem dX6_tell_78 : decode cX6_tell 78 = .ok (.getfield 313, 3) := by decide +kernel
theorem dX6_tell_81 : decode cX6_tell 81 = .ok (.ireturn, 1) := by decide +kernel
theorem dX6_forget_0 : decode cX6_forget 0 = .ok (.aload_n 0, 1) := by decide +kernel
theorem dX6_forget_1 : decode cX6_forget 1 = .ok (.iconst 0, 1) := by decide +kernel
theorem dX6_forget_2 : decode cX6_forget 2 = .ok (.putfield 129, 3) := by decide +kernel
theorem dX6_forget_5 : decode cX6_forget 5 = .ok (.aload_n 0, 1) := by decide +kernel
theorem dX6_forget_6 : decode cX6_forget 6 = .ok (.iconst 0, 1) := by decide +kernel
theorem dX6_forget_7 : decode cX6_forget 7 = .ok (.putfield 313, 3) := by decide +kernel
theorem dX6_forget_10 : decode cX6_forget 10 = .ok (.return_, 1) := by decide +kernel
theorem dX6_liarsNow_0 : decode cX6_liarsNow 0 = .ok (.aload_n 0, 1) := by decide +kernel
theorem dX6_liarsNow_1 : decode cX6_liarsNow 1 = .ok (.invokevirtual 379, 3) := by decide +kernel
theorem dX6_liarsNow_4 : decode cX6_liarsNow 4 = .ok (.iconst 0, 1) := by decide +kernel
theorem dX6_liarsNow_5 : decode cX6_liarsNow 5 = .ok (.istore_n 1, 1) := by decide +kernel
theorem dX6_liarsNow_6 : decode cX6_liarsNow 6 = .ok (.iconst 0, 1) := by decide +kernel
theorem dX6_liarsNow_7 : decode cX6_liarsNow 7 = .ok (.istore_n 2, 1) := by decide +kernel
theorem dX6_liarsNow_8 : decode cX6_liarsNow 8 = .ok (.iload_n 2, 1) := by decide +kernel
theorem dX6_liarsNow_9 : decode cX6_liarsNow 9 = .ok (.aload_n 0, 1) := by decide +kernel
theorem dX6_liarsNow_10 : decode cX6_liarsNow 10 = .ok (.getfield 313, 3) := by decide +kernel
theorem dX6_liarsNow_13 : decode cX6_liarsNow 13 = .ok (.if_icmp .ge 55, 3) := by decide +kernel
theorem dX6_liarsNow_16 : decode cX6_liarsNow 16 = .ok (.aload_n 0, 1) := by decide +kernel
theorem dX6_liarsNow_17 : decode cX6_liarsNow 17 = .ok (.aload_n 0, 1) := by decide +kernel
theorem dX6_liarsNow_18 : decode cX6_liarsNow 18 = .ok (.getfield 117, 3) := by decide +kernel
theorem dX6_liarsNow_21 : decode cX6_liarsNow 21 = .ok (.iconst 2, 1) := by decide +kernel
theorem dX6_liarsNow_22 : decode cX6_liarsNow 22 = .ok (.iload_n 2, 1) := by decide +kernel
theorem dX6_liarsNow_23 : decode cX6_liarsNow 23 = .ok (.imul, 1) := by decide +kernel
theorem dX6_liarsNow_24 : decode cX6_liarsNow 24 = .ok (.iaload, 1) := by decide +kernel
theorem dX6_liarsNow_25 : decode cX6_liarsNow 25 = .ok (.invokevirtual 364, 3) := by decide +kernel
theorem dX6_liarsNow_28 : decode cX6_liarsNow 28 = .ok (.iload_n 1, 1) := by decide +kernel
theorem dX6_liarsNow_29 : decode cX6_liarsNow 29 = .ok (.aload_n 0, 1) := by decide +kernel
theorem dX6_liarsNow_30 : decode cX6_liarsNow 30 = .ok (.getfield 354, 3) := by decide +kernel
theorem dX6_liarsNow_33 : decode cX6_liarsNow 33 = .ok (.aload_n 0, 1) := by decide +kernel
theorem dX6_liarsNow_34 : decode cX6_liarsNow 34 = .ok (.getfield 117, 3) := by decide +kernel
theorem dX6_liarsNow_37 : decode cX6_liarsNow 37 = .ok (.iconst 2, 1) := by decide +kernel
theorem dX6_liarsNow_38 : decode cX6_liarsNow 38 = .ok (.iload_n 2, 1) := by decide +kernel
theorem dX6_liarsNow_39 : decode cX6_liarsNow 39 = .ok (.imul, 1) := by decide +kernel
theorem dX6_liarsNow_40 : decode cX6_liarsNow 40 = .ok (.iconst 1, 1) := by decide +kernel
theorem dX6_liarsNow_41 : decode cX6_liarsNow 41 = .ok (.iadd, 1) := by decide +kernel
theorem dX6_liarsNow_42 : decode cX6_liarsNow 42 = .ok (.iaload, 1) := by decide +kernel
theorem dX6_liarsNow_43 : decode cX6_liarsNow 43 = .ok (.if_icmp .eq 16, 3) := by decide +kernel
theorem dX6_liarsNow_46 : decode cX6_liarsNow 46 = .ok (.iconst 1, 1) := by decide +kernel
theorem dX6_liarsNow_47 : decode cX6_liarsNow 47 = .ok (.aload_n 0, 1) := by decide +kernel
theorem dX6_liarsNow_48 : decode cX6_liarsNow 48 = .ok (.getfield 117, 3) := by decide +kernel
theorem dX6_liarsNow_51 : decode cX6_liarsNow 51 = .ok (.iconst 2, 1) := by decide +kernel
theorem dX6_liarsNow_52 : decode cX6_liarsNow 52 = .ok (.iload_n 2, 1) := by decide +kernel
theorem dX6_liarsNow_53 : decode cX6_liarsNow 53 = .ok (.imul, 1) := by decide +kernel
theorem dX6_liarsNow_54 : decode cX6_liarsNow 54 = .ok (.iaload, 1) := by decide +kernel
theorem dX6_liarsNow_55 : decode cX6_liarsNow 55 = .ok (.ishl, 1) := by decide +kernel
theorem dX6_liarsNow_56 : decode cX6_liarsNow 56 = .ok (.goto 4, 3) := by decide +kernel
theorem dX6_liarsNow_59 : decode cX6_liarsNow 59 = .ok (.iconst 0, 1) := by decide +kernel
theorem dX6_liarsNow_60 : decode cX6_liarsNow 60 = .ok (.ior, 1) := by decide +kernel
theorem dX6_liarsNow_61 : decode cX6_liarsNow 61 = .ok (.istore_n 1, 1) := by decide +kernel
theorem dX6_liarsNow_62 : decode cX6_liarsNow 62 = .ok (.iinc 2 1, 3) := by decide +kernel
theorem dX6_liarsNow_65 : decode cX6_liarsNow 65 = .ok (.goto (-57), 3) := by decide +kernel
theorem dX6_liarsNow_68 : decode cX6_liarsNow 68 = .ok (.iload_n 1, 1) := by decide +kernel
theorem dX6_liarsNow_69 : decode cX6_liarsNow 69 = .ok (.ireturn, 1) := by decide +kernel
theorem dX6_liars_0 : decode cX6_liars 0 = .ok (.aload_n 0, 1) := by decide +kernel
theorem dX6_liars_1 : decode cX6_liars 1 = .ok (.iconst 0, 1) := by decide +kernel
theorem dX6_liars_2 : decode cX6_liars 2 = .ok (.putfield 129, 3) := by decide +kernel
theorem dX6_liars_5 : decode cX6_liars 5 = .ok (.aload_n 0, 1) := by decide +kernel
theorem dX6_liars_6 : decode cX6_liars 6 = .ok (.invokevirtual 457, 3) := by decide +kernel
theorem dX6_liars_9 : decode cX6_liars 9 = .ok (.ireturn, 1) := by decide +kernel
theorem dX6_heights_0 : decode cX6_heights 0 = .ok (.aload_n 0, 1) := by decide +kernel
theorem dX6_heights_1 : decode cX6_heights 1 = .ok (.iconst 0, 1) := by decide +kernel
theorem dX6_heights_2 : decode cX6_heights 2 = .ok (.putfield 129, 3) := by decide +kernel
theorem dX6_heights_5 : decode cX6_heights 5 = .ok (.aload_n 0, 1) := by decide +kernel
theorem dX6_heights_6 : decode cX6_heights 6 = .ok (.iload_n 1, 1) := by decide +kernel
theorem dX6_heights_7 : decode cX6_heights 7 = .ok (.invokevirtual 395, 3) := by decide +kernel
theorem dX6_heights_10 : decode cX6_heights 10 = .ok (.ifCond .eq 12, 3) := by decide +kernel
theorem dX6_heights_13 : decode cX6_heights 13 = .ok (.aload_n 0, 1) := by decide +kernel
theorem dX6_heights_14 : decode cX6_heights 14 = .ok (.iload_n 2, 1) := by decide +kernel
theorem dX6_heights_15 : decode cX6_heights 15 = .ok (.iconst 1, 1) := by decide +kernel
theorem dX6_heights_16 : decode cX6_heights 16 = .ok (.invokevirtual 398, 3) := by decide +kernel
theorem dX6_heights_19 : decode cX6_heights 19 = .ok (.ifCond .ne 5, 3) := by decide +kernel
theorem dX6_heights_22 : decode cX6_heights 22 = .ok (.iconst 0, 1) := by decide +kernel
theorem dX6_heights_23 : decode cX6_heights 23 = .ok (.ireturn, 1) := by decide +kernel
theorem dX6_heights_24 : decode cX6_heights 24 = .ok (.aload_n 0, 1) := by decide +kernel
theorem dX6_heights_25 : decode cX6_heights 25 = .ok (.getfield 16, 3) := by decide +kernel
theorem dX6_heights_28 : decode cX6_heights 28 = .ok (.iload_n 1, 1) := by decide +kernel
theorem dX6_heights_29 : decode cX6_heights 29 = .ok (.iaload, 1) := by decide +kernel
theorem dX6_heights_30 : decode cX6_heights 30 = .ok (.istore_n 3, 1) := by decide +kernel
theorem dX6_heights_31 : decode cX6_heights 31 = .ok (.iconst 0, 1) := by decide +kernel
theorem dX6_heights_32 : decode cX6_heights 32 = .ok (.istore 4, 2) := by decide +kernel
theorem dX6_heights_34 : decode cX6_heights 34 = .ok (.iconst (-1), 1) := by decide +kernel
theorem dX6_heights_35 : decode cX6_heights 35 = .ok (.istore 5, 2) := by decide +kernel
theorem dX6_heights_37 : decode cX6_heights 37 = .ok (.bipush 9, 2) := by decide +kernel
theorem dX6_heights_39 : decode cX6_heights 39 = .ok (.istore 6, 2) := by decide +kernel
theorem dX6_heights_41 : decode cX6_heights 41 = .ok (.iload 6, 2) := by decide +kernel
theorem dX6_heights_43 : decode cX6_heights 43 = .ok (.ifCond .lt 34, 3) := by decide +kernel
theorem dX6_heights_46 : decode cX6_heights 46 = .ok (.aload_n 0, 1) := by decide +kernel
theorem dX6_heights_47 : decode cX6_heights 47 = .ok (.getfield 16, 3) := by decide +kernel
theorem dX6_heights_50 : decode cX6_heights 50 = .ok (.iload_n 1, 1) := by decide +kernel
theorem dX6_heights_51 : decode cX6_heights 51 = .ok (.iload 6, 2) := by decide +kernel
theorem dX6_heights_53 : decode cX6_heights 53 = .ok (.iastore, 1) := by decide +kernel
theorem dX6_heights_54 : decode cX6_heights 54 = .ok (.aload_n 0, 1) := by decide +kernel
theorem dX6_heights_55 : decode cX6_heights 55 = .ok (.invokevirtual 457, 3) := by decide +kernel
theorem dX6_heights_58 : decode cX6_heights 58 = .ok (.ifCond .eq 6, 3) := by decide +kernel
theorem dX6_heights_61 : decode cX6_heights 61 = .ok (.goto 10, 3) := by decide +kernel
theorem dX6_heights_64 : decode cX6_heights 64 = .ok (.iinc 4 1, 3) := by decide +kernel
theorem dX6_heights_67 : decode cX6_heights 67 = .ok (.iload 6, 2) := by decide +kernel
theorem dX6_heights_69 : decode cX6_heights 69 = .ok (.istore 5, 2) := by decide +kernel
theorem dX6_heights_71 : decode cX6_heights 71 = .ok (.iinc 6 (-1), 3) := by decide +kernel
theorem dX6_heights_74 : decode cX6_heights 74 = .ok (.goto (-33), 3) := by decide +kernel
theorem dX6_heights_77 : decode cX6_heights 77 = .ok (.aload_n 0, 1) := by decide +kernel
theorem dX6_heights_78 : decode cX6_heights 78 = .ok (.getfield 16, 3) := by decide +kernel
theorem dX6_heights_81 : decode cX6_heights 81 = .ok (.iload_n 1, 1) := by decide +kernel
theorem dX6_heights_82 : decode cX6_heights 82 = .ok (.iload_n 3, 1) := by decide +kernel
theorem dX6_heights_83 : decode cX6_heights 83 = .ok (.iastore, 1) := by decide +kernel
theorem dX6_heights_84 : decode cX6_heights 84 = .ok (.iload_n 2, 1) := by decide +kernel
theorem dX6_heights_85 : decode cX6_heights 85 = .ok (.ifCond .ne 8, 3) := by decide +kernel
theorem dX6_heights_88 : decode cX6_heights 88 = .ok (.iload 4, 2) := by decide +kernel
theorem dX6_heights_90 : decode cX6_heights 90 = .ok (.goto 5, 3) := by decide +kernel
theorem dX6_heights_93 : decode cX6_heights 93 = .ok (.iload 5, 2) := by decide +kernel
theorem dX6_heights_95 : decode cX6_heights 95 = .ok (.ireturn, 1) := by decide +kernel
theorem dX6_cheat_0 : decode cX6_cheat 0 = .ok (.aload_n 0, 1) := by decide +kernel
theorem dX6_cheat_1 : decode cX6_cheat 1 = .ok (.iconst 0, 1) := by decide +kernel
theorem dX6_cheat_2 : decode cX6_cheat 2 = .ok (.putfield 129, 3) := by decide +kernel
theorem dX6_cheat_5 : decode cX6_cheat 5 = .ok (.iconst (-1), 1) := by decide +kernel
theorem dX6_cheat_6 : decode cX6_cheat 6 = .ok (.istore_n 1, 1) := by decide +kernel
theorem dX6_cheat_7 : decode cX6_cheat 7 = .ok (.aload_n 0, 1) := by decide +kernel
theorem dX6_cheat_8 : decode cX6_cheat 8 = .ok (.invokevirtual 457, 3) := by decide +kernel
theorem dX6_cheat_11 : decode cX6_cheat 11 = .ok (.invokestatic 370, 3) := by decide +kernel
theorem dX6_cheat_14 : decode cX6_cheat 14 = .ok (.istore_n 2, 1) := by decide +kernel
theorem dX6_cheat_15 : decode cX6_cheat 15 = .ok (.iconst 0, 1) := by decide +kernel
theorem dX6_cheat_16 : decode cX6_cheat 16 = .ok (.istore_n 3, 1) := by decide +kernel
theorem dX6_cheat_17 : decode cX6_cheat 17 = .ok (.iload_n 3, 1) := by decide +kernel
theorem dX6_cheat_18 : decode cX6_cheat 18 = .ok (.aload_n 0, 1) := by decide +kernel
theorem dX6_cheat_19 : decode cX6_cheat 19 = .ok (.invokevirtual 323, 3) := by decide +kernel
theorem dX6_cheat_22 : decode cX6_cheat 22 = .ok (.if_icmp .ge 97, 3) := by decide +kernel
theorem dX6_cheat_25 : decode cX6_cheat 25 = .ok (.aload_n 0, 1) := by decide +kernel
theorem dX6_cheat_26 : decode cX6_cheat 26 = .ok (.getfield 16, 3) := by decide +kernel
theorem dX6_cheat_29 : decode cX6_cheat 29 = .ok (.iload_n 3, 1) := by decide +kernel
theorem dX6_cheat_30 : decode cX6_cheat 30 = .ok (.iaload, 1) := by decide +kernel
theorem dX6_cheat_31 : decode cX6_cheat 31 = .ok (.istore 4, 2) := by decide +kernel
theorem dX6_cheat_33 : decode cX6_cheat 33 = .ok (.iconst 0, 1) := by decide +kernel
theorem dX6_cheat_34 : decode cX6_cheat 34 = .ok (.istore 5, 2) := by decide +kernel
theorem dX6_cheat_36 : decode cX6_cheat 36 = .ok (.iload 5, 2) := by decide +kernel
theorem dX6_cheat_38 : decode cX6_cheat 38 = .ok (.bipush 9, 2) := by decide +kernel
theorem dX6_cheat_40 : decode cX6_cheat 40 = .ok (.if_icmp .gt 73, 3) := by decide +kernel
theorem dX6_cheat_43 : decode cX6_cheat 43 = .ok (.aload_n 0, 1) := by decide +kernel
theorem dX6_cheat_44 : decode cX6_cheat 44 = .ok (.iload_n 3, 1) := by decide +kernel
theorem dX6_cheat_45 : decode cX6_cheat 45 = .ok (.invokevirtual 326, 3) := by decide +kernel
theorem dX6_cheat_48 : decode cX6_cheat 48 = .ok (.iconst (-1), 1) := by decide +kernel
theorem dX6_cheat_49 : decode cX6_cheat 49 = .ok (.if_icmp .ne 64, 3) := by decide +kernel
theorem dX6_cheat_52 : decode cX6_cheat 52 = .ok (.iload 5, 2) := by decide +kernel
theorem dX6_cheat_54 : decode cX6_cheat 54 = .ok (.iload 4, 2) := by decide +kernel
theorem dX6_cheat_56 : decode cX6_cheat 56 = .ok (.if_icmp .ne 6, 3) := by decide +kernel
theorem dX6_cheat_59 : decode cX6_cheat 59 = .ok (.goto 48, 3) := by decide +kernel
theorem dX6_cheat_62 : decode cX6_cheat 62 = .ok (.aload_n 0, 1) := by decide +kernel
theorem dX6_cheat_63 : decode cX6_cheat 63 = .ok (.getfield 16, 3) := by decide +kernel
theorem dX6_cheat_66 : decode cX6_cheat 66 = .ok (.iload_n 3, 1) := by decide +kernel
theorem dX6_cheat_67 : decode cX6_cheat 67 = .ok (.iload 5, 2) := by decide +kernel
theorem dX6_cheat_69 : decode cX6_cheat 69 = .ok (.iastore, 1) := by decide +kernel
theorem dX6_cheat_70 : decode cX6_cheat 70 = .ok (.aload_n 0, 1) := by decide +kernel
theorem dX6_cheat_71 : decode cX6_cheat 71 = .ok (.invokevirtual 457, 3) := by decide +kernel
theorem dX6_cheat_74 : decode cX6_cheat 74 = .ok (.invokestatic 370, 3) := by decide +kernel
theorem dX6_cheat_77 : decode cX6_cheat 77 = .ok (.istore 6, 2) := by decide +kernel
theorem dX6_cheat_79 : decode cX6_cheat 79 = .ok (.aload_n 0, 1) := by decide +kernel
theorem dX6_cheat_80 : decode cX6_cheat 80 = .ok (.getfield 16, 3) := by decide +kernel
theorem dX6_cheat_83 : decode cX6_cheat 83 = .ok (.iload_n 3, 1) := by decide +kernel
theorem dX6_cheat_84 : decode cX6_cheat 84 = .ok (.iload 4, 2) := by decide +kernel
theorem dX6_cheat_86 : decode cX6_cheat 86 = .ok (.iastore, 1) := by decide +kernel
theorem dX6_cheat_87 : decode cX6_cheat 87 = .ok (.iload 6, 2) := by decide +kernel
theorem dX6_cheat_89 : decode cX6_cheat 89 = .ok (.iload_n 2, 1) := by decide +kernel
theorem dX6_cheat_90 : decode cX6_cheat 90 = .ok (.if_icmp .lt 6, 3) := by decide +kernel
theorem dX6_cheat_93 : decode cX6_cheat 93 = .ok (.goto 14, 3) := by decide +kernel
theorem dX6_cheat_96 : decode cX6_cheat 96 = .ok (.bipush 10, 2) := by decide +kernel
theorem dX6_cheat_98 : decode cX6_cheat 98 = .ok (.iload_n 3, 1) := by decide +kernel
theorem dX6_cheat_99 : decode cX6_cheat 99 = .ok (.imul, 1) := by decide +kernel
theorem dX6_cheat_100 : decode cX6_cheat 100 = .ok (.iload 5, 2) := by decide +kernel
theorem dX6_cheat_102 : decode cX6_cheat 102 = .ok (.iadd, 1) := by decide +kernel
theorem dX6_cheat_103 : decode cX6_cheat 103 = .ok (.istore_n 1, 1) := by decide +kernel
theorem dX6_cheat_104 : decode cX6_cheat 104 = .ok (.iload 6, 2) := by decide +kernel
theorem dX6_cheat_106 : decode cX6_cheat 106 = .ok (.istore_n 2, 1) := by decide +kernel
theorem dX6_cheat_107 : decode cX6_cheat 107 = .ok (.iinc 5 1, 3) := by decide +kernel
theorem dX6_cheat_110 : decode cX6_cheat 110 = .ok (.goto (-74), 3) := by decide +kernel
theorem dX6_cheat_113 : decode cX6_cheat 113 = .ok (.iinc 3 1, 3) := by decide +kernel
theorem dX6_cheat_116 : decode cX6_cheat 116 = .ok (.goto (-99), 3) := by decide +kernel
theorem dX6_cheat_119 : decode cX6_cheat 119 = .ok (.iload_n 1, 1) := by decide +kernel
theorem dX6_cheat_120 : decode cX6_cheat 120 = .ok (.ireturn, 1) := by decide +kernel
theorem dX6_isPoor_0 : decode cX6_isPoor 0 = .ok (.iconst 0, 1) := by decide +kernel
theorem dX6_isPoor_1 : decode cX6_isPoor 1 = .ok (.istore_n 1, 1) := by decide +kernel
theorem dX6_isPoor_2 : decode cX6_isPoor 2 = .ok (.iload_n 1, 1) := by decide +kernel
theorem dX6_isPoor_3 : decode cX6_isPoor 3 = .ok (.aload_n 0, 1) := by decide +kernel
theorem dX6_isPoor_4 : decode cX6_isPoor 4 = .ok (.getfield 297, 3) := by decide +kernel
theorem dX6_isPoor_7 : decode cX6_isPoor 7 = .ok (.if_icmp .ge 23, 3) := by decide +kernel
theorem dX6_isPoor_10 : decode cX6_isPoor 10 = .ok (.aload_n 0, 1) := by decide +kernel
theorem dX6_isPoor_11 : decode cX6_isPoor 11 = .ok (.getfield 75, 3) := by decide +kernel
theorem dX6_isPoor_14 : decode cX6_isPoor 14 = .ok (.bipush 36, 2) := by decide +kernel
theorem dX6_isPoor_16 : decode cX6_isPoor 16 = .ok (.iload_n 1, 1) := by decide +kernel
theorem dX6_isPoor_17 : decode cX6_isPoor 17 = .ok (.iadd, 1) := by decide +kernel
theorem dX6_isPoor_18 : decode cX6_isPoor 18 = .ok (.iaload, 1) := by decide +kernel
theorem dX6_isPoor_19 : decode cX6_isPoor 19 = .ok (.ifCond .ge 5, 3) := by decide +kernel
theorem dX6_isPoor_22 : decode cX6_isPoor 22 = .ok (.iconst 1, 1) := by decide +kernel
theorem dX6_isPoor_23 : decode cX6_isPoor 23 = .ok (.ireturn, 1) := by decide +kernel
theorem dX6_isPoor_24 : decode cX6_isPoor 24 = .ok (.iinc 1 1, 3) := by decide +kernel
theorem dX6_isPoor_27 : decode cX6_isPoor 27 = .ok (.goto (-25), 3) := by decide +kernel
theorem dX6_isPoor_30 : decode cX6_isPoor 30 = .ok (.iconst 0, 1) := by decide +kernel
theorem dX6_isPoor_31 : decode cX6_isPoor 31 = .ok (.ireturn, 1) := by decide +kernel
